/-! the enum's constants: x = 0 is null, x = k + 1 the constant k; foreign arrays; arrays of references -/
def hz_ev (w : hz_C) (x : Int32) : Value := va_re (hz_en w) (hz_eo x)
theorem hz_ev_cat {w : hz_C} {x : Int32} : (hz_ev w x).category = 1 := by
  rcases va_re_or (hz_en w) (hz_eo x) with h | ⟨a, h⟩ <;> (show (va_re (hz_en w) (hz_eo x)).category = 1; rw [h]; rfl)
def hz_nn (x : Int32) : Bool := decide (1 ≤ x.toInt) && decide (x.toInt ≤ 10)
def hz_vo (x : Int32) : Bool := x == 0 || hz_nn x
def hz_eF (j : Nat) (x : Int32) : Int32 := (hz_F.getD j ("", "", "", [])).2.2.2.getD (x.toNatClampNeg - 1) 0
theorem hz_nn_e {x : Int32} (h : hz_nn x = true) : 1 ≤ x.toNatClampNeg ∧ x.toNatClampNeg ≤ 10 ∧ hz_eo x = some (x.toNatClampNeg - 1) := by
  have h1 : 1 ≤ x.toInt ∧ x.toInt ≤ 10 := by simpa [hz_nn] using h
  have e : (x.toNatClampNeg : Int) = x.toInt := by show ((x.toInt.toNat : Nat) : Int) = _; omega
  have hx : ¬ x = 0 := by
    intro hx
    subst hx
    exact absurd h1.1 (by decide)
  exact ⟨by omega, by omega, by rw [hz_eo, if_neg hx]⟩
theorem hz_ev_nn {w : hz_C} {x : Int32} (h : hz_nn x = true) : hz_ev w x = .ref (hz_en w (x.toNatClampNeg - 1)) := by
  show va_re (hz_en w) (hz_eo x) = _
  rw [(hz_nn_e h).2.2]
  rfl
theorem hz_eo_inj {x y : Int32} (hx : hz_vo x = true) (hy : hz_vo y = true) (h : hz_eo x = hz_eo y) : x = y := by
  have h1 : x = 0 ∨ hz_nn x = true := by simpa [hz_vo] using hx
  have h2 : y = 0 ∨ hz_nn y = true := by simpa [hz_vo] using hy
  rcases h1 with rfl | h1
  · rcases h2 with rfl | h2
    · rfl
    · rw [(hz_nn_e h2).2.2] at h
      cases h
  · rcases h2 with rfl | h2
    · rw [(hz_nn_e h1).2.2] at h
      cases h
    · have e1 := hz_nn_e h1
      have e2 := hz_nn_e h2
      rw [e1.2.2, e2.2.2] at h
      have h3 := Option.some.inj h
      have h4 : x.toNatClampNeg = y.toNatClampNeg := by omega
      have p1 : 1 ≤ x.toInt ∧ x.toInt ≤ 10 := by simpa [hz_nn] using h1
      have p2 : 1 ≤ y.toInt ∧ y.toInt ≤ 10 := by simpa [hz_nn] using h2
      apply Int32.toInt.inj
      have q1 : (x.toNatClampNeg : Int) = x.toInt := by show ((x.toInt.toNat : Nat) : Int) = _; omega
      have q2 : (y.toNatClampNeg : Int) = y.toInt := by show ((y.toInt.toNat : Nat) : Int) = _; omega
      omega
theorem hz_vo_lt {x : Int32} (hx : hz_vo x = true) {k : Nat} (h : hz_eo x = some k) : k < 10 := by
  have h1 : x = 0 ∨ hz_nn x = true := by simpa [hz_vo] using hx
  rcases h1 with rfl | h1
  · cases h
  · have e1 := hz_nn_e h1
    rw [e1.2.2] at h
    have h3 := Option.some.inj h
    omega
theorem hz_vo_nn {x : Int32} (h : hz_nn x = true) : hz_vo x = true := by simp [hz_vo, h]
section HZ4
variable {p : Program} {l : Launch} {e : Env} {h : Nat} {z : hz_Z} {s : State} {m : MethodId} {args : Array Value} {below : List Frame} {meth : Method} {c : Code} {w : hz_C} {N nL : Nat} {Q : State → Prop} {M : hz_M} {pc : Nat} {ls : List (Nat × Value)} {st : List Value} {cc : ByteArray} {own : String} {ret : Option FieldType}
theorem hz_aload_nE (hO : hz_Ok p s m args meth c w cc nL own ret) {k : Fin 4} {i : Nat} {x : Int32} (hdg : decode cc pc = .ok (.aload_n k, 1)) (hi : (k : Nat) = i) (j : Nat) (hj : ls[j]? = some (i, hz_ev w x)) (kk : hz_G p l e h z s m args below meth c w N nL Q M (pc + 1) ls (hz_ev w x :: st)) : hz_G p l e h z s m args below meth c w N nL Q M pc ls st := by
  intro hzk H locs la hW hS hL
  have hA := lv_at hL j hj
  have hk := kk hzk H locs la hW hS hL
  rcases va_re_or (hz_en w) (hz_eo x) with hv | ⟨a, hv⟩
  · rw [hz_ev, hv] at hA hk
    exact lv_aload_nN hO.1.1 hO.1.2.1 hdg hi hA hk
  · rw [hz_ev, hv] at hA hk
    exact lv_aload_n hO.1.1 hO.1.2.1 hdg hi hA hk
theorem hz_aloadE (hO : hz_Ok p s m args meth c w cc nL own ret) {i : Nat} {x : Int32} (hdg : decode cc pc = .ok (.aload i, 2)) (j : Nat) (hj : ls[j]? = some (i, hz_ev w x)) (kk : hz_G p l e h z s m args below meth c w N nL Q M (pc + 2) ls (hz_ev w x :: st)) : hz_G p l e h z s m args below meth c w N nL Q M pc ls st := by
  intro hzk H locs la hW hS hL
  have hA := lv_at hL j hj
  have hk := kk hzk H locs la hW hS hL
  rcases va_re_or (hz_en w) (hz_eo x) with hv | ⟨a, hv⟩
  · rw [hz_ev, hv] at hA hk
    exact lv_aloadN hO.1.1 hO.1.2.1 hdg hA hk
  · rw [hz_ev, hv] at hA hk
    exact lv_aload hO.1.1 hO.1.2.1 hdg hA hk
theorem hz_astore_nE (hO : hz_Ok p s m args meth c w cc nL own ret) {k : Fin 4} {i : Nat} {x : Int32} {ls1 : List (Nat × Value)} (hdg : decode cc pc = .ok (.astore_n k, 1)) (hi : (k : Nat) = i) (hn : i < nL) (hl : (i, hz_ev w x) :: ls.filter (fun q => !(q.1 == i) && !(q.1 + 1 == i && q.2.category == 2)) = ls1) (kk : hz_G p l e h z s m args below meth c w N nL Q M (pc + 1) ls1 st) : hz_G p l e h z s m args below meth c w N nL Q M pc ls (hz_ev w x :: st) := by
  intro hzk H locs la hW hS hL
  subst hl
  rcases va_re_or (hz_en w) (hz_eo x) with hv | ⟨a, hv⟩
  · rw [hz_ev, hv] at kk ⊢
    exact lv_astore_nN hO.1.1 hO.1.2.1 hdg hi hL hn rfl (fun la1 hL1 => kk hzk H locs la1 hW hS hL1)
  · rw [hz_ev, hv] at kk ⊢
    exact lv_astore_n hO.1.1 hO.1.2.1 hdg hi hL hn rfl (fun la1 hL1 => kk hzk H locs la1 hW hS hL1)
theorem hz_astoreE (hO : hz_Ok p s m args meth c w cc nL own ret) {i : Nat} {x : Int32} {ls1 : List (Nat × Value)} (hdg : decode cc pc = .ok (.astore i, 2)) (hn : i < nL) (hl : (i, hz_ev w x) :: ls.filter (fun q => !(q.1 == i) && !(q.1 + 1 == i && q.2.category == 2)) = ls1) (kk : hz_G p l e h z s m args below meth c w N nL Q M (pc + 2) ls1 st) : hz_G p l e h z s m args below meth c w N nL Q M pc ls (hz_ev w x :: st) := by
  intro hzk H locs la hW hS hL
  subst hl
  rcases va_re_or (hz_en w) (hz_eo x) with hv | ⟨a, hv⟩
  · rw [hz_ev, hv] at kk ⊢
    exact lv_astoreN hO.1.1 hO.1.2.1 hdg hL hn rfl (fun la1 hL1 => kk hzk H locs la1 hW hS hL1)
  · rw [hz_ev, hv] at kk ⊢
    exact lv_astore hO.1.1 hO.1.2.1 hdg hL hn rfl (fun la1 hL1 => kk hzk H locs la1 hW hS hL1)
theorem hz_aconstE (hO : hz_Ok p s m args meth c w cc nL own ret) (hdg : decode cc pc = .ok (.aconst_null, 1)) (kk : hz_G p l e h z s m args below meth c w N nL Q M (pc + 1) ls (hz_ev w 0 :: st)) : hz_G p l e h z s m args below meth c w N nL Q M pc ls st :=
  fun hzk H locs la hW hS hL => lv_null hO.1.1 hO.1.2.1 hdg (kk hzk H locs la hW hS hL)
/-- getstatic of a constant -/
theorem hz_getsE (hO : hz_Ok p s m args meth c w cc nL own ret) {ref n : String} {k idx : Nat} {x : Int32} (hk : k < 10) (hn : hz_nm.getD k "" = n) (hx : hz_eo x = some k) (hlink : Cond.fieldLink own idx ref n "LHotSteps$Order;" ∈ hz_TB) (href : "HotSteps$Order" = ref) (hdg : decode cc pc = .ok (.getstatic idx, 3))
    (kk : hz_G p l e h z s m args below meth c w N nL Q M (pc + 3) ls (hz_ev w x :: st)) : hz_G p l e h z s m args below meth c w N nL Q M pc ls st := by
  subst hn
  have hZ := (hO.2.2.2.1.1.1 k hk).1
  have hk2 : hz_G p l e h z s m args below meth c w N nL Q M (pc + 3) ls (.ref (hz_en w k) :: st) := by
    have e1 : hz_ev w x = .ref (hz_en w k) := by rw [hz_ev, hx]; rfl
    rw [e1] at kk
    exact kk
  exact hz_gets hO hZ hlink href hdg hk2
theorem hz_ev_map {x y : Int32} (hen : ∀ i j, i < 10 → j < 10 → hz_en w i = hz_en w j → i = j) (hx : hz_vo x = true) (hy : hz_vo y = true) (h : (hz_eo x).map (hz_en w) = (hz_eo y).map (hz_en w)) : x = y := by
  apply hz_eo_inj hx hy
  cases h1 : hz_eo x with
  | none =>
    cases h2 : hz_eo y with
    | none => rfl
    | some b => rw [h1, h2] at h; cases h
  | some a =>
    cases h2 : hz_eo y with
    | none => rw [h1, h2] at h; cases h
    | some b =>
      rw [h1, h2] at h
      rw [hen a b (hz_vo_lt hx h1) (hz_vo_lt hy h2) (Option.some.inj h)]
theorem hz_acmp_eq (hO : hz_Ok p s m args meth c w cc nL own ret) {x y : Int32} {off : Int} {tgt : Nat} (hdg : decode cc pc = .ok (.if_acmp .eq off, 3)) (hx : hz_vo x = true) (hy : hz_vo y = true) (ht : (pc : Int) + off = (tgt : Int))
    (kt : x = y → hz_G p l e h z s m args below meth c w N nL Q M tgt ls st) (kf : ¬ x = y → hz_G p l e h z s m args below meth c w N nL Q M (pc + 3) ls st) : hz_G p l e h z s m args below meth c w N nL Q M pc ls (hz_ev w y :: hz_ev w x :: st) :=
  fun hzk H locs la hW hS hL => lv_acmp_eq hO.1.1 hO.1.2.1 hdg ht (fun q => kt (hz_ev_map hO.2.2.2.1.1.2 hx hy q) hzk H locs la hW hS hL) (fun q => kf (fun r => q (by rw [r])) hzk H locs la hW hS hL)
theorem hz_acmp_ne (hO : hz_Ok p s m args meth c w cc nL own ret) {x y : Int32} {off : Int} {tgt : Nat} (hdg : decode cc pc = .ok (.if_acmp .ne off, 3)) (hx : hz_vo x = true) (hy : hz_vo y = true) (ht : (pc : Int) + off = (tgt : Int))
    (kt : ¬ x = y → hz_G p l e h z s m args below meth c w N nL Q M tgt ls st) (kf : x = y → hz_G p l e h z s m args below meth c w N nL Q M (pc + 3) ls st) : hz_G p l e h z s m args below meth c w N nL Q M pc ls (hz_ev w y :: hz_ev w x :: st) :=
  fun hzk H locs la hW hS hL => lv_acmp_ne hO.1.1 hO.1.2.1 hdg ht (fun q => kt (fun r => q (by rw [r])) hzk H locs la hW hS hL) (fun q => kf (hz_ev_map hO.2.2.2.1.1.2 hx hy q) hzk H locs la hW hS hL)
theorem hz_eo_z {x : Int32} (h : x = 0) : hz_eo x = none := by rw [hz_eo, if_pos h]
theorem hz_eo_nz {x : Int32} (h : ¬ x = 0) : hz_eo x = some (x.toNatClampNeg - 1) := by rw [hz_eo, if_neg h]
theorem hz_ifnullE (hO : hz_Ok p s m args meth c w cc nL own ret) {x : Int32} {off : Int} {tgt : Nat} (hdg : decode cc pc = .ok (.ifnull off, 3)) (ht : (pc : Int) + off = (tgt : Int))
    (kt : x = 0 → hz_G p l e h z s m args below meth c w N nL Q M tgt ls st) (kf : ¬ x = 0 → hz_G p l e h z s m args below meth c w N nL Q M (pc + 3) ls st) : hz_G p l e h z s m args below meth c w N nL Q M pc ls (hz_ev w x :: st) := by
  intro hzk H locs la hW hS hL
  by_cases hx : x = 0
  · have e1 : hz_ev w x = .null := by rw [hz_ev, hz_eo_z hx]; rfl
    rw [e1]
    exact lv_ifnullN hO.1.1 hO.1.2.1 hdg ht (kt hx hzk H locs la hW hS hL)
  · have e1 : hz_ev w x = .ref (hz_en w (x.toNatClampNeg - 1)) := by rw [hz_ev, hz_eo_nz hx]; rfl
    rw [e1]
    exact lv_ifnull hO.1.1 hO.1.2.1 hdg (kf hx hzk H locs la hW hS hL)
theorem hz_ifnonnullE (hO : hz_Ok p s m args meth c w cc nL own ret) {x : Int32} {off : Int} {tgt : Nat} (hdg : decode cc pc = .ok (.ifnonnull off, 3)) (ht : (pc : Int) + off = (tgt : Int))
    (kt : ¬ x = 0 → hz_G p l e h z s m args below meth c w N nL Q M tgt ls st) (kf : x = 0 → hz_G p l e h z s m args below meth c w N nL Q M (pc + 3) ls st) : hz_G p l e h z s m args below meth c w N nL Q M pc ls (hz_ev w x :: st) := by
  intro hzk H locs la hW hS hL
  by_cases hx : x = 0
  · have e1 : hz_ev w x = .null := by rw [hz_ev, hz_eo_z hx]; rfl
    rw [e1]
    exact lv_ifnonnullN hO.1.1 hO.1.2.1 hdg (kf hx hzk H locs la hW hS hL)
  · have e1 : hz_ev w x = .ref (hz_en w (x.toNatClampNeg - 1)) := by rw [hz_ev, hz_eo_nz hx]; rfl
    rw [e1]
    exact lv_ifnonnull hO.1.1 hO.1.2.1 hdg ht (kt hx hzk H locs la hW hS hL)
/-- a place of the world is not null -/
theorem hz_ifnullP (hO : hz_Ok p s m args meth c w cc nL own ret) {q : Nat} {off : Int} (hdg : decode cc pc = .ok (.ifnull off, 3)) (kk : hz_G p l e h z s m args below meth c w N nL Q M (pc + 3) ls st) : hz_G p l e h z s m args below meth c w N nL Q M pc ls (.ref q :: st) :=
  fun hzk H locs la hW hS hL => lv_ifnull hO.1.1 hO.1.2.1 hdg (kk hzk H locs la hW hS hL)
theorem hz_ifnonnullP (hO : hz_Ok p s m args meth c w cc nL own ret) {q : Nat} {off : Int} {tgt : Nat} (hdg : decode cc pc = .ok (.ifnonnull off, 3)) (ht : (pc : Int) + off = (tgt : Int)) (kk : hz_G p l e h z s m args below meth c w N nL Q M tgt ls st) : hz_G p l e h z s m args below meth c w N nL Q M pc ls (.ref q :: st) :=
  fun hzk H locs la hW hS hL => lv_ifnonnull hO.1.1 hO.1.2.1 hdg ht (kk hzk H locs la hW hS hL)
/-- a constant's fields -/
theorem hz_getE (hO : hz_Ok p s m args meth c w cc nL own ret) {idx j : Nat} {ref : String} {x : Int32} {q : String × String × String × List Int32} (hx : hz_nn x = true) (hq : hz_F[j]? = some q) (hlink : Cond.fieldLink own idx ref q.2.1 q.2.2.1 ∈ hz_TB) (href : q.1 = ref) (hdg : decode cc pc = .ok (.getfield idx, 3))
    (kk : hz_G p l e h z s m args below meth c w N nL Q M (pc + 3) ls (.int (hz_eF j x) :: st)) : hz_G p l e h z s m args below meth c w N nL Q M pc ls (hz_ev w x :: st) := by
  intro hzk H locs la hW hS hL
  have e1 := hz_nn_e hx
  have e3 : hz_F.getD j ("", "", "", []) = q := by
    rw [List.getD_eq_getElem?_getD, hq]
    rfl
  have e2 : hz_eF j x = q.2.2.2.getD (x.toNatClampNeg - 1) 0 := by rw [hz_eF, e3]
  have hk := kk hzk H locs la hW hS hL
  rw [e2] at hk
  rw [hz_ev_nn hx]
  exact va_getE hO.1.1 hO.1.2.1 hO.2.2.2.1.1 (by show _ < 10; omega) hS hO.1.2.2.2.1 (List.mem_of_getElem? hq) (hO.1.2.2.2.2 _ hlink) (fun z hz => href ▸ hz) hdg hk
/-- the world's row of constants -/
theorem hz_ealdq (hO : hz_Ok p s m args meth c w cc nL own ret) {i n : Nat} {x : Int32} (hsh : hz_SH[i]? = some (.inr (.inr (.inr (.inl n))))) (hi : i < N) (hin : hz_in x n = true) (hdg : decode cc pc = .ok (.aaload, 1))
    (kk : hz_G p l e h z s m args below meth c w N nL Q M (pc + 1) ls (hz_ev w (M i x.toNatClampNeg) :: st)) : hz_G p l e h z s m args below meth c w N nL Q M pc ls (.int x :: .ref (hz_ad w i) :: st) :=
  fun hzk H locs la hW hS hL => va_aldq (D := hz_D w) hO.1.1 hO.1.2.1 hW.2.1 hW.1 i 3 (hz_ws_at hsh hi) rfl (hz_in_e hin) hdg (kk hzk H locs la hW hS hL)
theorem hz_east (hO : hz_Ok p s m args meth c w cc nL own ret) {i n : Nat} {x v : Int32} (hsh : hz_SH[i]? = some (.inr (.inr (.inr (.inl n))))) (hi : i < N) (hin : hz_in x n = true) (hv : hz_nn v = true) (hdg : decode cc pc = .ok (.aastore, 1))
    (kk : hz_G p l e h z s m args below meth c w N nL Q (hz_set M i x.toNatClampNeg v) (pc + 1) ls st) : hz_G p l e h z s m args below meth c w N nL Q M pc ls (hz_ev w v :: .int x :: .ref (hz_ad w i) :: st) := by
  intro hzk H locs la hW hS hL
  have e1 := hz_nn_e hv
  have e : hz_ws w N (hz_set M i x.toNatClampNeg v) = (hz_ws w N M).set i (hz_ad w i, .inl (hz_tc w 3, n, .inr (.inr (.inr (.inr (va_up (fun j => (hz_eo (M i j)).map (hz_en w)) x.toNatClampNeg (some (hz_en w (v.toNatClampNeg - 1))))))))) := by
    rw [hz_ws_set (M := M) hsh hz_set_off, hz_set_row]
    have e3 : (fun j => (hz_eo ((upd (M i) x.toNatClampNeg v) j)).map (hz_en w)) = va_up (fun j => (hz_eo (M i j)).map (hz_en w)) x.toNatClampNeg (some (hz_en w (v.toNatClampNeg - 1))) := by
      funext j
      by_cases hj : j = x.toNatClampNeg
      · simp [upd, va_up, hj, e1.2.2]
      · simp [upd, va_up, hj]
    show _ = (hz_ws w N M).set i _
    rw [← e3]
    rfl
  rw [hz_ev_nn hv]
  obtain ⟨cell, g1, g2, g3, -⟩ := (hO.2.2.2.1.1.1 (v.toNatClampNeg - 1) (by show _ < 10; omega)).2.1.kept hS.2.1
  obtain ⟨kC, hkC, -⟩ := Vm.findClass_spec g3
  refine va_astqM (D := hz_D w) hO.1.1 hO.1.2.1 hW.2.1 hW.1 hW.2.2.1 hS i 3 (hz_ws_at hsh hi) rfl ⟨cell, g1, g2, ⟨kC, hkC⟩, fun comp hc => vb_asgS comp _ hc g3⟩ (hz_in_e hin) hdg (fun H1 locs1 hP hD hS1 => ?_)
  rw [← e] at hP hD
  exact kk hzk H1 locs1 la ⟨hP, hW.2.1, hD, hO.2.2.2.2.le hS1.1⟩ hS1 hL
/-- the world's rows of objects -/
theorem hz_raldq (hO : hz_Ok p s m args meth c w cc nL own ret) {i : Nat} {r : List Nat} {x : Int32} {j : Nat} (hsh : hz_SH[i]? = some (.inr (.inr (.inl (2, r))))) (hi : i < N) (hin : hz_in x r.length = true) (hj : r[x.toNatClampNeg]? = some j) (hdg : decode cc pc = .ok (.aaload, 1))
    (kk : hz_G p l e h z s m args below meth c w N nL Q M (pc + 1) ls (.ref (hz_ad w j) :: st)) : hz_G p l e h z s m args below meth c w N nL Q M pc ls (.int x :: .ref (hz_ad w i) :: st) := by
  intro hzk H locs la hW hS hL
  refine va_aldq (D := hz_D w) hO.1.1 hO.1.2.1 hW.2.1 hW.1 i 2 (hz_ws_at hsh hi) rfl (hz_in_e hin) hdg ?_
  dsimp only
  rw [hj]
  exact kk hzk H locs la hW hS hL
theorem hz_aret (hO : hz_Ok p s m args meth c w cc nL own (some (.object "HotSteps$Order"))) {r : Int32} (hdg : decode cc pc = .ok (.areturn, 1)) : hz_G p l e h z s m args below meth c w N nL (MQ below (hz_Qe w N r M) args s z.2.1 z.2.2 (hz_A w)) M pc ls [hz_ev w r] :=
  fun hzk H locs la hW hS hL => W.aret (v := hz_ev w r) hO.1.1 hO.1.2.1 hO.2.1 (Or.inl ⟨_, rfl⟩) (va_re_or _ _) (fun t ht hW9 => ⟨⟨hz_eo r, (), rfl, rfl, hz_end ht hW hW9.alike⟩, hS.F ht⟩) hS.2.2 hdg hO.2.2.1
theorem hz_callSe (hO : hz_Ok p s m args meth c w cc nL own ret) {idx n nLy hc : Nat} {C : String} {y : MethodName} {b : ByteArray} {rt : Option FieldType} {as rest : List Value} {r : Int32} {M1 : hz_M} (hC : hz_Ct l y b nLy rt hc w N as M (hz_Qe w N r M1)) (hcal : hz_CalS C y b nLy rt n) (hlink : Cond.methodLink own idx y ∈ hz_TB) (hh : hc + 1 ≤ h) (hn : as.length = n) (hst : st = as.reverse ++ rest) (hcat : (rest.map fun v => v.category).sum ≤ 8) (hdg : decode cc pc = .ok (.invokestatic idx, 3))
    (kk : hz_G p l e h z s m args below meth c w N nL Q M1 (pc + 3) ls (hz_ev w r :: rest)) : hz_G p l e h z s m args below meth c w N nL Q M pc ls st := by
  intro hzk H locs la hW hS hL
  refine va_calle (ad := hz_en w) (va_runS (As := as) (rest := rest) hO.1 hC (hz_wS hO hcal hlink hh) ⟨hz_blind, hz_pre hO hW hS⟩ rfl hn hL.1 hst (lv_room hcat) hdg ⟨hzk.1, hzk.2⟩) hS (fun q _ z => z) (fun q z => z) (fun r1 u t H1 locs1 ht hvm hr hB hz1 hk1 hS1 => ?_)
  subst hr
  exact kk hzk H1 locs1 la (hz_back ht hvm hB) hS1 hL
end HZ4
