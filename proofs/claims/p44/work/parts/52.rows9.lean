/-! HALF-BUILT WORLDS: what a constructor finds and leaves: cells L0 that stand, then those of its own making S; every new cell lies behind all others -/
def hz_bw (w : hz_C) (L : List va_E) : va_W := L.mapIdx (fun i x => (hz_ad w i, x))
theorem hz_bw_at {w : hz_C} {L : List va_E} {i : Nat} {x : va_E} (h : L[i]? = some x) : (hz_bw w L)[i]? = some (hz_ad w i, x) := by simp [hz_bw, h]
theorem hz_bw_set {w : hz_C} {L : List va_E} {i : Nat} {x : va_E} : hz_bw w (L.set i x) = (hz_bw w L).set i (hz_ad w i, x) := by
  apply List.ext_getElem?
  intro j
  simp only [hz_bw, List.getElem?_mapIdx, List.getElem?_set, List.length_mapIdx]
  by_cases hj : i = j
  · subst hj
    by_cases hl : i < L.length <;> simp [hl]
  · simp [hj]
theorem hz_bw_push {w : hz_C} {L : List va_E} {x : va_E} : hz_bw w (L ++ [x]) = hz_bw w L ++ [(hz_ad w L.length, x)] := by simp [hz_bw, List.mapIdx_append]
def hz_Bd (w : hz_C) (L : List va_E) (U : State) (H : Heap) : Prop :=
  va_P (hz_D w) vwCl (hz_bw w L) H ∧ va_K (hz_D w) vwCl (hz_tys w) U ∧ va_D (hz_A w) (hz_bw w L) ∧ hz_up w H.size ∧ ∀ i, hz_ad w (L.length + i) = H.size + i
theorem hz_Bd.moved {w : hz_C} {L : List va_E} {u U : State} {H : Heap} (hvm : u.vm.Alike U.vm) (h : hz_Bd w L u H) : hz_Bd w L U H := ⟨h.1, va_K.moved hvm h.2.1, h.2.2⟩
theorem hz_Bd.end {w : hz_C} {L : List va_E} {s t : State} {H : Heap} (ht : t.heap = H) (hW : hz_Bd w L s H) (hal : s.vm.Alike t.vm) : hz_Bd w L t t.heap := by
  rw [ht]
  exact hW.moved hal
theorem hz_Bd.back {w : hz_C} {L : List va_E} {s t : State} {H1 : Heap} (ht : t.heap = H1) (hvm : s.vm.Alike t.vm) (hB : hz_Bd w L t t.heap) : hz_Bd w L s H1 := by
  rw [ht] at hB
  exact hB.moved hvm.symm
theorem hz_next {w : hz_C} {L0 S : List va_E} {x : va_E} {H H1 : Heap} (h : ∀ i, hz_ad w ((L0 ++ S).length + i) = H.size + i) (z1 : H1.size = H.size + 1) : ∀ i, hz_ad w ((L0 ++ (S ++ [x])).length + i) = H1.size + i := by
  intro i
  have h1 := h (i + 1)
  simp only [List.length_append, List.length_cons, List.length_nil] at h1 ⊢
  rw [z1, show L0.length + (S.length + (0 + 1)) + i = L0.length + S.length + (i + 1) by omega, h1]
  omega
theorem hz_same {w : hz_C} {L0 S S1 : List va_E} {H H1 : Heap} (h : ∀ i, hz_ad w ((L0 ++ S).length + i) = H.size + i) (hl : S1.length = S.length) (z1 : H1.size = H.size) : ∀ i, hz_ad w ((L0 ++ S1).length + i) = H1.size + i := by
  intro i
  have h1 := h i
  simp only [List.length_append] at h1 ⊢
  rw [hl, z1, h1]
def hz_B (p : Program) (l : Launch) (e : Env) (h : Nat) (z : hz_Z) (s : State) (m : MethodId) (args : Array Value) (below : List Frame) (meth : Method) (c : Code) (w : hz_C) (nL : Nat) (Q : State → Prop) (L0 S : List va_E) (pc : Nat) (ls : List (Nat × Value)) (st : List Value) : Prop :=
  (z.2.1 ≤ z.1.1 ∧ z.2.2 ≤ z.1.2) → ∀ (H : Heap) (locs : List Loc) (la : Array Slot), (hz_Bd w (L0 ++ S) s H ∧ H.size = s.heap.size + z.2.1) → va_S (hz_A w) s.heap H locs → lv_has la nL ls → W p l e (hz_rm h z) s m args below meth c H locs z.2.1 z.2.2 Q (F0 m pc la st)
def hz_PB (w : hz_C) (as : List Value) (L : List va_E) : Array Value → State → Prop := va_Pc as (fun U => hz_Bd w L U U.heap ∧ hz_X w U U.heap)
def hz_QB (w : hz_C) (L : List va_E) : Array Value → State → Outcome → State → Prop := va_Qv (fun (_ : Unit) => True) (fun _ t => hz_Bd w L t t.heap) (hz_A w)
def hz_CB (l : Launch) (y : MethodName) (b : ByteArray) (nL : Nat) (h mc ms : Nat) (w : hz_C) (as : List Value) (L L1 : List va_E) : Prop :=
  Met l y (Cond.code y b nL none :: hz_TB) (hz_rm h ((mc, ms), (0, 0))) (hz_PB w as L) (hz_QB w L1) mc ms (hz_A w)
def hz_zn (z : hz_Z) (c k : Nat) : hz_Z := (z.1, (z.2.1 + c, z.2.2 + k))
theorem hz_szW {p : Program} {l : Launch} {e : Env} {R : Room} {s : State} {m : MethodId} {args : Array Value} {below : List Frame} {meth : Method} {c : Code} {H : Heap} {locs : List Loc} {cells slots : Nat} {Q : State → Prop} {g : JFrame} (kk : H.size ≤ s.heap.size + cells → W p l e R s m args below meth c H locs cells slots Q g) : W p l e R s m args below meth c H locs cells slots Q g :=
  fun T hT X => kk (by rw [← hT]; exact X.same.2.2.1) T hT X
theorem hz_ga {L0 S : List va_E} {j : Nat} {x : va_E} (h : S[j]? = some x) : (L0 ++ S)[L0.length + j]? = some x := by
  rw [List.getElem?_append_right (by omega)]
  simpa using h
theorem hz_gs {L0 S : List va_E} {j : Nat} {x : va_E} : (L0 ++ S).set (L0.length + j) x = L0 ++ S.set j x := by
  rw [List.set_append_right _ _ (by omega)]
  simp
section HZB
variable {p : Program} {l : Launch} {e : Env} {h : Nat} {z : hz_Z} {s : State} {m : MethodId} {args : Array Value} {below : List Frame} {meth : Method} {c : Code} {w : hz_C} {N nL : Nat} {Q : State → Prop} {L0 S : List va_E} {pc : Nat} {ls : List (Nat × Value)} {st : List Value} {cc : ByteArray} {own : String} {ret : Option FieldType}
theorem hz_b_ls {ls1 : List (Nat × Value)} (ks : List Nat) (hl : lv_pick ls ks = ls1) (kk : hz_B p l e h z s m args below meth c w nL Q L0 S pc ls1 st) : hz_B p l e h z s m args below meth c w nL Q L0 S pc ls st :=
  fun hzk H locs la hW hS hL => kk hzk H locs la hW hS (lv_sub hL ks hl)
theorem hz_b_iconst (hO : hz_Ok p s m args meth c w cc nL own ret) {n : Int} {v : Int32} (hdg : decode cc pc = .ok (.iconst n, 1)) (hv : Int32.ofInt n = v) (kk : hz_B p l e h z s m args below meth c w nL Q L0 S (pc + 1) ls (.int v :: st)) : hz_B p l e h z s m args below meth c w nL Q L0 S pc ls st :=
  fun hzk H locs la hW hS hL => lv_iconst hO.1.1 hO.1.2.1 hdg hv (kk hzk H locs la hW hS hL)
theorem hz_b_bipush (hO : hz_Ok p s m args meth c w cc nL own ret) {n : Int} {v : Int32} (hdg : decode cc pc = .ok (.bipush n, 2)) (hv : (Int8.ofInt n).toInt32 = v) (kk : hz_B p l e h z s m args below meth c w nL Q L0 S (pc + 2) ls (.int v :: st)) : hz_B p l e h z s m args below meth c w nL Q L0 S pc ls st :=
  fun hzk H locs la hW hS hL => lv_bipush hO.1.1 hO.1.2.1 hdg hv (kk hzk H locs la hW hS hL)
theorem hz_b_sipush (hO : hz_Ok p s m args meth c w cc nL own ret) {n : Int} {v : Int32} (hdg : decode cc pc = .ok (.sipush n, 3)) (hv : (Int16.ofInt n).toInt32 = v) (kk : hz_B p l e h z s m args below meth c w nL Q L0 S (pc + 3) ls (.int v :: st)) : hz_B p l e h z s m args below meth c w nL Q L0 S pc ls st :=
  fun hzk H locs la hW hS hL => lv_sipush hO.1.1 hO.1.2.1 hdg hv (kk hzk H locs la hW hS hL)
theorem hz_b_iload_n (hO : hz_Ok p s m args meth c w cc nL own ret) {k : Fin 4} {i : Nat} {x : Int32} (hdg : decode cc pc = .ok (.iload_n k, 1)) (hi : (k : Nat) = i) (j : Nat) (hj : ls[j]? = some (i, .int x)) (kk : hz_B p l e h z s m args below meth c w nL Q L0 S (pc + 1) ls (.int x :: st)) : hz_B p l e h z s m args below meth c w nL Q L0 S pc ls st :=
  fun hzk H locs la hW hS hL => lv_iload_n hO.1.1 hO.1.2.1 hdg hi (lv_at hL j hj) (kk hzk H locs la hW hS hL)
theorem hz_b_aload_n (hO : hz_Ok p s m args meth c w cc nL own ret) {k : Fin 4} {i x : Nat} (hdg : decode cc pc = .ok (.aload_n k, 1)) (hi : (k : Nat) = i) (j : Nat) (hj : ls[j]? = some (i, .ref x)) (kk : hz_B p l e h z s m args below meth c w nL Q L0 S (pc + 1) ls (.ref x :: st)) : hz_B p l e h z s m args below meth c w nL Q L0 S pc ls st :=
  fun hzk H locs la hW hS hL => lv_aload_n hO.1.1 hO.1.2.1 hdg hi (lv_at hL j hj) (kk hzk H locs la hW hS hL)
theorem hz_b_istore_n (hO : hz_Ok p s m args meth c w cc nL own ret) {k : Fin 4} {i : Nat} {x : Int32} {ls1 : List (Nat × Value)} (hdg : decode cc pc = .ok (.istore_n k, 1)) (hi : (k : Nat) = i) (hn : i < nL) (hl : (i, Value.int x) :: ls.filter (fun q => !(q.1 == i) && !(q.1 + 1 == i && q.2.category == 2)) = ls1) (kk : hz_B p l e h z s m args below meth c w nL Q L0 S (pc + 1) ls1 st) : hz_B p l e h z s m args below meth c w nL Q L0 S pc ls (.int x :: st) :=
  fun hzk H locs la hW hS hL => lv_istore_n hO.1.1 hO.1.2.1 hdg hi hL hn hl (fun la1 hL1 => kk hzk H locs la1 hW hS hL1)
theorem hz_b_iinc (hO : hz_Ok p s m args meth c w cc nL own ret) {i k : Nat} {n : Int} {x v : Int32} {ls1 : List (Nat × Value)} (hdg : decode cc pc = .ok (.iinc i n, 3)) (hk : ls[k]? = some (i, .int x)) (hv : x + Int32.ofInt n = v) (hn : i < nL) (hl : (i, Value.int v) :: ls.filter (fun q => !(q.1 == i) && !(q.1 + 1 == i && q.2.category == 2)) = ls1) (kk : hz_B p l e h z s m args below meth c w nL Q L0 S (pc + 3) ls1 st) : hz_B p l e h z s m args below meth c w nL Q L0 S pc ls st :=
  fun hzk H locs la hW hS hL => lv_iinc hO.1.1 hO.1.2.1 hdg hL hk hv hn hl (fun la1 hL1 => kk hzk H locs la1 hW hS hL1)
theorem hz_b_dup (hO : hz_Ok p s m args meth c w cc nL own ret) {v : Value} (hdg : decode cc pc = .ok (.dup, 1)) (hv : v.category = 1) (kk : hz_B p l e h z s m args below meth c w nL Q L0 S (pc + 1) ls (v :: v :: st)) : hz_B p l e h z s m args below meth c w nL Q L0 S pc ls (v :: st) :=
  fun hzk H locs la hW hS hL => lv_dup hO.1.1 hO.1.2.1 hdg hv (kk hzk H locs la hW hS hL)
theorem hz_b_goto (hO : hz_Ok p s m args meth c w cc nL own ret) {off : Int} {tgt : Nat} (hdg : decode cc pc = .ok (.goto off, 3)) (ht : (pc : Int) + off = (tgt : Int)) (kk : hz_B p l e h z s m args below meth c w nL Q L0 S tgt ls st) : hz_B p l e h z s m args below meth c w nL Q L0 S pc ls st :=
  fun hzk H locs la hW hS hL => lv_goto hO.1.1 hO.1.2.1 hdg ht (kk hzk H locs la hW hS hL)
theorem hz_b_icmp_ge (hO : hz_Ok p s m args meth c w cc nL own ret) {x y : Int32} {off : Int} {tgt : Nat} (hdg : decode cc pc = .ok (.if_icmp .ge off, 3)) (ht : (pc : Int) + off = (tgt : Int)) (kt : y ≤ x → hz_B p l e h z s m args below meth c w nL Q L0 S tgt ls st) (kf : ¬ y ≤ x → hz_B p l e h z s m args below meth c w nL Q L0 S (pc + 3) ls st) : hz_B p l e h z s m args below meth c w nL Q L0 S pc ls (.int y :: .int x :: st) :=
  fun hzk H locs la hW hS hL => lv_icmp_ge hO.1.1 hO.1.2.1 hdg ht (fun q => kt q hzk H locs la hW hS hL) (fun q => kf q hzk H locs la hW hS hL)
theorem hz_b_vret (hO : hz_Ok p s m args meth c w cc nL own none) (hdg : decode cc pc = .ok (.return_, 1)) : hz_B p l e h z s m args below meth c w nL (MQ below (hz_QB w (L0 ++ S)) args s z.2.1 z.2.2 (hz_A w)) L0 S pc ls [] :=
  fun hzk H locs la hW hS hL => W.vret hO.1.1 hO.1.2.1 hO.2.1 (fun t ht hW9 => ⟨⟨(), rfl, trivial, hz_Bd.end ht hW.1 hW9.alike⟩, hS.F ht⟩) hS.2.2 hdg hO.2.2.1
theorem hz_b_obj (hO : hz_Ok p s m args meth c w cc nL own ret) {idx x : Nat} (hlink : Cond.methodLink own idx Lib.objectInit ∈ hz_TB) (hh : 1 ≤ h) (hcat : (st.map fun v => v.category).sum ≤ 8) (hdg : decode cc pc = .ok (.invokespecial idx, 3)) (kk : hz_B p l e h z s m args below meth c w nL Q L0 S (pc + 3) ls st) : hz_B p l e h z s m args below meth c w nL Q L0 S pc ls (.ref x :: st) :=
  fun hzk H locs la hW hS hL => W.objInit hO.1.1 hO.1.2.1 hO.1.2.2.2.1 (hO.1.2.2.2.2 _ hlink) (hO.1.2.2.2.2 _ tw_1_37) (hO.1.2.2.2.2 _ tw_1_38) (g := F0 m pc la (.ref x :: st)) rfl (hL.1.trans hO.1.2.2.1.symm) rfl hdg hh (by show 2 * 0 + _ + 12 ≤ 60 * h; omega) (kk hzk H locs la hW hS hL)
theorem hz_b_in (hO : hz_Ok p s m args meth c w cc nL own ret) : ∀ q : Nat, s.heap.size ≤ q → hz_A w q := hO.2.2.2.2
/-- a new array of numbers -/
theorem hz_b_newa (hO : hz_Ok p s m args meth c w cc nL own ret) {atype : ArrayType} {ty : FieldType} {t n : Nat} {x : Int32} (hty : newarray.typeOf atype = ty) (ht : t < 2) (hts : (hz_tys w)[t]? = some (hz_tc w t, ty)) (hnm : "[" ++ ty.toString = hz_tn t) (hdef : defaultValue ty = .int 0) (harr : Cond.arrayClass ty ∈ hz_TB) (hn : ¬ x < 0) (hN : x.toNatClampNeg = n) (hbytes : n * componentBytes ty ≤ 536870912) (hz1 : z.2.1 + 1 ≤ z.1.1 ∧ z.2.2 + n ≤ z.1.2) (hdg : decode cc pc = .ok (.newarray atype, 2))
    (kk : hz_B p l e h (hz_zn z 1 n) s m args below meth c w nL Q L0 (S ++ [.inl (hz_tc w t, n, .inl (fun _ => 0))]) (pc + 2) ls (.ref (hz_ad w (L0.length + S.length)) :: st)) : hz_B p l e h z s m args below meth c w nL Q L0 S pc ls (.int x :: st) := by
  subst hty
  intro hzk H locs la hWz hS hL
  obtain ⟨hW, hWs⟩ := hWz
  have hlen : H.size = hz_ad w (L0.length + S.length) := by
    have h0 := hW.2.2.2.2 0
    rw [List.length_append] at h0
    simpa using h0.symm
  refine va_newaK hO.1.1 hO.1.2.1 (hO.1.2.2.2.2 _ harr) rfl hdg rfl hn hN hbytes hz1.1 hz1.2 hlen fun H1 cA e1 z1 o1 hAr hNm => ?_
  have hc : cA = hz_tc w t := by
    have h1 := hO.2.2.2.1.2.2.2.2.2.2.2.2.2.1 t (by omega)
    rw [← hnm, hNm] at h1
    exact Option.some.inj h1
  subst hc
  have hk : ∀ (k : Nat) (x : Nat × va_E), (hz_bw w (L0 ++ S))[k]? = some x → H1[x.1]? = H[x.1]? := fun k x hx => o1 x.1 (by rw [← hlen]; exact (hW.1 k x hx).lt)
  refine kk hz1 H1 locs la ⟨⟨?_, hW.2.1, ?_, hW.2.2.2.1.le (by omega), hz_next hW.2.2.2.2 (by omega)⟩, ?_⟩ ⟨Nat.le_trans hS.1 (by omega), fun x h1 h2 => (o1 x (by rw [← hlen]; exact Nat.lt_of_lt_of_le h1 hS.1)).trans (hS.2.1 x h1 h2), hS.2.2⟩ hL
  · rw [← List.append_assoc, hz_bw_push, List.length_append]
    refine (hW.1.kept hk).app (fun k x hx => ?_)
    have hz : k < 1 := (List.getElem?_eq_some_iff.mp hx).1
    rw [show k = 0 by omega] at hx
    cases hx
    show H1[_]? = some (vp_cell _ _)
    rw [e1, hdef]
    rfl
  · rw [← List.append_assoc, hz_bw_push, List.length_append]
    exact hW.2.2.1.push hW.1 hlen.symm (hz_b_in hO _ (by rw [← hlen]; exact hS.1))
  · show _ = s.heap.size + (z.2.1 + 1)
    omega
/-- a new array of references -/
theorem hz_b_newq (hO : hz_Ok p s m args meth c w cc nL own ret) {C : String} {t n idx : Nat} {x : Int32} (ht : t < 4) (hnm : "[" ++ (FieldType.object C).toString = hz_tn t) (hao : va_AO C s) (hcl : Cond.classLink own idx C ∈ hz_TB) (hn : ¬ x < 0) (hN : x.toNatClampNeg = n) (hbytes : n * 4 ≤ 536870912) (hz1 : z.2.1 + 1 ≤ z.1.1 ∧ z.2.2 + n ≤ z.1.2) (hdg : decode cc pc = .ok (.anewarray idx, 3))
    (kk : hz_B p l e h (hz_zn z 1 n) s m args below meth c w nL Q L0 (S ++ [.inl (hz_tc w t, n, .inr (.inr (.inr (.inr (fun _ => none)))))]) (pc + 3) ls (.ref (hz_ad w (L0.length + S.length)) :: st)) : hz_B p l e h z s m args below meth c w nL Q L0 S pc ls (.int x :: st) := by
  subst hN
  intro hzk H locs la hWz hS hL
  obtain ⟨hW, hWs⟩ := hWz
  have hlen : H.size = hz_ad w (L0.length + S.length) := by
    have h0 := hW.2.2.2.2 0
    rw [List.length_append] at h0
    simpa using h0.symm
  refine W.anew hO.1.1 hO.1.2.1 hO.1.2.2.2.1 (hO.1.2.2.2.2 _ hcl) (va_AO.use hao) rfl hdg rfl hn hbytes hz1.1 hz1.2 fun cA kA comp f1 f2 f3 f4 => ?_
  generalize hH1 : H.push ({ cls := cA, slots := Array.replicate x.toNatClampNeg .null, vm := .none } : Cell) = H1
  have z1 : H1.size = H.size + 1 := by rw [← hH1, Array.size_push]
  have e1 : H1[H.size]? = some (arrV cA x.toNatClampNeg (fun _ => .null)) := by rw [← hH1, Array.getElem?_push_size, ← arrV_new]
  have o1 : ∀ q : Nat, q < H.size → H1[q]? = H[q]? := fun q hq => by rw [← hH1, Array.getElem?_push, if_neg (Nat.ne_of_lt hq)]
  have hc : cA = hz_tc w t := by
    have h1 := hO.2.2.2.1.2.2.2.2.2.2.2.2.2.1 t (by omega)
    rw [← hnm, f1] at h1
    exact Option.some.inj h1
  subst hc
  have hk : ∀ (k : Nat) (x : Nat × va_E), (hz_bw w (L0 ++ S))[k]? = some x → H1[x.1]? = H[x.1]? := fun k x hx => o1 x.1 (hW.1 k x hx).lt
  rw [hlen]
  refine kk hz1 H1 locs la ⟨⟨?_, hW.2.1, ?_, hW.2.2.2.1.le (by omega), hz_next hW.2.2.2.2 (by omega)⟩, ?_⟩ ⟨Nat.le_trans hS.1 (by omega), fun x h1 h2 => (o1 x (Nat.lt_of_lt_of_le h1 hS.1)).trans (hS.2.1 x h1 h2), hS.2.2⟩ hL
  · rw [← List.append_assoc, hz_bw_push, List.length_append]
    refine (hW.1.kept hk).app (fun k x hx => ?_)
    have hz : k < 1 := (List.getElem?_eq_some_iff.mp hx).1
    rw [show k = 0 by omega] at hx
    cases hx
    show H1[_]? = some (vp_cell _ _)
    rw [← hlen, e1]
    rfl
  · rw [← List.append_assoc, hz_bw_push, List.length_append]
    exact hW.2.2.1.push hW.1 hlen.symm (hz_b_in hO _ (by rw [← hlen]; exact hS.1))
  · show _ = s.heap.size + (z.2.1 + 1)
    omega
/-- a new object -/
theorem hz_b_new (hO : hz_Ok p s m args meth c w cc nL own ret) {C : String} {T : u_T} {ci nf idx : Nat} (hKl : hz_Kl ci C T nf) (ty : Nat → FieldType) (hty : ∀ k, k < nf → parseFieldDescriptor (T k).2.2.1 = some (ty k)) (hcl : Cond.classLink own idx C ∈ hz_TB) (hinst : Cond.instantiable C nf ∈ hz_TB) (hini : Cond.initialized C ∈ hz_TB) {fs : List Value} (hfs : ∀ j, j < nf → defaultValue (ty j) = vp_V fs j) (hz1 : z.2.1 + 1 ≤ z.1.1 ∧ z.2.2 + nf ≤ z.1.2) (hdg : decode cc pc = .ok (.new idx, 3))
    (kk : hz_B p l e h (hz_zn z 1 nf) s m args below meth c w nL Q L0 (S ++ [.inr (ci, fs)]) (pc + 3) ls (.ref (hz_ad w (L0.length + S.length)) :: st)) : hz_B p l e h z s m args below meth c w nL Q L0 S pc ls st := by
  intro hzk H locs la hWz hS hL
  obtain ⟨hW, hWs⟩ := hWz
  have hlen : H.size = hz_ad w (L0.length + S.length) := by
    have h0 := hW.2.2.2.2 0
    rw [List.length_append] at h0
    simpa using h0.symm
  have hKn := hW.2.1.1 ci _ hKl.1
  refine W.newcK hO.1.1 hO.1.2.1 hO.1.2.2.2.1 (hO.1.2.2.2.2 _ hcl) (hO.1.2.2.2.2 _ hinst) (hO.1.2.2.2.2 _ hini) rfl hdg hz1.1 hz1.2 hKn.2.1 hlen fun H1 kC hkC e1 z1 o1 => ?_
  have hk : ∀ (k : Nat) (x : Nat × va_E), (hz_bw w (L0 ++ S))[k]? = some x → H1[x.1]? = H[x.1]? := fun k x hx => o1 x.1 (by rw [← hlen]; exact (hW.1 k x hx).lt)
  refine kk hz1 H1 locs la ⟨⟨?_, hW.2.1, ?_, hW.2.2.2.1.le (by omega), hz_next hW.2.2.2.2 (by omega)⟩, ?_⟩ ⟨Nat.le_trans hS.1 (by omega), fun x h1 h2 => (o1 x (by rw [← hlen]; exact Nat.lt_of_lt_of_le h1 hS.1)).trans (hS.2.1 x h1 h2), hS.2.2⟩ hL
  · rw [← List.append_assoc, hz_bw_push, List.length_append]
    refine (hW.1.kept hk).app (fun k x hx => ?_)
    have hz : k < 1 := (List.getElem?_eq_some_iff.mp hx).1
    rw [show k = 0 by omega] at hx
    cases hx
    exact ⟨_, hKl.1, (u_born ty hO.1.2.2.2.2 hKl.2 hKn hkC e1 hty).to hfs⟩
  · rw [← List.append_assoc, hz_bw_push, List.length_append]
    exact hW.2.2.1.push hW.1 hlen.symm (hz_b_in hO _ (by rw [← hlen]; exact hS.1))
  · show _ = s.heap.size + (z.2.1 + 1)
    omega
/-- a final field of the object that is being built -/
theorem hz_b_put (hO : hz_Ok p s m args meth c w cc nL own ret) (hin : meth.name = "<init>") {ci n j k idx : Nat} {C ref : String} {T : u_T} {fs : List Value} {ty0 : Nat → FieldType} {v : Value} (hKl : hz_Kl ci C T n) (hty : ∀ k, k < n → parseFieldDescriptor (T k).2.2.1 = some (ty0 k)) (hnm : ∀ a, a < n → ∀ b, b < n → a ≠ b → (T a).2.1 ≠ (T b).2.1) (hSj : S[j]? = some (.inr (ci, fs))) (hk : k < n) (hlink : Cond.fieldLink own idx ref (T k).2.1 (T k).2.2.1 ∈ hz_TB) (href : (T k).1 = ref) (hfin : (T k).2.2.2 = true) (hdecl : (T k).1 = own) (hn : narrow (ty0 k) v = v) (hft : fits (ty0 k) v = true) (hkl : k < fs.length) (hdg : decode cc pc = .ok (.putfield idx, 3))
    (kk : hz_B p l e h z s m args below meth c w nL Q L0 (S.set j (.inr (ci, fs.set k v))) (pc + 3) ls st) : hz_B p l e h z s m args below meth c w nL Q L0 S pc ls (v :: .ref (hz_ad w (L0.length + j)) :: st) := by
  intro hzk H locs la hW hS hL
  have hSH : va_S (hz_A w) H H locs := ⟨Nat.le_refl _, fun _ _ _ => rfl, hS.2.2⟩
  refine va_putF (D := hz_D w) (ci := ci) (v := v) (ty := ty0 k) (C := C) (T := T) (N := n) hO.1.1 hO.1.2.1 hO.1.2.2.2.2 hKl.2 ty0 hty hnm hO.1.2.2.2.1 hW.1.2.1 hW.1.1 hW.1.2.2.1 hSH (L0.length + j) (hz_bw_at (hz_ga hSj)) hKl.1 k hk (hO.1.2.2.2.2 _ hlink) (fun x hx => href ▸ hx) hfin hin hdecl (hty k hk) hn hft hkl hdg (fun H1 locs1 hP hD hS1 => ?_)
  rw [← hz_bw_set, hz_gs] at hP hD
  refine hz_szW (fun hsz => ?_)
  have e1 : H1.size = H.size := by have h1 := hS1.1; have h2 := hW.2; omega
  exact kk hzk H1 locs1 la ⟨⟨hP, hW.1.2.1, hD, by rw [e1]; exact hW.1.2.2.2.1, hz_same hW.1.2.2.2.2 (by simp) e1⟩, by rw [e1]; exact hW.2⟩ ⟨Nat.le_trans hS.1 hS1.1, fun q h1 h2 => (hS1.2.1 q (Nat.lt_of_lt_of_le h1 hS.1) h2).trans (hS.2.1 q h1 h2), hS1.2.2⟩ hL
/-- a field of the object that is being built, not final -/
theorem hz_b_putN (hO : hz_Ok p s m args meth c w cc nL own ret) {ci n j k idx : Nat} {C ref : String} {T : u_T} {fs : List Value} {ty0 : Nat → FieldType} {v : Value} (hKl : hz_Kl ci C T n) (hty : ∀ k, k < n → parseFieldDescriptor (T k).2.2.1 = some (ty0 k)) (hnm : ∀ a, a < n → ∀ b, b < n → a ≠ b → (T a).2.1 ≠ (T b).2.1) (hSj : S[j]? = some (.inr (ci, fs))) (hk : k < n) (hlink : Cond.fieldLink own idx ref (T k).2.1 (T k).2.2.1 ∈ hz_TB) (href : (T k).1 = ref) (hfin : (T k).2.2.2 = false) (hn : narrow (ty0 k) v = v) (hft : fits (ty0 k) v = true) (hkl : k < fs.length) (hdg : decode cc pc = .ok (.putfield idx, 3))
    (kk : hz_B p l e h z s m args below meth c w nL Q L0 (S.set j (.inr (ci, fs.set k v))) (pc + 3) ls st) : hz_B p l e h z s m args below meth c w nL Q L0 S pc ls (v :: .ref (hz_ad w (L0.length + j)) :: st) := by
  intro hzk H locs la hW hS hL
  have hSH : va_S (hz_A w) H H locs := ⟨Nat.le_refl _, fun _ _ _ => rfl, hS.2.2⟩
  refine va_put (D := hz_D w) (ci := ci) (v := v) (ty := ty0 k) (C := C) (T := T) (N := n) hO.1.1 hO.1.2.1 hO.1.2.2.2.2 hKl.2 ty0 hty hnm hO.1.2.2.2.1 hW.1.2.1 hW.1.1 hW.1.2.2.1 hSH (L0.length + j) (hz_bw_at (hz_ga hSj)) hKl.1 k hk (hO.1.2.2.2.2 _ hlink) (fun x hx => href ▸ hx) hfin (hty k hk) hn hft hkl hdg (fun H1 locs1 hP hD hS1 => ?_)
  rw [← hz_bw_set, hz_gs] at hP hD
  refine hz_szW (fun hsz => ?_)
  have e1 : H1.size = H.size := by have h1 := hS1.1; have h2 := hW.2; omega
  exact kk hzk H1 locs1 la ⟨⟨hP, hW.1.2.1, hD, by rw [e1]; exact hW.1.2.2.2.1, hz_same hW.1.2.2.2.2 (by simp) e1⟩, by rw [e1]; exact hW.2⟩ ⟨Nat.le_trans hS.1 hS1.1, fun q h1 h2 => (hS1.2.1 q (Nat.lt_of_lt_of_le h1 hS.1) h2).trans (hS.2.1 q h1 h2), hS1.2.2⟩ hL
theorem hz_b_get (hO : hz_Ok p s m args meth c w cc nL own ret) {ci n j k idx : Nat} {C ref : String} {T : u_T} {fs : List Value} {v : Value} (hKl : hz_Kl ci C T n) (hSj : S[j]? = some (.inr (ci, fs))) (hv : fs[k]? = some v) (hk : k < n) (hlink : Cond.fieldLink own idx ref (T k).2.1 (T k).2.2.1 ∈ hz_TB) (href : (T k).1 = ref) (hdg : decode cc pc = .ok (.getfield idx, 3))
    (kk : hz_B p l e h z s m args below meth c w nL Q L0 S (pc + 3) ls (v :: st)) : hz_B p l e h z s m args below meth c w nL Q L0 S pc ls (.ref (hz_ad w (L0.length + j)) :: st) := by
  intro hzk H locs la hW hS hL
  exact va_get (D := hz_D w) (ci := ci) (v := v) (C := C) (T := T) (N := n) hO.1.1 hO.1.2.1 hO.1.2.2.2.2 hKl.2 hO.1.2.2.2.1 hW.1.2.1 hW.1.1 (L0.length + j) (hz_bw_at (hz_ga hSj)) hKl.1 k hk (hO.1.2.2.2.2 _ hlink) (fun x hx => href ▸ hx) hv hdg (kk hzk H locs la hW hS hL)
/-- a State put into a row of States -/
theorem hz_b_aast (hO : hz_Ok p s m args meth c w cc nL own ret) {j jk n : Nat} {vs : List Value} {f : Nat → Option Nat} {x : Int32} (hSj : S[j]? = some (.inl (hz_tc w 2, n, .inr (.inr (.inr (.inr f)))))) (hSk : S[jk]? = some (.inr (7, vs))) (hin : vp_in x n) (hdg : decode cc pc = .ok (.aastore, 1))
    (kk : hz_B p l e h z s m args below meth c w nL Q L0 (S.set j (.inl (hz_tc w 2, n, .inr (.inr (.inr (.inr (va_up f x.toNatClampNeg (some (hz_ad w (L0.length + jk)))))))))) (pc + 1) ls st) : hz_B p l e h z s m args below meth c w nL Q L0 S pc ls (.ref (hz_ad w (L0.length + jk)) :: .int x :: .ref (hz_ad w (L0.length + j)) :: st) := by
  intro hzk H locs la hW hS hL
  have hSH : va_S (hz_A w) H H locs := ⟨Nat.le_refl _, fun _ _ _ => rfl, hS.2.2⟩
  refine va_astq (D := hz_D w) hO.1.1 hO.1.2.1 hW.1.2.1 hW.1.1 hW.1.2.2.1 hSH (L0.length + j) 2 (L0.length + jk) 7 (r := (RX7, TX7, 20)) (hz_bw_at (hz_ga hSj)) rfl (hz_bw_at (hz_ga hSk)) rfl hin hdg (fun H1 locs1 hP hD hS1 => ?_)
  rw [← hz_bw_set, hz_gs] at hP hD
  refine hz_szW (fun hsz => ?_)
  have e1 : H1.size = H.size := by have h1 := hS1.1; have h2 := hW.2; omega
  exact kk hzk H1 locs1 la ⟨⟨hP, hW.1.2.1, hD, by rw [e1]; exact hW.1.2.2.2.1, hz_same hW.1.2.2.2.2 (by simp) e1⟩, by rw [e1]; exact hW.2⟩ ⟨Nat.le_trans hS.1 hS1.1, fun q h1 h2 => (hS1.2.1 q (Nat.lt_of_lt_of_le h1 hS.1) h2).trans (hS.2.1 q h1 h2), hS1.2.2⟩ hL
theorem hz_b_st {st1 : List Value} (hst : st = st1) (kk : hz_B p l e h z s m args below meth c w nL Q L0 S pc ls st1) : hz_B p l e h z s m args below meth c w nL Q L0 S pc ls st := hst ▸ kk
theorem hz_b_S {S1 : List va_E} (hS : S = S1) (kk : hz_B p l e h z s m args below meth c w nL Q L0 S1 pc ls st) : hz_B p l e h z s m args below meth c w nL Q L0 S pc ls st := hS ▸ kk
theorem hz_b_z {z1 : hz_Z} (hz : z = z1) (kk : hz_B p l e h z1 s m args below meth c w nL Q L0 S pc ls st) : hz_B p l e h z s m args below meth c w nL Q L0 S pc ls st := hz ▸ kk
theorem hz_B_blind {as : List Value} {L : List va_E} : FrameBlind (hz_PB w as L) := fun a U g mk q => ⟨q.1, hz_Bd.moved (u := U) (U := U.calling g mk a) (Vm.Alike.refl U.vm) q.2.1, hz_X_same (u := U) (U := U.calling g mk a) rfl q.2.2⟩
theorem hz_b_pre {as : List Value} {L : List va_E} {H : Heap} {locs : List Loc} (hO : hz_Ok p s m args meth c w cc nL own ret) (hW : hz_Bd w L s H) (hS : va_S (hz_A w) s.heap H locs) : ∀ U : State, U.heap = H → s.WarmedH U.vm → hz_PB w as L as.toArray U :=
  fun U hU hWm => ⟨rfl, by rw [hU]; exact hW.moved hWm.alike, by rw [hU]; exact hz_X_warm hWm (hz_X_kept hO.2.2.2.1 hS.2.1)⟩
/-- a contract of a constructor -/
theorem hz_b_ofW {y : MethodName} {as : List Value} {L1 : List va_E} {mc ms : Nat} {C : String} (hy : plainName y.cls = true) (hC : y.cls = C) (hnm : y.name = "<init>") (hlen : (lg_sl as).length ≤ nL) (hcode : Cond.code y cc nL none ∈ hz_TB)
    (body : ∀ (p : Program) (e : Env) (s : State) (m : MethodId) (args : Array Value) (below : List Frame) (meth : Method) (c : Code), hz_Ok p s m args meth c w cc nL C none → meth.name = "<init>" → hz_B p l e h ((mc, ms), (0, 0)) s m args below meth c w nL (MQ below (hz_QB w L1) args s mc ms (hz_A w)) L0 S 0 (lv_args 0 as) []) : hz_CB l y cc nL h mc ms w as (L0 ++ S) L1 := by
  refine Met.ofW (cc := cc) (maxL := nL) (ret := none) hy rfl ?_
  intro p e s m args below meth c s₁ B hml hv
  obtain ⟨rfl, hWd, hX⟩ := hv
  have hts0 := atoms_spec (ws := Cond.code y cc nL none :: hz_TB) B.pre
  have hown : s.vm.findClass C = some m.cls := hC ▸ findClass_of_methodNamed B.named
  have hin : meth.name = "<init>" := (name_of_methodNamed B.named B.method).1.trans hnm
  have hl := lv_entry as (n := nL) hlen
  rw [lg_entry_eq]
  exact body p e s m as.toArray below meth c ⟨⟨B.exec, B.bytes, hml, hown, fun q hq => hts0 q (List.mem_cons_of_mem _ hq)⟩, B.returns, B.notSynchronized, hX, hWd.2.2.2.1⟩ hin ⟨Nat.zero_le _, Nat.zero_le _⟩ s.heap [] _ ⟨hWd, rfl⟩ va_S.rf hl
/-- what a called constructor's words say -/
def hz_CalI (C : String) (y : MethodName) (b : ByteArray) (nL : Nat) (n : Nat) : Prop := hz_Cal C y b nL none n ∧ Cond.instanceMethod y ∈ hz_TB ∧ y.name = "<init>"
theorem hz_b_fit {hc nLy mc ms : Nat} (hh : hc + 1 ≤ h) (hm : nLy ≤ 41) : (hz_rm hc ((mc, ms), (0, 0))).frames + 1 ≤ (hz_rm h z).frames ∧ 8 + (nLy + 11) + (hz_rm hc ((mc, ms), (0, 0))).locals ≤ (hz_rm h z).locals := by
  refine ⟨hh, ?_⟩
  show 8 + (nLy + 11) + 60 * hc ≤ 60 * h
  omega
theorem hz_b_call (hO : hz_Ok p s m args meth c w cc nL own ret) {idx n nLy hc mc ms x : Nat} {C : String} {y : MethodName} {b : ByteArray} {as rest : List Value} {S1 : List va_E} (hC : hz_CB l y b nLy hc mc ms w (.ref x :: as) (L0 ++ S) (L0 ++ S1)) (hcal : hz_CalI C y b nLy n) (hlink : Cond.methodLink own idx y ∈ hz_TB) (hh : hc + 1 ≤ h) (hn : as.length = n) (hst : st = as.reverse ++ .ref x :: rest) (hcat : (rest.map fun v => v.category).sum ≤ 8) (hz1 : z.2.1 + mc ≤ z.1.1 ∧ z.2.2 + ms ≤ z.1.2) (hlen : S1.length = S.length + mc) (hdg : decode cc pc = .ok (.invokespecial idx, 3))
    (kk : hz_B p l e h (hz_zn z mc ms) s m args below meth c w nL Q L0 S1 (pc + 3) ls rest) : hz_B p l e h z s m args below meth c w nL Q L0 S pc ls st := by
  intro hzk H locs la hW hS hL
  have hts := hO.1.2.2.2.2
  have cw : CallB (hz_rm h z) s args own idx y b nLy none (Cond.code y b nLy none :: hz_TB) (hz_rm hc ((mc, ms), (0, 0))) mc ms n ∧ y.name = "<init>" ∧ (Cond.instanceMethod y).before args s = true := by
    refine ⟨callB_of n hts (hz_goodC hcal.1.1) rfl rfl rfl ?_ (hts _ hlink) hcal.1.2.2.1.2 (hz_b_fit hh hcal.1.2.2.2), hcal.2.2, hts _ hcal.2.1⟩
    rw [hcal.1.2.2.1.1]
    exact hts _ hcal.1.2.1
  refine va_callv (va_runI (As := as) (rest := rest) hO.1 hC cw ⟨hz_B_blind, hz_b_pre hO hW.1 hS⟩ rfl hn hL.1 hst (lv_room hcat) hdg hz1) hS (fun q _ z => z) (fun q z => z) (fun u t H1 locs1 ht hvm hr hB hsz hk1 hS1 => ?_)
  refine kk hz1 H1 locs1 la ⟨hz_Bd.back ht hvm hB, ?_⟩ hS1 hL
  have h1 := hB.2.2.2.2 0
  rw [ht] at h1
  have h2 := hW.1.2.2.2.2 mc
  have h3 := hW.2
  rw [List.length_append] at h1 h2
  show H1.size = s.heap.size + (z.2.1 + mc)
  rw [show L0.length + S1.length + 0 = L0.length + S.length + mc by omega, h2] at h1
  omega
theorem hz_b_callN (hO : hz_Ok p s m args meth c w cc nL own ret) {idx n nLy hc mc ms x : Nat} {C host : String} {y : MethodName} {b : ByteArray} {as rest : List Value} {S1 : List va_E} (hC : hz_CB l y b nLy hc mc ms w (.ref x :: as) (L0 ++ S) (L0 ++ S1)) (hcal : hz_CalI C y b nLy n) (hq : (own, idx, y, host) ∈ hz_nest) (hh : hc + 1 ≤ h) (hn : as.length = n) (hst : st = as.reverse ++ .ref x :: rest) (hcat : (rest.map fun v => v.category).sum ≤ 8) (hz1 : z.2.1 + mc ≤ z.1.1 ∧ z.2.2 + ms ≤ z.1.2) (hlen : S1.length = S.length + mc) (hdg : decode cc pc = .ok (.invokespecial idx, 3))
    (kk : hz_B p l e h (hz_zn z mc ms) s m args below meth c w nL Q L0 S1 (pc + 3) ls rest) : hz_B p l e h z s m args below meth c w nL Q L0 S pc ls st := by
  intro hzk H locs la hW hS hL
  have hts := hO.1.2.2.2.2
  have cw : va_CN (hz_rm h z) s args own idx y host b nLy none (Cond.code y b nLy none :: hz_TB) (hz_rm hc ((mc, ms), (0, 0))) mc ms n ∧ y.name = "<init>" ∧ (Cond.instanceMethod y).before args s = true := by
    refine ⟨va_cnB n hts (hz_goodC hcal.1.1) rfl rfl rfl (hO.2.2.2.1.2.2.2.2.1 _ hq) ?_ hcal.1.2.2.1.2 (hz_b_fit hh hcal.1.2.2.2), hcal.2.2, hts _ hcal.2.1⟩
    rw [hcal.1.2.2.1.1]
    exact hts _ hcal.1.2.1
  refine va_callv (va_runIN (As := as) (rest := rest) hO.1 hC cw ⟨hz_B_blind, hz_b_pre hO hW.1 hS⟩ rfl hn hL.1 hst (lv_room hcat) hdg hz1) hS (fun q _ z => z) (fun q z => z) (fun u t H1 locs1 ht hvm hr hB hsz hk1 hS1 => ?_)
  refine kk hz1 H1 locs1 la ⟨hz_Bd.back ht hvm hB, ?_⟩ hS1 hL
  have h1 := hB.2.2.2.2 0
  rw [ht] at h1
  have h2 := hW.1.2.2.2.2 mc
  have h3 := hW.2
  rw [List.length_append] at h1 h2
  show H1.size = s.heap.size + (z.2.1 + mc)
  rw [show L0.length + S1.length + 0 = L0.length + S.length + mc by omega, h2] at h1
  omega
end HZB
