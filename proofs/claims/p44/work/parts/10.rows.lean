/-! ROWS OVER ONE WORLD: the whole system's cells as numbers M place offset; the objects' shape is fixed (hz_SH). A judgement hz_G: from every heap that holds M, with the listed locals and the stack, the machine comes to Q. -/
def hz_fv (w : hz_C) (r : Nat → Int32) (k : Nat) (f : Option Nat) : Value := match f with
  | none => .int (r k)
  | some j => .ref (hz_ad w j)
def hz_cell (w : hz_C) (r : Nat → Int32) (sh : hz_S) : va_E := match sh with
  | .inl o => .inr (o.1, o.2.mapIdx (fun k f => hz_fv w r k f))
  | .inr (.inl a) => .inl (hz_tc w a.1, a.2, .inl r)
  | .inr (.inr (.inl a)) => .inl (hz_tc w a.1, a.2.length, .inr (.inr (.inr (.inr (fun j => a.2[j]?.map (hz_ad w))))))
  | .inr (.inr (.inr (.inl n))) => .inl (hz_tc w 3, n, .inr (.inr (.inr (.inr (fun j => (hz_eo (r j)).map (hz_en w))))))
  | .inr (.inr (.inr (.inr n))) => .inl (hz_tc w 4, n, .inr (.inr (.inr (.inr (fun j => (hz_eo (r j)).map (hz_ad w))))))
def hz_ws (w : hz_C) (N : Nat) (M : hz_M) : va_W := (hz_SH.take N).mapIdx (fun i sh => (hz_ad w i, hz_cell w (M i) sh))
theorem hz_ws_at {w : hz_C} {N i : Nat} {M : hz_M} {sh : hz_S} (h : hz_SH[i]? = some sh) (hi : i < N) : (hz_ws w N M)[i]? = some (hz_ad w i, hz_cell w (M i) sh) := by
  simp [hz_ws, List.getElem?_mapIdx, List.getElem?_take, hi, h]
theorem hz_ws_set {w : hz_C} {N i : Nat} {M M1 : hz_M} {sh : hz_S} (h : hz_SH[i]? = some sh) (hM : ∀ j, j ≠ i → M1 j = M j) : hz_ws w N M1 = (hz_ws w N M).set i (hz_ad w i, hz_cell w (M1 i) sh) := by
  apply List.ext_getElem?
  intro j
  rw [List.getElem?_set]
  by_cases hj : i = j
  · subst hj
    rw [if_pos rfl]
    by_cases hi : i < N
    · have hl : i < (hz_ws w N M).length := (List.getElem?_eq_some_iff.mp (hz_ws_at (w := w) (M := M) h hi)).1
      rw [if_pos hl, hz_ws_at h hi]
    · have e1 : (hz_ws w N M1)[i]? = none := by
        simp [hz_ws, List.getElem?_mapIdx, List.getElem?_take, hi]
      have e2 : ¬ i < (hz_ws w N M).length := by
        simp only [hz_ws, List.length_mapIdx, List.length_take]
        omega
      rw [if_neg e2, e1]
  · rw [if_neg hj]
    simp only [hz_ws, List.getElem?_mapIdx]
    rw [hM j (fun e => hj e.symm)]
theorem hz_set_row {M : hz_M} {i k : Nat} {v : Int32} : (hz_set M i k v) i = upd (M i) k v := by
  funext b
  simp [hz_set, upd]
theorem hz_set_off {M : hz_M} {i k : Nat} {v : Int32} : ∀ j, j ≠ i → (hz_set M i k v) j = M j := by
  intro j hj
  funext b
  simp [hz_set, hj]
theorem hz_cell_put {w : hz_C} {r : Nat → Int32} {ci k : Nat} {fs : List (Option Nat)} {v : Int32} (hk : fs[k]? = some none) : hz_cell w (upd r k v) (.inl (ci, fs)) = .inr (ci, (fs.mapIdx (fun k f => hz_fv w r k f)).set k (.int v)) := by
  have e : fs.mapIdx (fun j f => hz_fv w (upd r k v) j f) = (fs.mapIdx (fun k f => hz_fv w r k f)).set k (.int v) := by
    apply List.ext_getElem?
    intro j
    rw [List.getElem?_set]
    by_cases hj : k = j
    · subst hj
      have hl : k < (fs.mapIdx (fun k f => hz_fv w r k f)).length := by
        rw [List.length_mapIdx]
        exact (List.getElem?_eq_some_iff.mp hk).1
      rw [if_pos rfl, if_pos hl, List.getElem?_mapIdx, hk]
      simp [hz_fv, upd]
    · rw [if_neg hj]
      simp only [List.getElem?_mapIdx]
      congr 1
      funext f
      cases f with
      | none => simp [hz_fv, upd, Ne.symm hj]
      | some q => rfl
  show (Sum.inr (ci, fs.mapIdx (fun j f => hz_fv w (upd r k v) j f)) : va_E) = _
  rw [e]
/-- the array classes of the world -/
def hz_tys (w : hz_C) : List (ClassId × FieldType) := [(hz_tc w 0, .int), (hz_tc w 1, .boolean), (hz_tc w 2, .object "HotSteps$State"), (hz_tc w 3, .object "HotSteps$Order"), (hz_tc w 4, .object "HotStepsLaw$Own"), (hz_tc w 5, .byte)]
def hz_Wd (w : hz_C) (N : Nat) (M : hz_M) (U : State) (H : Heap) : Prop :=
  va_P (hz_D w) vwCl (hz_ws w N M) H ∧ va_K (hz_D w) vwCl (hz_tys w) U ∧ va_D (hz_A w) (hz_ws w N M) ∧ hz_up w H.size
theorem hz_Wd.moved {w : hz_C} {N : Nat} {M : hz_M} {u U : State} {H : Heap} (hvm : u.vm.Alike U.vm) (h : hz_Wd w N M u H) : hz_Wd w N M U H := ⟨h.1, va_K.moved hvm h.2.1, h.2.2.1, h.2.2.2⟩
theorem hz_goodC {y : MethodName} {b : ByteArray} {n : Nat} {ret : Option FieldType} (h : Cond.code y b n ret ∈ hz_TB) : GoodIn hz_TB (Cond.code y b n ret :: hz_TB) := by
  intro z hz
  rcases List.mem_cons.mp hz with rfl | hz
  · exact hz_good _ h
  · exact hz_good _ hz
/-- the room: cells and slots allowed, and used so far -/
abbrev hz_Z : Type := (Nat × Nat) × (Nat × Nat)
def hz_z0 : hz_Z := ((0, 0), (0, 0))
def hz_z1 : hz_Z := ((1, 6), (0, 0))
def hz_rm (h : Nat) (z : hz_Z) : Room := { frames := h, cells := z.1.1, slots := z.1.2, locals := 60 * h }
/-- what a frame of one of the methods has, wherever it stands -/
def hz_Ok (p : Program) (s : State) (m : MethodId) (args : Array Value) (meth : Method) (c : Code) (w : hz_C) (cc : ByteArray) (nL : Nat) (own : String) (ret : Option FieldType) : Prop :=
  (p.tables.exec = Jvm.exec ∧ c.code = cc ∧ c.maxLocals = nL ∧ s.vm.findClass own = some m.cls ∧ (∀ z ∈ hz_TB, z.before args s = true)) ∧ meth.sig.returnType = ret ∧ meth.locks = false ∧ hz_X w s s.heap ∧ hz_up w s.heap.size
def hz_G (p : Program) (l : Launch) (e : Env) (h : Nat) (z : hz_Z) (s : State) (m : MethodId) (args : Array Value) (below : List Frame) (meth : Method) (c : Code) (w : hz_C) (N nL : Nat) (Q : State → Prop) (M : hz_M) (pc : Nat) (ls : List (Nat × Value)) (st : List Value) : Prop :=
  (z.2.1 ≤ z.1.1 ∧ z.2.2 ≤ z.1.2) → ∀ (H : Heap) (locs : List Loc) (la : Array Slot), hz_Wd w N M s H → va_S (hz_A w) s.heap H locs → lv_has la nL ls → W p l e (hz_rm h z) s m args below meth c H locs z.2.1 z.2.2 Q (F0 m pc la st)
/-- a method's contract: from the world M it comes to the world M1 with the answer r -/
def hz_Pre (w : hz_C) (N : Nat) (as : List Value) (M : hz_M) : Array Value → State → Prop := va_Pc as (fun U => hz_Wd w N M U U.heap ∧ hz_X w U U.heap)
def hz_Qi (w : hz_C) (N : Nat) (r : Int32) (M1 : hz_M) : Array Value → State → Outcome → State → Prop := va_Qi (fun v (_ : Unit) => v = r) (fun _ t => hz_Wd w N M1 t t.heap) (hz_A w)
def hz_Qv (w : hz_C) (N : Nat) (M1 : hz_M) : Array Value → State → Outcome → State → Prop := va_Qv (fun (_ : Unit) => True) (fun _ t => hz_Wd w N M1 t t.heap) (hz_A w)
def hz_Qe (w : hz_C) (N : Nat) (r : Int32) (M1 : hz_M) : Array Value → State → Outcome → State → Prop := va_Qe (hz_en w) (fun v (_ : Unit) => v = hz_eo r) (fun _ t => hz_Wd w N M1 t t.heap) (hz_A w)
def hz_Ct (l : Launch) (y : MethodName) (b : ByteArray) (nL : Nat) (ret : Option FieldType) (h : Nat) (w : hz_C) (N : Nat) (as : List Value) (M : hz_M) (Qc : Array Value → State → Outcome → State → Prop) : Prop :=
  Met l y (Cond.code y b nL ret :: hz_TB) (hz_rm h hz_z0) (hz_Pre w N as M) Qc 0 0 (hz_A w)
/-- pieces of the methods' functions -/
abbrev hz_O : Type := Option (Int32 × hz_M)
def hz_gd (b : Bool) (o : hz_O) : hz_O := match b with
  | true => o
  | false => none
def hz_lt (v : Int32) (f : Int32 → hz_O) : hz_O := f v
def hz_lm (M : hz_M) (f : hz_M → hz_O) : hz_O := f M
def hz_ct (o : hz_O) (f : Int32 → hz_M → hz_O) : hz_O := match o with
  | none => none
  | some q => f q.1 q.2
def hz_in (i : Int32) (n : Nat) : Bool := decide (0 ≤ i.toInt) && decide (i.toInt < n)
def hz_nz (i : Int32) : Bool := !(i == 0)
def hz_bt (i : Int32) : Bool := i == 0 || i == 1
theorem hz_gd_e {b : Bool} {o : hz_O} {x : Int32 × hz_M} (h : hz_gd b o = some x) : b = true ∧ o = some x := by
  cases b with
  | true => exact ⟨rfl, h⟩
  | false => cases h
theorem hz_lt_e {v : Int32} {f : Int32 → hz_O} {x : Int32 × hz_M} (h : hz_lt v f = some x) : ∃ y, y = v ∧ f y = some x := ⟨v, rfl, h⟩
theorem hz_lm_e {M : hz_M} {f : hz_M → hz_O} {x : Int32 × hz_M} (h : hz_lm M f = some x) : ∃ y, y = M ∧ f y = some x := ⟨M, rfl, h⟩
theorem hz_ct_e {o : hz_O} {f : Int32 → hz_M → hz_O} {x : Int32 × hz_M} (h : hz_ct o f = some x) : ∃ (r : Int32) (M1 : hz_M), o = some (r, M1) ∧ f r M1 = some x := by
  cases o with
  | none => cases h
  | some q => exact ⟨q.1, q.2, rfl, h⟩
theorem hz_in_e {i : Int32} {n : Nat} (h : hz_in i n = true) : vp_in i n := by
  rw [vp_in_iff]
  simpa [hz_in] using h
theorem hz_nz_e {i : Int32} (h : hz_nz i = true) : ¬ i = 0 := by
  simpa [hz_nz] using h
theorem hz_bt_e {i : Int32} (h : hz_bt i = true) : narrow .boolean (.int i) = .int i ∧ fits .boolean (.int i) = true ∧ vp_nar .boolean i = i := by
  have h2 : i = 0 ∨ i = 1 := by simpa [hz_bt] using h
  rcases h2 with rfl | rfl <;> exact ⟨rfl, rfl, rfl⟩
theorem hz_some_e {r r1 : Int32} {M M1 : hz_M} (h : (some (r, M) : hz_O) = some (r1, M1)) : r = r1 ∧ M = M1 := by
  cases h
  exact ⟨rfl, rfl⟩
section HZ
variable {p : Program} {l : Launch} {e : Env} {h : Nat} {z : hz_Z} {s : State} {m : MethodId} {args : Array Value} {below : List Frame} {meth : Method} {c : Code} {w : hz_C} {N nL : Nat} {Q : State → Prop} {M : hz_M} {pc : Nat} {ls : List (Nat × Value)} {st : List Value} {cc : ByteArray} {own : String} {ret : Option FieldType}
theorem hz_name {x y : Int32} (hx : y = x) (kk : hz_G p l e h z s m args below meth c w N nL Q M pc ls (.int y :: st)) : hz_G p l e h z s m args below meth c w N nL Q M pc ls (.int x :: st) := hx ▸ kk
theorem hz_nameM {M1 : hz_M} (hx : M1 = M) (kk : hz_G p l e h z s m args below meth c w N nL Q M1 pc ls st) : hz_G p l e h z s m args below meth c w N nL Q M pc ls st := hx ▸ kk
theorem hz_ls {ls1 : List (Nat × Value)} (ks : List Nat) (hl : lv_pick ls ks = ls1) (kk : hz_G p l e h z s m args below meth c w N nL Q M pc ls1 st) : hz_G p l e h z s m args below meth c w N nL Q M pc ls st :=
  fun hzk H locs la hW hS hL => kk hzk H locs la hW hS (lv_sub hL ks hl)
theorem hz_iconst (hO : hz_Ok p s m args meth c w cc nL own ret) {n : Int} {v : Int32} (hdg : decode cc pc = .ok (.iconst n, 1)) (hv : Int32.ofInt n = v) (kk : hz_G p l e h z s m args below meth c w N nL Q M (pc + 1) ls (.int v :: st)) : hz_G p l e h z s m args below meth c w N nL Q M pc ls st :=
  fun hzk H locs la hW hS hL => lv_iconst hO.1.1 hO.1.2.1 hdg hv (kk hzk H locs la hW hS hL)
theorem hz_bipush (hO : hz_Ok p s m args meth c w cc nL own ret) {n : Int} {v : Int32} (hdg : decode cc pc = .ok (.bipush n, 2)) (hv : (Int8.ofInt n).toInt32 = v) (kk : hz_G p l e h z s m args below meth c w N nL Q M (pc + 2) ls (.int v :: st)) : hz_G p l e h z s m args below meth c w N nL Q M pc ls st :=
  fun hzk H locs la hW hS hL => lv_bipush hO.1.1 hO.1.2.1 hdg hv (kk hzk H locs la hW hS hL)
theorem hz_sipush (hO : hz_Ok p s m args meth c w cc nL own ret) {n : Int} {v : Int32} (hdg : decode cc pc = .ok (.sipush n, 3)) (hv : (Int16.ofInt n).toInt32 = v) (kk : hz_G p l e h z s m args below meth c w N nL Q M (pc + 3) ls (.int v :: st)) : hz_G p l e h z s m args below meth c w N nL Q M pc ls st :=
  fun hzk H locs la hW hS hL => lv_sipush hO.1.1 hO.1.2.1 hdg hv (kk hzk H locs la hW hS hL)
theorem hz_iload_n (hO : hz_Ok p s m args meth c w cc nL own ret) {k : Fin 4} {i : Nat} {x : Int32} (hdg : decode cc pc = .ok (.iload_n k, 1)) (hi : (k : Nat) = i) (j : Nat) (hj : ls[j]? = some (i, .int x)) (kk : hz_G p l e h z s m args below meth c w N nL Q M (pc + 1) ls (.int x :: st)) : hz_G p l e h z s m args below meth c w N nL Q M pc ls st :=
  fun hzk H locs la hW hS hL => lv_iload_n hO.1.1 hO.1.2.1 hdg hi (lv_at hL j hj) (kk hzk H locs la hW hS hL)
theorem hz_iload (hO : hz_Ok p s m args meth c w cc nL own ret) {i : Nat} {x : Int32} (hdg : decode cc pc = .ok (.iload i, 2)) (j : Nat) (hj : ls[j]? = some (i, .int x)) (kk : hz_G p l e h z s m args below meth c w N nL Q M (pc + 2) ls (.int x :: st)) : hz_G p l e h z s m args below meth c w N nL Q M pc ls st :=
  fun hzk H locs la hW hS hL => lv_iload hO.1.1 hO.1.2.1 hdg (lv_at hL j hj) (kk hzk H locs la hW hS hL)
theorem hz_aload_n (hO : hz_Ok p s m args meth c w cc nL own ret) {k : Fin 4} {i x : Nat} (hdg : decode cc pc = .ok (.aload_n k, 1)) (hi : (k : Nat) = i) (j : Nat) (hj : ls[j]? = some (i, .ref x)) (kk : hz_G p l e h z s m args below meth c w N nL Q M (pc + 1) ls (.ref x :: st)) : hz_G p l e h z s m args below meth c w N nL Q M pc ls st :=
  fun hzk H locs la hW hS hL => lv_aload_n hO.1.1 hO.1.2.1 hdg hi (lv_at hL j hj) (kk hzk H locs la hW hS hL)
theorem hz_aload (hO : hz_Ok p s m args meth c w cc nL own ret) {i x : Nat} (hdg : decode cc pc = .ok (.aload i, 2)) (j : Nat) (hj : ls[j]? = some (i, .ref x)) (kk : hz_G p l e h z s m args below meth c w N nL Q M (pc + 2) ls (.ref x :: st)) : hz_G p l e h z s m args below meth c w N nL Q M pc ls st :=
  fun hzk H locs la hW hS hL => lv_aload hO.1.1 hO.1.2.1 hdg (lv_at hL j hj) (kk hzk H locs la hW hS hL)
theorem hz_istore_n (hO : hz_Ok p s m args meth c w cc nL own ret) {k : Fin 4} {i : Nat} {x : Int32} {ls1 : List (Nat × Value)} (hdg : decode cc pc = .ok (.istore_n k, 1)) (hi : (k : Nat) = i) (hn : i < nL) (hl : (i, Value.int x) :: ls.filter (fun q => !(q.1 == i) && !(q.1 + 1 == i && q.2.category == 2)) = ls1) (kk : hz_G p l e h z s m args below meth c w N nL Q M (pc + 1) ls1 st) : hz_G p l e h z s m args below meth c w N nL Q M pc ls (.int x :: st) :=
  fun hzk H locs la hW hS hL => lv_istore_n hO.1.1 hO.1.2.1 hdg hi hL hn hl (fun la1 hL1 => kk hzk H locs la1 hW hS hL1)
theorem hz_istore (hO : hz_Ok p s m args meth c w cc nL own ret) {i : Nat} {x : Int32} {ls1 : List (Nat × Value)} (hdg : decode cc pc = .ok (.istore i, 2)) (hn : i < nL) (hl : (i, Value.int x) :: ls.filter (fun q => !(q.1 == i) && !(q.1 + 1 == i && q.2.category == 2)) = ls1) (kk : hz_G p l e h z s m args below meth c w N nL Q M (pc + 2) ls1 st) : hz_G p l e h z s m args below meth c w N nL Q M pc ls (.int x :: st) :=
  fun hzk H locs la hW hS hL => lv_istore hO.1.1 hO.1.2.1 hdg hL hn hl (fun la1 hL1 => kk hzk H locs la1 hW hS hL1)
theorem hz_astore_n (hO : hz_Ok p s m args meth c w cc nL own ret) {k : Fin 4} {i x : Nat} {ls1 : List (Nat × Value)} (hdg : decode cc pc = .ok (.astore_n k, 1)) (hi : (k : Nat) = i) (hn : i < nL) (hl : (i, Value.ref x) :: ls.filter (fun q => !(q.1 == i) && !(q.1 + 1 == i && q.2.category == 2)) = ls1) (kk : hz_G p l e h z s m args below meth c w N nL Q M (pc + 1) ls1 st) : hz_G p l e h z s m args below meth c w N nL Q M pc ls (.ref x :: st) :=
  fun hzk H locs la hW hS hL => lv_astore_n hO.1.1 hO.1.2.1 hdg hi hL hn hl (fun la1 hL1 => kk hzk H locs la1 hW hS hL1)
theorem hz_astore (hO : hz_Ok p s m args meth c w cc nL own ret) {i x : Nat} {ls1 : List (Nat × Value)} (hdg : decode cc pc = .ok (.astore i, 2)) (hn : i < nL) (hl : (i, Value.ref x) :: ls.filter (fun q => !(q.1 == i) && !(q.1 + 1 == i && q.2.category == 2)) = ls1) (kk : hz_G p l e h z s m args below meth c w N nL Q M (pc + 2) ls1 st) : hz_G p l e h z s m args below meth c w N nL Q M pc ls (.ref x :: st) :=
  fun hzk H locs la hW hS hL => lv_astore hO.1.1 hO.1.2.1 hdg hL hn hl (fun la1 hL1 => kk hzk H locs la1 hW hS hL1)
theorem hz_iinc (hO : hz_Ok p s m args meth c w cc nL own ret) {i k : Nat} {n : Int} {x v : Int32} {ls1 : List (Nat × Value)} (hdg : decode cc pc = .ok (.iinc i n, 3)) (hk : ls[k]? = some (i, .int x)) (hv : x + Int32.ofInt n = v) (hn : i < nL) (hl : (i, Value.int v) :: ls.filter (fun q => !(q.1 == i) && !(q.1 + 1 == i && q.2.category == 2)) = ls1) (kk : hz_G p l e h z s m args below meth c w N nL Q M (pc + 3) ls1 st) : hz_G p l e h z s m args below meth c w N nL Q M pc ls st :=
  fun hzk H locs la hW hS hL => lv_iinc hO.1.1 hO.1.2.1 hdg hL hk hv hn hl (fun la1 hL1 => kk hzk H locs la1 hW hS hL1)
theorem hz_iadd (hO : hz_Ok p s m args meth c w cc nL own ret) {x y : Int32} (hdg : decode cc pc = .ok (.iadd, 1)) (kk : hz_G p l e h z s m args below meth c w N nL Q M (pc + 1) ls (.int (x + y) :: st)) : hz_G p l e h z s m args below meth c w N nL Q M pc ls (.int y :: .int x :: st) :=
  fun hzk H locs la hW hS hL => lv_iadd hO.1.1 hO.1.2.1 hdg (kk hzk H locs la hW hS hL)
theorem hz_isub (hO : hz_Ok p s m args meth c w cc nL own ret) {x y : Int32} (hdg : decode cc pc = .ok (.isub, 1)) (kk : hz_G p l e h z s m args below meth c w N nL Q M (pc + 1) ls (.int (x - y) :: st)) : hz_G p l e h z s m args below meth c w N nL Q M pc ls (.int y :: .int x :: st) :=
  fun hzk H locs la hW hS hL => lv_isub hO.1.1 hO.1.2.1 hdg (kk hzk H locs la hW hS hL)
theorem hz_imul (hO : hz_Ok p s m args meth c w cc nL own ret) {x y : Int32} (hdg : decode cc pc = .ok (.imul, 1)) (kk : hz_G p l e h z s m args below meth c w N nL Q M (pc + 1) ls (.int (x * y) :: st)) : hz_G p l e h z s m args below meth c w N nL Q M pc ls (.int y :: .int x :: st) :=
  fun hzk H locs la hW hS hL => lv_imul hO.1.1 hO.1.2.1 hdg (kk hzk H locs la hW hS hL)
theorem hz_iand (hO : hz_Ok p s m args meth c w cc nL own ret) {x y : Int32} (hdg : decode cc pc = .ok (.iand, 1)) (kk : hz_G p l e h z s m args below meth c w N nL Q M (pc + 1) ls (.int (x &&& y) :: st)) : hz_G p l e h z s m args below meth c w N nL Q M pc ls (.int y :: .int x :: st) :=
  fun hzk H locs la hW hS hL => lv_iand hO.1.1 hO.1.2.1 hdg (kk hzk H locs la hW hS hL)
theorem hz_ior (hO : hz_Ok p s m args meth c w cc nL own ret) {x y : Int32} (hdg : decode cc pc = .ok (.ior, 1)) (kk : hz_G p l e h z s m args below meth c w N nL Q M (pc + 1) ls (.int (x ||| y) :: st)) : hz_G p l e h z s m args below meth c w N nL Q M pc ls (.int y :: .int x :: st) :=
  fun hzk H locs la hW hS hL => lv_ior hO.1.1 hO.1.2.1 hdg (kk hzk H locs la hW hS hL)
theorem hz_idiv (hO : hz_Ok p s m args meth c w cc nL own ret) {x y : Int32} (hdg : decode cc pc = .ok (.idiv, 1)) (hne : ¬ y = 0) (kk : hz_G p l e h z s m args below meth c w N nL Q M (pc + 1) ls (.int (x / y) :: st)) : hz_G p l e h z s m args below meth c w N nL Q M pc ls (.int y :: .int x :: st) :=
  fun hzk H locs la hW hS hL => lv_idiv hO.1.1 hO.1.2.1 hdg hne (kk hzk H locs la hW hS hL)
theorem hz_irem (hO : hz_Ok p s m args meth c w cc nL own ret) {x y : Int32} (hdg : decode cc pc = .ok (.irem, 1)) (hne : ¬ y = 0) (kk : hz_G p l e h z s m args below meth c w N nL Q M (pc + 1) ls (.int (x - x / y * y) :: st)) : hz_G p l e h z s m args below meth c w N nL Q M pc ls (.int y :: .int x :: st) :=
  fun hzk H locs la hW hS hL => lv_irem hO.1.1 hO.1.2.1 hdg hne (kk hzk H locs la hW hS hL)
theorem hz_ishl (hO : hz_Ok p s m args meth c w cc nL own ret) {x y : Int32} (hdg : decode cc pc = .ok (.ishl, 1)) (kk : hz_G p l e h z s m args below meth c w N nL Q M (pc + 1) ls (.int (x <<< (y &&& 31)) :: st)) : hz_G p l e h z s m args below meth c w N nL Q M pc ls (.int y :: .int x :: st) :=
  fun hzk H locs la hW hS hL => lv_ishl hO.1.1 hO.1.2.1 hdg (kk hzk H locs la hW hS hL)
theorem hz_ishr (hO : hz_Ok p s m args meth c w cc nL own ret) {x y : Int32} (hdg : decode cc pc = .ok (.ishr, 1)) (kk : hz_G p l e h z s m args below meth c w N nL Q M (pc + 1) ls (.int (x >>> (y &&& 31)) :: st)) : hz_G p l e h z s m args below meth c w N nL Q M pc ls (.int y :: .int x :: st) :=
  fun hzk H locs la hW hS hL => lv_ishr hO.1.1 hO.1.2.1 hdg (kk hzk H locs la hW hS hL)
theorem hz_iushr (hO : hz_Ok p s m args meth c w cc nL own ret) {x y : Int32} (hdg : decode cc pc = .ok (.iushr, 1)) (kk : hz_G p l e h z s m args below meth c w N nL Q M (pc + 1) ls (.int ((x.toUInt32 >>> (y.toUInt32 &&& Int32.toUInt32 31)).toInt32) :: st)) : hz_G p l e h z s m args below meth c w N nL Q M pc ls (.int y :: .int x :: st) :=
  fun hzk H locs la hW hS hL => lv_iushr hO.1.1 hO.1.2.1 hdg rfl (kk hzk H locs la hW hS hL)
theorem hz_dup (hO : hz_Ok p s m args meth c w cc nL own ret) {v : Value} (hdg : decode cc pc = .ok (.dup, 1)) (hv : v.category = 1) (kk : hz_G p l e h z s m args below meth c w N nL Q M (pc + 1) ls (v :: v :: st)) : hz_G p l e h z s m args below meth c w N nL Q M pc ls (v :: st) :=
  fun hzk H locs la hW hS hL => lv_dup hO.1.1 hO.1.2.1 hdg hv (kk hzk H locs la hW hS hL)
theorem hz_pop (hO : hz_Ok p s m args meth c w cc nL own ret) {v : Value} (hdg : decode cc pc = .ok (.pop, 1)) (hv : v.category = 1) (kk : hz_G p l e h z s m args below meth c w N nL Q M (pc + 1) ls st) : hz_G p l e h z s m args below meth c w N nL Q M pc ls (v :: st) :=
  fun hzk H locs la hW hS hL => lv_pop hO.1.1 hO.1.2.1 hdg hv (kk hzk H locs la hW hS hL)
theorem hz_dup2 (hO : hz_Ok p s m args meth c w cc nL own ret) {u v : Value} (hdg : decode cc pc = .ok (.dup2, 1)) (hu : u.category = 1) (hv : v.category = 1) (kk : hz_G p l e h z s m args below meth c w N nL Q M (pc + 1) ls (u :: v :: u :: v :: st)) : hz_G p l e h z s m args below meth c w N nL Q M pc ls (u :: v :: st) :=
  fun hzk H locs la hW hS hL => lv_dup2_11 hO.1.1 hO.1.2.1 hdg hu hv (kk hzk H locs la hW hS hL)
theorem hz_icmp_eq (hO : hz_Ok p s m args meth c w cc nL own ret) {x y : Int32} {off : Int} {tgt : Nat} (hdg : decode cc pc = .ok (.if_icmp .eq off, 3)) (ht : (pc : Int) + off = (tgt : Int)) (kt : x = y → hz_G p l e h z s m args below meth c w N nL Q M tgt ls st) (kf : ¬ x = y → hz_G p l e h z s m args below meth c w N nL Q M (pc + 3) ls st) : hz_G p l e h z s m args below meth c w N nL Q M pc ls (.int y :: .int x :: st) :=
  fun hzk H locs la hW hS hL => lv_icmp_eq hO.1.1 hO.1.2.1 hdg ht (fun q => kt q hzk H locs la hW hS hL) (fun q => kf q hzk H locs la hW hS hL)
theorem hz_if_eq (hO : hz_Ok p s m args meth c w cc nL own ret) {x : Int32} {off : Int} {tgt : Nat} (hdg : decode cc pc = .ok (.ifCond .eq off, 3)) (ht : (pc : Int) + off = (tgt : Int)) (kt : x = 0 → hz_G p l e h z s m args below meth c w N nL Q M tgt ls st) (kf : ¬ x = 0 → hz_G p l e h z s m args below meth c w N nL Q M (pc + 3) ls st) : hz_G p l e h z s m args below meth c w N nL Q M pc ls (.int x :: st) :=
  fun hzk H locs la hW hS hL => lv_if_eq hO.1.1 hO.1.2.1 hdg ht (fun q => kt q hzk H locs la hW hS hL) (fun q => kf q hzk H locs la hW hS hL)
theorem hz_icmp_ne (hO : hz_Ok p s m args meth c w cc nL own ret) {x y : Int32} {off : Int} {tgt : Nat} (hdg : decode cc pc = .ok (.if_icmp .ne off, 3)) (ht : (pc : Int) + off = (tgt : Int)) (kt : ¬ x = y → hz_G p l e h z s m args below meth c w N nL Q M tgt ls st) (kf : x = y → hz_G p l e h z s m args below meth c w N nL Q M (pc + 3) ls st) : hz_G p l e h z s m args below meth c w N nL Q M pc ls (.int y :: .int x :: st) :=
  fun hzk H locs la hW hS hL => lv_icmp_ne hO.1.1 hO.1.2.1 hdg ht (fun q => kt q hzk H locs la hW hS hL) (fun q => kf q hzk H locs la hW hS hL)
theorem hz_if_ne (hO : hz_Ok p s m args meth c w cc nL own ret) {x : Int32} {off : Int} {tgt : Nat} (hdg : decode cc pc = .ok (.ifCond .ne off, 3)) (ht : (pc : Int) + off = (tgt : Int)) (kt : ¬ x = 0 → hz_G p l e h z s m args below meth c w N nL Q M tgt ls st) (kf : x = 0 → hz_G p l e h z s m args below meth c w N nL Q M (pc + 3) ls st) : hz_G p l e h z s m args below meth c w N nL Q M pc ls (.int x :: st) :=
  fun hzk H locs la hW hS hL => lv_if_ne hO.1.1 hO.1.2.1 hdg ht (fun q => kt q hzk H locs la hW hS hL) (fun q => kf q hzk H locs la hW hS hL)
theorem hz_icmp_lt (hO : hz_Ok p s m args meth c w cc nL own ret) {x y : Int32} {off : Int} {tgt : Nat} (hdg : decode cc pc = .ok (.if_icmp .lt off, 3)) (ht : (pc : Int) + off = (tgt : Int)) (kt : x < y → hz_G p l e h z s m args below meth c w N nL Q M tgt ls st) (kf : ¬ x < y → hz_G p l e h z s m args below meth c w N nL Q M (pc + 3) ls st) : hz_G p l e h z s m args below meth c w N nL Q M pc ls (.int y :: .int x :: st) :=
  fun hzk H locs la hW hS hL => lv_icmp_lt hO.1.1 hO.1.2.1 hdg ht (fun q => kt q hzk H locs la hW hS hL) (fun q => kf q hzk H locs la hW hS hL)
theorem hz_if_lt (hO : hz_Ok p s m args meth c w cc nL own ret) {x : Int32} {off : Int} {tgt : Nat} (hdg : decode cc pc = .ok (.ifCond .lt off, 3)) (ht : (pc : Int) + off = (tgt : Int)) (kt : x < 0 → hz_G p l e h z s m args below meth c w N nL Q M tgt ls st) (kf : ¬ x < 0 → hz_G p l e h z s m args below meth c w N nL Q M (pc + 3) ls st) : hz_G p l e h z s m args below meth c w N nL Q M pc ls (.int x :: st) :=
  fun hzk H locs la hW hS hL => lv_if_lt hO.1.1 hO.1.2.1 hdg ht (fun q => kt q hzk H locs la hW hS hL) (fun q => kf q hzk H locs la hW hS hL)
theorem hz_icmp_ge (hO : hz_Ok p s m args meth c w cc nL own ret) {x y : Int32} {off : Int} {tgt : Nat} (hdg : decode cc pc = .ok (.if_icmp .ge off, 3)) (ht : (pc : Int) + off = (tgt : Int)) (kt : y ≤ x → hz_G p l e h z s m args below meth c w N nL Q M tgt ls st) (kf : ¬ y ≤ x → hz_G p l e h z s m args below meth c w N nL Q M (pc + 3) ls st) : hz_G p l e h z s m args below meth c w N nL Q M pc ls (.int y :: .int x :: st) :=
  fun hzk H locs la hW hS hL => lv_icmp_ge hO.1.1 hO.1.2.1 hdg ht (fun q => kt q hzk H locs la hW hS hL) (fun q => kf q hzk H locs la hW hS hL)
theorem hz_if_ge (hO : hz_Ok p s m args meth c w cc nL own ret) {x : Int32} {off : Int} {tgt : Nat} (hdg : decode cc pc = .ok (.ifCond .ge off, 3)) (ht : (pc : Int) + off = (tgt : Int)) (kt : 0 ≤ x → hz_G p l e h z s m args below meth c w N nL Q M tgt ls st) (kf : ¬ 0 ≤ x → hz_G p l e h z s m args below meth c w N nL Q M (pc + 3) ls st) : hz_G p l e h z s m args below meth c w N nL Q M pc ls (.int x :: st) :=
  fun hzk H locs la hW hS hL => lv_if_ge hO.1.1 hO.1.2.1 hdg ht (fun q => kt q hzk H locs la hW hS hL) (fun q => kf q hzk H locs la hW hS hL)
theorem hz_icmp_gt (hO : hz_Ok p s m args meth c w cc nL own ret) {x y : Int32} {off : Int} {tgt : Nat} (hdg : decode cc pc = .ok (.if_icmp .gt off, 3)) (ht : (pc : Int) + off = (tgt : Int)) (kt : y < x → hz_G p l e h z s m args below meth c w N nL Q M tgt ls st) (kf : ¬ y < x → hz_G p l e h z s m args below meth c w N nL Q M (pc + 3) ls st) : hz_G p l e h z s m args below meth c w N nL Q M pc ls (.int y :: .int x :: st) :=
  fun hzk H locs la hW hS hL => lv_icmp_gt hO.1.1 hO.1.2.1 hdg ht (fun q => kt q hzk H locs la hW hS hL) (fun q => kf q hzk H locs la hW hS hL)
theorem hz_if_gt (hO : hz_Ok p s m args meth c w cc nL own ret) {x : Int32} {off : Int} {tgt : Nat} (hdg : decode cc pc = .ok (.ifCond .gt off, 3)) (ht : (pc : Int) + off = (tgt : Int)) (kt : 0 < x → hz_G p l e h z s m args below meth c w N nL Q M tgt ls st) (kf : ¬ 0 < x → hz_G p l e h z s m args below meth c w N nL Q M (pc + 3) ls st) : hz_G p l e h z s m args below meth c w N nL Q M pc ls (.int x :: st) :=
  fun hzk H locs la hW hS hL => lv_if_gt hO.1.1 hO.1.2.1 hdg ht (fun q => kt q hzk H locs la hW hS hL) (fun q => kf q hzk H locs la hW hS hL)
theorem hz_icmp_le (hO : hz_Ok p s m args meth c w cc nL own ret) {x y : Int32} {off : Int} {tgt : Nat} (hdg : decode cc pc = .ok (.if_icmp .le off, 3)) (ht : (pc : Int) + off = (tgt : Int)) (kt : x ≤ y → hz_G p l e h z s m args below meth c w N nL Q M tgt ls st) (kf : ¬ x ≤ y → hz_G p l e h z s m args below meth c w N nL Q M (pc + 3) ls st) : hz_G p l e h z s m args below meth c w N nL Q M pc ls (.int y :: .int x :: st) :=
  fun hzk H locs la hW hS hL => lv_icmp_le hO.1.1 hO.1.2.1 hdg ht (fun q => kt q hzk H locs la hW hS hL) (fun q => kf q hzk H locs la hW hS hL)
theorem hz_if_le (hO : hz_Ok p s m args meth c w cc nL own ret) {x : Int32} {off : Int} {tgt : Nat} (hdg : decode cc pc = .ok (.ifCond .le off, 3)) (ht : (pc : Int) + off = (tgt : Int)) (kt : x ≤ 0 → hz_G p l e h z s m args below meth c w N nL Q M tgt ls st) (kf : ¬ x ≤ 0 → hz_G p l e h z s m args below meth c w N nL Q M (pc + 3) ls st) : hz_G p l e h z s m args below meth c w N nL Q M pc ls (.int x :: st) :=
  fun hzk H locs la hW hS hL => lv_if_le hO.1.1 hO.1.2.1 hdg ht (fun q => kt q hzk H locs la hW hS hL) (fun q => kf q hzk H locs la hW hS hL)
theorem hz_goto (hO : hz_Ok p s m args meth c w cc nL own ret) {off : Int} {tgt : Nat} (hdg : decode cc pc = .ok (.goto off, 3)) (ht : (pc : Int) + off = (tgt : Int)) (kk : hz_G p l e h z s m args below meth c w N nL Q M tgt ls st) : hz_G p l e h z s m args below meth c w N nL Q M pc ls st :=
  fun hzk H locs la hW hS hL => lv_goto hO.1.1 hO.1.2.1 hdg ht (kk hzk H locs la hW hS hL)
theorem hz_getI (hO : hz_Ok p s m args meth c w cc nL own ret) {ci n i k idx : Nat} {C ref : String} {T : u_T} {fs : List (Option Nat)} (hKl : hz_Kl ci C T n) (hsh : hz_SH[i]? = some (.inl (ci, fs))) (hi : i < N) (hf : fs[k]? = some none) (hk : k < n) (hlink : Cond.fieldLink own idx ref (T k).2.1 (T k).2.2.1 ∈ hz_TB) (href : (T k).1 = ref) (hdg : decode cc pc = .ok (.getfield idx, 3))
    (kk : hz_G p l e h z s m args below meth c w N nL Q M (pc + 3) ls (.int (M i k) :: st)) : hz_G p l e h z s m args below meth c w N nL Q M pc ls (.ref (hz_ad w i) :: st) := by
  intro hzk H locs la hW hS hL
  refine va_get (D := hz_D w) (ci := ci) (v := .int (M i k)) (C := C) (T := T) (N := n) hO.1.1 hO.1.2.1 hO.1.2.2.2.2 hKl.2 hO.1.2.2.2.1 hW.2.1 hW.1 i (hz_ws_at hsh hi) hKl.1 k hk (hO.1.2.2.2.2 _ hlink) (fun x hx => href ▸ hx) ?_ hdg (kk hzk H locs la hW hS hL)
  rw [List.getElem?_mapIdx, hf]
  rfl
theorem hz_getR (hO : hz_Ok p s m args meth c w cc nL own ret) {ci n i k idx : Nat} (j : Nat) {C ref : String} {T : u_T} {fs : List (Option Nat)} (hKl : hz_Kl ci C T n) (hsh : hz_SH[i]? = some (.inl (ci, fs))) (hi : i < N) (hf : fs[k]? = some (some j)) (hk : k < n) (hlink : Cond.fieldLink own idx ref (T k).2.1 (T k).2.2.1 ∈ hz_TB) (href : (T k).1 = ref) (hdg : decode cc pc = .ok (.getfield idx, 3))
    (kk : hz_G p l e h z s m args below meth c w N nL Q M (pc + 3) ls (.ref (hz_ad w j) :: st)) : hz_G p l e h z s m args below meth c w N nL Q M pc ls (.ref (hz_ad w i) :: st) := by
  intro hzk H locs la hW hS hL
  refine va_get (D := hz_D w) (ci := ci) (v := .ref (hz_ad w j)) (C := C) (T := T) (N := n) hO.1.1 hO.1.2.1 hO.1.2.2.2.2 hKl.2 hO.1.2.2.2.1 hW.2.1 hW.1 i (hz_ws_at hsh hi) hKl.1 k hk (hO.1.2.2.2.2 _ hlink) (fun x hx => href ▸ hx) ?_ hdg (kk hzk H locs la hW hS hL)
  rw [List.getElem?_mapIdx, hf]
  rfl
theorem hz_putI (hO : hz_Ok p s m args meth c w cc nL own ret) {ci n i k idx : Nat} {C ref : String} {T : u_T} {fs : List (Option Nat)} {ty0 : Nat → FieldType} {v : Int32} (hKl : hz_Kl ci C T n) (hty : ∀ k, k < n → parseFieldDescriptor (T k).2.2.1 = some (ty0 k)) (hnm : ∀ a, a < n → ∀ b, b < n → a ≠ b → (T a).2.1 ≠ (T b).2.1) (hsh : hz_SH[i]? = some (.inl (ci, fs))) (hi : i < N) (hf : fs[k]? = some none) (hk : k < n) (hlink : Cond.fieldLink own idx ref (T k).2.1 (T k).2.2.1 ∈ hz_TB) (href : (T k).1 = ref) (hfin : (T k).2.2.2 = false) {ty : FieldType} (hd : ty0 k = ty) (hn : narrow ty (.int v) = .int v) (hft : fits ty (.int v) = true) (hdg : decode cc pc = .ok (.putfield idx, 3))
    (kk : hz_G p l e h z s m args below meth c w N nL Q (hz_set M i k v) (pc + 3) ls st) : hz_G p l e h z s m args below meth c w N nL Q M pc ls (.int v :: .ref (hz_ad w i) :: st) := by
  intro hzk H locs la hW hS hL
  have hkl : k < (fs.mapIdx (fun k f => hz_fv w (M i) k f)).length := by
    rw [List.length_mapIdx]
    exact (List.getElem?_eq_some_iff.mp hf).1
  have e : hz_ws w N (hz_set M i k v) = (hz_ws w N M).set i (hz_ad w i, .inr (ci, (fs.mapIdx (fun k f => hz_fv w (M i) k f)).set k (.int v))) := by
    rw [hz_ws_set (M := M) hsh hz_set_off, hz_set_row, hz_cell_put hf]
  refine va_put (D := hz_D w) (ci := ci) (v := .int v) (ty := ty) (C := C) (T := T) (N := n) hO.1.1 hO.1.2.1 hO.1.2.2.2.2 hKl.2 ty0 hty hnm hO.1.2.2.2.1 hW.2.1 hW.1 hW.2.2.1 hS i (hz_ws_at hsh hi) hKl.1 k hk (hO.1.2.2.2.2 _ hlink) (fun x hx => href ▸ hx) hfin (by rw [hty k hk, hd]) hn hft hkl hdg (fun H1 locs1 hP hD hS1 => ?_)
  rw [← e] at hP hD
  exact kk hzk H1 locs1 la ⟨hP, hW.2.1, hD, hO.2.2.2.2.le hS1.1⟩ hS1 hL
theorem hz_iald (hO : hz_Ok p s m args meth c w cc nL own ret) {i n : Nat} {x : Int32} (hsh : hz_SH[i]? = some (.inr (.inl (0, n)))) (hi : i < N) (hin : hz_in x n = true) (hdg : decode cc pc = .ok (.iaload, 1))
    (kk : hz_G p l e h z s m args below meth c w N nL Q M (pc + 1) ls (.int (M i x.toNatClampNeg) :: st)) : hz_G p l e h z s m args below meth c w N nL Q M pc ls (.int x :: .ref (hz_ad w i) :: st) :=
  fun hzk H locs la hW hS hL => va_iald (D := hz_D w) hO.1.1 hO.1.2.1 hW.2.1 hW.1 i 0 (hz_ws_at hsh hi) rfl (hz_in_e hin) hdg (kk hzk H locs la hW hS hL)
theorem hz_zald (hO : hz_Ok p s m args meth c w cc nL own ret) {i n : Nat} {x : Int32} (hsh : hz_SH[i]? = some (.inr (.inl (1, n)))) (hi : i < N) (hin : hz_in x n = true) (hdg : decode cc pc = .ok (.baload, 1))
    (kk : hz_G p l e h z s m args below meth c w N nL Q M (pc + 1) ls (.int (M i x.toNatClampNeg) :: st)) : hz_G p l e h z s m args below meth c w N nL Q M pc ls (.int x :: .ref (hz_ad w i) :: st) :=
  fun hzk H locs la hW hS hL => va_zald (D := hz_D w) hO.1.1 hO.1.2.1 hW.2.1 hW.1 i 1 (hz_ws_at hsh hi) rfl (hz_in_e hin) hdg (kk hzk H locs la hW hS hL)
theorem hz_iast (hO : hz_Ok p s m args meth c w cc nL own ret) {i n : Nat} {x v : Int32} (hsh : hz_SH[i]? = some (.inr (.inl (0, n)))) (hi : i < N) (hin : hz_in x n = true) (hdg : decode cc pc = .ok (.iastore, 1))
    (kk : hz_G p l e h z s m args below meth c w N nL Q (hz_set M i x.toNatClampNeg v) (pc + 1) ls st) : hz_G p l e h z s m args below meth c w N nL Q M pc ls (.int v :: .int x :: .ref (hz_ad w i) :: st) := by
  intro hzk H locs la hW hS hL
  have e : hz_ws w N (hz_set M i x.toNatClampNeg v) = (hz_ws w N M).set i (hz_ad w i, .inl (hz_tc w 0, n, .inl (upd (M i) x.toNatClampNeg v))) := by
    rw [hz_ws_set (M := M) hsh hz_set_off, hz_set_row]
    rfl
  refine va_iast (D := hz_D w) hO.1.1 hO.1.2.1 hW.2.1 hW.1 hW.2.2.1 hS i 0 (hz_ws_at hsh hi) rfl (hz_in_e hin) hdg (fun H1 locs1 hP hD hS1 => ?_)
  rw [← e] at hP hD
  exact kk hzk H1 locs1 la ⟨hP, hW.2.1, hD, hO.2.2.2.2.le hS1.1⟩ hS1 hL
theorem hz_zast (hO : hz_Ok p s m args meth c w cc nL own ret) {i n : Nat} {x v : Int32} (hsh : hz_SH[i]? = some (.inr (.inl (1, n)))) (hi : i < N) (hin : hz_in x n = true) (hv : hz_bt v = true) (hdg : decode cc pc = .ok (.bastore, 1))
    (kk : hz_G p l e h z s m args below meth c w N nL Q (hz_set M i x.toNatClampNeg v) (pc + 1) ls st) : hz_G p l e h z s m args below meth c w N nL Q M pc ls (.int v :: .int x :: .ref (hz_ad w i) :: st) := by
  intro hzk H locs la hW hS hL
  have e : hz_ws w N (hz_set M i x.toNatClampNeg v) = (hz_ws w N M).set i (hz_ad w i, .inl (hz_tc w 1, n, .inl (upd (M i) x.toNatClampNeg (vp_nar .boolean v)))) := by
    rw [hz_ws_set (M := M) hsh hz_set_off, hz_set_row, (hz_bt_e hv).2.2]
    rfl
  refine va_zast (D := hz_D w) hO.1.1 hO.1.2.1 hW.2.1 hW.1 hW.2.2.1 hS i 1 (hz_ws_at hsh hi) rfl (hz_in_e hin) hdg (fun H1 locs1 hP hD hS1 => ?_)
  rw [← e] at hP hD
  exact kk hzk H1 locs1 la ⟨hP, hW.2.1, hD, hO.2.2.2.2.le hS1.1⟩ hS1 hL
theorem hz_alen (hO : hz_Ok p s m args meth c w cc nL own ret) {i n : Nat} {v : Int32} (hsh : hz_SH[i]? = some (.inr (.inl (0, n)))) (hi : i < N) (hv : Int32.ofNat n = v) (hdg : decode cc pc = .ok (.arraylength, 1))
    (kk : hz_G p l e h z s m args below meth c w N nL Q M (pc + 1) ls (.int v :: st)) : hz_G p l e h z s m args below meth c w N nL Q M pc ls (.ref (hz_ad w i) :: st) :=
  fun hzk H locs la hW hS hL => va_alen (D := hz_D w) hO.1.1 hO.1.2.1 hW.2.1 hW.1 i 0 (hz_ws_at hsh hi) (ty := .int) rfl hv hdg (kk hzk H locs la hW hS hL)
theorem hz_end {t : State} {H : Heap} (ht : t.heap = H) (hW : hz_Wd w N M s H) (hal : s.vm.Alike t.vm) : hz_Wd w N M t t.heap := by
  rw [ht]
  exact hW.moved hal
/-- the ends -/
theorem hz_iret (hO : hz_Ok p s m args meth c w cc nL own (some .int)) {r : Int32} (hdg : decode cc pc = .ok (.ireturn, 1)) : hz_G p l e h z s m args below meth c w N nL (MQ below (hz_Qi w N r M) args s z.2.1 z.2.2 (hz_A w)) M pc ls [.int r] :=
  fun hzk H locs la hW hS hL => W.iret (v := r) hO.1.1 hO.1.2.1 hO.2.1 (fun t ht hW9 => ⟨⟨r, (), rfl, rfl, hz_end ht hW hW9.alike⟩, hS.F ht⟩) hS.2.2 hdg hO.2.2.1
theorem hz_zret (hO : hz_Ok p s m args meth c w cc nL own (some .boolean)) {r : Int32} (hr : hz_bt r = true) (hdg : decode cc pc = .ok (.ireturn, 1)) : hz_G p l e h z s m args below meth c w N nL (MQ below (hz_Qi w N r M) args s z.2.1 z.2.2 (hz_A w)) M pc ls [.int r] :=
  fun hzk H locs la hW hS hL => W.zret (v := r) hO.1.1 hO.1.2.1 hO.2.1 (hz_bt_e hr).1 (fun t ht hW9 => ⟨⟨r, (), rfl, rfl, hz_end ht hW hW9.alike⟩, hS.F ht⟩) hS.2.2 hdg hO.2.2.1
theorem hz_vret (hO : hz_Ok p s m args meth c w cc nL own none) (hdg : decode cc pc = .ok (.return_, 1)) : hz_G p l e h z s m args below meth c w N nL (MQ below (hz_Qv w N M) args s z.2.1 z.2.2 (hz_A w)) M pc ls [] :=
  fun hzk H locs la hW hS hL => W.vret hO.1.1 hO.1.2.1 hO.2.1 (fun t ht hW9 => ⟨⟨(), rfl, trivial, hz_end ht hW hW9.alike⟩, hS.F ht⟩) hS.2.2 hdg hO.2.2.1
/-- a contract from the walk of the body -/
theorem hz_ofW {y : MethodName} {as : List Value} {Qc : Array Value → State → Outcome → State → Prop} {C : String} (hy : plainName y.cls = true) (hC : y.cls = C) (hlen : (lg_sl as).length ≤ nL) (hcode : Cond.code y cc nL ret ∈ hz_TB)
    (body : ∀ (p : Program) (e : Env) (s : State) (m : MethodId) (args : Array Value) (below : List Frame) (meth : Method) (c : Code), hz_Ok p s m args meth c w cc nL C ret → hz_G p l e h hz_z0 s m args below meth c w N nL (MQ below Qc args s 0 0 (hz_A w)) M 0 (lv_args 0 as) []) : hz_Ct l y cc nL ret h w N as M Qc := by
  refine Met.ofW (cc := cc) (maxL := nL) (ret := ret) hy rfl ?_
  intro p e s m args below meth c s₁ B hml hv
  obtain ⟨rfl, hWd, hX⟩ := hv
  have hx := B.exec
  have hb := B.bytes
  have hr := B.returns
  have hts0 := atoms_spec (ws := Cond.code y cc nL ret :: hz_TB) B.pre
  have hts : ∀ z ∈ hz_TB, z.before as.toArray s = true := fun z hz => hts0 z (List.mem_cons_of_mem _ hz)
  have hown : s.vm.findClass C = some m.cls := hC ▸ findClass_of_methodNamed B.named
  have hlocks := B.notSynchronized
  have hl := lv_entry as (n := nL) hlen
  rw [lg_entry_eq]
  exact body p e s m as.toArray below meth c ⟨⟨hx, hb, hml, hown, hts⟩, hr, hlocks, hX, hWd.2.2.2⟩ ⟨Nat.le_refl _, Nat.le_refl _⟩ s.heap [] _ hWd va_S.rf hl
theorem hz_blind {as : List Value} : FrameBlind (hz_Pre w N as M) := fun a U g mk q => ⟨q.1, hz_Wd.moved (u := U) (U := U.calling g mk a) (Vm.Alike.refl U.vm) q.2.1, hz_X_same (u := U) (U := U.calling g mk a) rfl q.2.2⟩
theorem hz_pre {as : List Value} {H : Heap} {locs : List Loc} (hO : hz_Ok p s m args meth c w cc nL own ret) (hW : hz_Wd w N M s H) (hS : va_S (hz_A w) s.heap H locs) : ∀ U : State, U.heap = H → s.WarmedH U.vm → hz_Pre w N as M as.toArray U :=
  fun U hU hWm => ⟨rfl, by rw [hU]; exact hW.moved hWm.alike, by rw [hU]; exact hz_X_warm hWm (hz_X_kept hO.2.2.2.1 hS.2.1)⟩
theorem hz_back {M1 : hz_M} {t : State} {H1 : Heap} (ht : t.heap = H1) (hvm : s.vm.Alike t.vm) (hB : hz_Wd w N M1 t t.heap) : hz_Wd w N M1 s H1 := by
  rw [ht] at hB
  exact hB.moved hvm.symm
theorem hz_fit {hc nLy : Nat} (hh : hc + 1 ≤ h) (hm : nLy ≤ 41) : (hz_rm hc hz_z0).frames + 1 ≤ (hz_rm h z).frames ∧ 8 + (nLy + 11) + (hz_rm hc hz_z0).locals ≤ (hz_rm h z).locals := by
  refine ⟨hh, ?_⟩
  show 8 + (nLy + 11) + 60 * hc ≤ 60 * h
  omega
/-- calls -/
theorem hz_wV (hO : hz_Ok p s m args meth c w cc nL own ret) {idx n nLy hc : Nat} {C : String} {y : MethodName} {b : ByteArray} {rt : Option FieldType} (hcal : hz_CalV C y b nLy rt n) (hlink : Cond.methodLink own idx y ∈ hz_TB) (hh : hc + 1 ≤ h) : CallW (hz_rm h z) s args own C idx y b nLy rt (Cond.code y b nLy rt :: hz_TB) (hz_rm hc hz_z0) 0 0 n := by
  have hts := hO.1.2.2.2.2
  refine ⟨callB_of n hts (hz_goodC hcal.1.1) rfl rfl rfl ?_ (hts _ hlink) hcal.1.2.2.1.2 (hz_fit hh hcal.1.2.2.2), hts _ hcal.2.1, hts _ hcal.2.2⟩
  rw [hcal.1.2.2.1.1]
  exact hts _ hcal.1.2.1
theorem hz_wS (hO : hz_Ok p s m args meth c w cc nL own ret) {idx n nLy hc : Nat} {C : String} {y : MethodName} {b : ByteArray} {rt : Option FieldType} (hcal : hz_CalS C y b nLy rt n) (hlink : Cond.methodLink own idx y ∈ hz_TB) (hh : hc + 1 ≤ h) : CallB (hz_rm h z) s args own idx y b nLy rt (Cond.code y b nLy rt :: hz_TB) (hz_rm hc hz_z0) 0 0 n ∧ (Cond.static y).before args s = true := by
  have hts := hO.1.2.2.2.2
  refine ⟨callB_of n hts (hz_goodC hcal.1.1) rfl rfl rfl ?_ (hts _ hlink) hcal.1.2.2.1.2 (hz_fit hh hcal.1.2.2.2), hts _ hcal.2⟩
  rw [hcal.1.2.2.1.1]
  exact hts _ hcal.1.2.1
theorem hz_callVi (hO : hz_Ok p s m args meth c w cc nL own ret) {idx n nLy hc i ci nf : Nat} {C : String} {T : u_T} {fs : List (Option Nat)} {y : MethodName} {b : ByteArray} {rt : Option FieldType} {as rest : List Value} {r : Int32} {M1 : hz_M} (hC : hz_Ct l y b nLy rt hc w N (.ref (hz_ad w i) :: as) M (hz_Qi w N r M1)) (hcal : hz_CalV C y b nLy rt n) (hKl : hz_Kl ci C T nf) (hsh : hz_SH[i]? = some (.inl (ci, fs))) (hi : i < N) (hlink : Cond.methodLink own idx y ∈ hz_TB) (hh : hc + 1 ≤ h) (hn : as.length = n) (hst : st = as.reverse ++ .ref (hz_ad w i) :: rest) (hcat : (rest.map fun v => v.category).sum ≤ 8) (hdg : decode cc pc = .ok (.invokevirtual idx, 3))
    (kk : hz_G p l e h z s m args below meth c w N nL Q M1 (pc + 3) ls (.int r :: rest)) : hz_G p l e h z s m args below meth c w N nL Q M pc ls st := by
  intro hzk H locs la hW hS hL
  refine va_calli (va_runV (As := as) (rest := rest) hO.1 hC (hz_wV hO hcal hlink hh) ⟨hz_blind, va_recv hW.2.1 hW.1 (ci := ci) (q0 := i) hKl.1 (hz_ws_at hsh hi), hz_pre hO hW hS⟩ rfl hn hL.1 hst (lv_room hcat) hdg ⟨hzk.1, hzk.2⟩) hS (fun q _ z => z) (fun q z => z) (fun r1 u t H1 locs1 ht hvm hr hB hz1 hk1 hS1 => ?_)
  subst hr
  exact kk hzk H1 locs1 la (hz_back ht hvm hB) hS1 hL
theorem hz_callVv (hO : hz_Ok p s m args meth c w cc nL own ret) {idx n nLy hc i ci nf : Nat} {C : String} {T : u_T} {fs : List (Option Nat)} {y : MethodName} {b : ByteArray} {rt : Option FieldType} {as rest : List Value} {M1 : hz_M} (hC : hz_Ct l y b nLy rt hc w N (.ref (hz_ad w i) :: as) M (hz_Qv w N M1)) (hcal : hz_CalV C y b nLy rt n) (hKl : hz_Kl ci C T nf) (hsh : hz_SH[i]? = some (.inl (ci, fs))) (hi : i < N) (hlink : Cond.methodLink own idx y ∈ hz_TB) (hh : hc + 1 ≤ h) (hn : as.length = n) (hst : st = as.reverse ++ .ref (hz_ad w i) :: rest) (hcat : (rest.map fun v => v.category).sum ≤ 8) (hdg : decode cc pc = .ok (.invokevirtual idx, 3))
    (kk : hz_G p l e h z s m args below meth c w N nL Q M1 (pc + 3) ls rest) : hz_G p l e h z s m args below meth c w N nL Q M pc ls st := by
  intro hzk H locs la hW hS hL
  refine va_callv (va_runV (As := as) (rest := rest) hO.1 hC (hz_wV hO hcal hlink hh) ⟨hz_blind, va_recv hW.2.1 hW.1 (ci := ci) (q0 := i) hKl.1 (hz_ws_at hsh hi), hz_pre hO hW hS⟩ rfl hn hL.1 hst (lv_room hcat) hdg ⟨hzk.1, hzk.2⟩) hS (fun q _ z => z) (fun q z => z) (fun u t H1 locs1 ht hvm hr hB hz1 hk1 hS1 => ?_)
  exact kk hzk H1 locs1 la (hz_back ht hvm hB) hS1 hL
theorem hz_callSi (hO : hz_Ok p s m args meth c w cc nL own ret) {idx n nLy hc : Nat} {C : String} {y : MethodName} {b : ByteArray} {rt : Option FieldType} {as rest : List Value} {r : Int32} {M1 : hz_M} (hC : hz_Ct l y b nLy rt hc w N as M (hz_Qi w N r M1)) (hcal : hz_CalS C y b nLy rt n) (hlink : Cond.methodLink own idx y ∈ hz_TB) (hh : hc + 1 ≤ h) (hn : as.length = n) (hst : st = as.reverse ++ rest) (hcat : (rest.map fun v => v.category).sum ≤ 8) (hdg : decode cc pc = .ok (.invokestatic idx, 3))
    (kk : hz_G p l e h z s m args below meth c w N nL Q M1 (pc + 3) ls (.int r :: rest)) : hz_G p l e h z s m args below meth c w N nL Q M pc ls st := by
  intro hzk H locs la hW hS hL
  refine va_calli (va_runS (As := as) (rest := rest) hO.1 hC (hz_wS hO hcal hlink hh) ⟨hz_blind, hz_pre hO hW hS⟩ rfl hn hL.1 hst (lv_room hcat) hdg ⟨hzk.1, hzk.2⟩) hS (fun q _ z => z) (fun q z => z) (fun r1 u t H1 locs1 ht hvm hr hB hz1 hk1 hS1 => ?_)
  subst hr
  exact kk hzk H1 locs1 la (hz_back ht hvm hB) hS1 hL
theorem hz_callSv (hO : hz_Ok p s m args meth c w cc nL own ret) {idx n nLy hc : Nat} {C : String} {y : MethodName} {b : ByteArray} {rt : Option FieldType} {as rest : List Value} {M1 : hz_M} (hC : hz_Ct l y b nLy rt hc w N as M (hz_Qv w N M1)) (hcal : hz_CalS C y b nLy rt n) (hlink : Cond.methodLink own idx y ∈ hz_TB) (hh : hc + 1 ≤ h) (hn : as.length = n) (hst : st = as.reverse ++ rest) (hcat : (rest.map fun v => v.category).sum ≤ 8) (hdg : decode cc pc = .ok (.invokestatic idx, 3))
    (kk : hz_G p l e h z s m args below meth c w N nL Q M1 (pc + 3) ls rest) : hz_G p l e h z s m args below meth c w N nL Q M pc ls st := by
  intro hzk H locs la hW hS hL
  refine va_callv (va_runS (As := as) (rest := rest) hO.1 hC (hz_wS hO hcal hlink hh) ⟨hz_blind, hz_pre hO hW hS⟩ rfl hn hL.1 hst (lv_room hcat) hdg ⟨hzk.1, hzk.2⟩) hS (fun q _ z => z) (fun q z => z) (fun u t H1 locs1 ht hvm hr hB hz1 hk1 hS1 => ?_)
  exact kk hzk H1 locs1 la (hz_back ht hvm hB) hS1 hL
theorem hz_mmax (hO : hz_Ok p s m args meth c w cc nL own ret) {idx : Nat} {x y : Int32} (hlink : Cond.methodLink own idx Lib.Math.max.name ∈ hz_TB) (h1 : 1 ≤ h) (hcat : (st.map fun v => v.category).sum + 13 ≤ 60) (hdg : decode cc pc = .ok (.invokestatic idx, 3))
    (kk : hz_G p l e h z s m args below meth c w N nL Q M (pc + 3) ls (.int (if x < y then y else x) :: st)) : hz_G p l e h z s m args below meth c w N nL Q M pc ls (.int y :: .int x :: st) :=
  fun hzk H locs la hW hS hL => va_mmax hO.1.1 hO.1.2.1 (hO.1.2.2.1.trans hL.1.symm) hO.1.2.2.2.1 (hO.1.2.2.2.2 _ hlink) (hO.1.2.2.2.2 _ tw_math_max_s) (hO.1.2.2.2.2 _ tw_math_i) (hO.1.2.2.2.2 _ tw_math_max_c) h1 (Nat.le_trans hcat (by show 60 ≤ 60 * h; omega)) hzk.1 hzk.2 hdg (kk hzk H locs la hW hS hL)
theorem hz_mmin (hO : hz_Ok p s m args meth c w cc nL own ret) {idx : Nat} {x y : Int32} (hlink : Cond.methodLink own idx Lib.Math.min.name ∈ hz_TB) (h1 : 1 ≤ h) (hcat : (st.map fun v => v.category).sum + 13 ≤ 60) (hdg : decode cc pc = .ok (.invokestatic idx, 3))
    (kk : hz_G p l e h z s m args below meth c w N nL Q M (pc + 3) ls (.int (if y < x then y else x) :: st)) : hz_G p l e h z s m args below meth c w N nL Q M pc ls (.int y :: .int x :: st) :=
  fun hzk H locs la hW hS hL => va_mmin hO.1.1 hO.1.2.1 (hO.1.2.2.1.trans hL.1.symm) hO.1.2.2.2.1 (hO.1.2.2.2.2 _ hlink) (hO.1.2.2.2.2 _ tw_math_min_s) (hO.1.2.2.2.2 _ tw_math_i) (hO.1.2.2.2.2 _ tw_math_min_c) h1 (Nat.le_trans hcat (by show 60 ≤ 60 * h; omega)) hzk.1 hzk.2 hdg (kk hzk H locs la hW hS hL)
theorem hz_mabs (hO : hz_Ok p s m args meth c w cc nL own ret) {idx : Nat} {x : Int32} (hlink : Cond.methodLink own idx Lib.Math.abs.name ∈ hz_TB) (h1 : 1 ≤ h) (hcat : (st.map fun v => v.category).sum + 13 ≤ 60) (hdg : decode cc pc = .ok (.invokestatic idx, 3))
    (kk : hz_G p l e h z s m args below meth c w N nL Q M (pc + 3) ls (.int (if 0 ≤ x then x else 0 - x) :: st)) : hz_G p l e h z s m args below meth c w N nL Q M pc ls (.int x :: st) :=
  fun hzk H locs la hW hS hL => va_mabs hO.1.1 hO.1.2.1 (hO.1.2.2.1.trans hL.1.symm) hO.1.2.2.2.1 (hO.1.2.2.2.2 _ hlink) (hO.1.2.2.2.2 _ tw_math_abs_s) (hO.1.2.2.2.2 _ tw_math_i) (hO.1.2.2.2.2 _ tw_math_abs_c) h1 (Nat.le_trans hcat (by show 60 ≤ 60 * h; omega)) hzk.1 hzk.2 hdg (kk hzk H locs la hW hS hL)
end HZ
