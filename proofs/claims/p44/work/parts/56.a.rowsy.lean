theorem tw_3_59 : (Jvm.Cond.arrayClass Jvm.ClassFile.FieldType.byte) ∈ hz_TB := hz_tb (hz_t3 _ (List.mem_of_getElem? (i := 59) rfl)) rfl
/-! A WORLD TOLD AS A LIST X0 ++ S of cells at any addresses: for the JDK's own members -/
def hz_Yd (w : hz_C) (X : va_W) (U : State) (H : Heap) : Prop := va_P (hz_D w) vwCl X H ∧ va_K (hz_D w) vwCl (hz_tys w) U ∧ va_D (hz_A w) X ∧ hz_up w H.size
theorem hz_Yd.moved {w : hz_C} {X : va_W} {u U : State} {H : Heap} (hvm : u.vm.Alike U.vm) (h : hz_Yd w X u H) : hz_Yd w X U H := ⟨h.1, va_K.moved hvm h.2.1, h.2.2⟩
theorem hz_Yd.end {w : hz_C} {X : va_W} {s t : State} {H : Heap} (ht : t.heap = H) (hW : hz_Yd w X s H) (hal : s.vm.Alike t.vm) : hz_Yd w X t t.heap := by
  rw [ht]
  exact hW.moved hal
theorem hz_Yd.back {w : hz_C} {X : va_W} {s t : State} {H1 : Heap} (ht : t.heap = H1) (hvm : s.vm.Alike t.vm) (hB : hz_Yd w X t t.heap) : hz_Yd w X s H1 := by
  rw [ht] at hB
  exact hB.moved hvm.symm
/-- a part of a world -/
theorem hz_Yd.sub {w : hz_C} {X X1 : va_W} {U : State} {H : Heap} (f : Nat → Nat) (hf : ∀ k q, X1[k]? = some q → X[f k]? = some q) (hi : ∀ i j, f i = f j → i = j) (h : hz_Yd w X U H) : hz_Yd w X1 U H :=
  ⟨fun k q hk => h.1 (f k) q (hf k q hk), h.2.1, ⟨fun i j a b ha hb e => hi i j (h.2.2.1.1 _ _ a b (hf i a ha) (hf j b hb) e), fun k q hk => h.2.2.1.2 _ q (hf k q hk)⟩, h.2.2.2⟩
def hz_Y (p : Program) (l : Launch) (e : Env) (h : Nat) (z : hz_Z) (s : State) (m : MethodId) (args : Array Value) (below : List Frame) (meth : Method) (c : Code) (w : hz_C) (nL : Nat) (Q : State → Prop) (X0 S : va_W) (pc : Nat) (ls : List (Nat × Value)) (st : List Value) : Prop :=
  (z.2.1 ≤ z.1.1 ∧ z.2.2 ≤ z.1.2) → ∀ (H : Heap) (locs : List Loc) (la : Array Slot), hz_Yd w (X0 ++ S) s H → va_S (hz_A w) s.heap H locs → lv_has la nL ls → W p l e (hz_rm h z) s m args below meth c H locs z.2.1 z.2.2 Q (F0 m pc la st)
def hz_YP (w : hz_C) (as : List Value) (X : va_W) : Array Value → State → Prop := va_Pc as (fun U => hz_Yd w X U U.heap ∧ hz_X w U U.heap)
def hz_YQv (w : hz_C) (R : va_W → Prop) (X0 : va_W) : Array Value → State → Outcome → State → Prop := va_Qv (S := va_W) R (fun S1 t => hz_Yd w (X0 ++ S1) t t.heap) (hz_A w)
def hz_YQi (w : hz_C) (R : Int32 → va_W → Prop) (X0 : va_W) : Array Value → State → Outcome → State → Prop := va_Qi (S := va_W) R (fun S1 t => hz_Yd w (X0 ++ S1) t t.heap) (hz_A w)
def hz_YQr (w : hz_C) (R : Nat → va_W → Prop) (X0 : va_W) : Array Value → State → Outcome → State → Prop := va_Qr (S := va_W) (fun _ => True) (fun S1 b t => R b S1 ∧ hz_Yd w (X0 ++ S1) t t.heap) (hz_A w)
def hz_CY (l : Launch) (y : MethodName) (b : ByteArray) (nL : Nat) (ret : Option FieldType) (h mc ms : Nat) (w : hz_C) (as : List Value) (X : va_W) (Qc : Array Value → State → Outcome → State → Prop) : Prop :=
  Met l y (Cond.code y b nL ret :: hz_TB) (hz_rm h ((mc, ms), (0, 0))) (hz_YP w as X) Qc mc ms (hz_A w)
theorem hz_yga {X0 S : va_W} {j : Nat} {x : Nat × va_E} (h : S[j]? = some x) : (X0 ++ S)[X0.length + j]? = some x := by
  rw [List.getElem?_append_right (by omega)]
  simpa using h
theorem hz_ygs {X0 S : va_W} {j : Nat} {x : Nat × va_E} : (X0 ++ S).set (X0.length + j) x = X0 ++ S.set j x := by
  rw [List.set_append_right _ _ (by omega)]
  simp
section HZY
variable {p : Program} {l : Launch} {e : Env} {h : Nat} {z : hz_Z} {s : State} {m : MethodId} {args : Array Value} {below : List Frame} {meth : Method} {c : Code} {w : hz_C} {nL : Nat} {Q : State → Prop} {X0 S : va_W} {pc : Nat} {ls : List (Nat × Value)} {st : List Value} {cc : ByteArray} {own : String} {ret : Option FieldType}
theorem hz_y_ls {ls1 : List (Nat × Value)} (ks : List Nat) (hl : lv_pick ls ks = ls1) (kk : hz_Y p l e h z s m args below meth c w nL Q X0 S pc ls1 st) : hz_Y p l e h z s m args below meth c w nL Q X0 S pc ls st :=
  fun hzk H locs la hW hS hL => kk hzk H locs la hW hS (lv_sub hL ks hl)
theorem hz_y_iconst (hO : hz_Ok p s m args meth c w cc nL own ret) {n : Int} {v : Int32} (hdg : decode cc pc = .ok (.iconst n, 1)) (hv : Int32.ofInt n = v) (kk : hz_Y p l e h z s m args below meth c w nL Q X0 S (pc + 1) ls (.int v :: st)) : hz_Y p l e h z s m args below meth c w nL Q X0 S pc ls st :=
  fun hzk H locs la hW hS hL => lv_iconst hO.1.1 hO.1.2.1 hdg hv (kk hzk H locs la hW hS hL)
theorem hz_y_bipush (hO : hz_Ok p s m args meth c w cc nL own ret) {n : Int} {v : Int32} (hdg : decode cc pc = .ok (.bipush n, 2)) (hv : (Int8.ofInt n).toInt32 = v) (kk : hz_Y p l e h z s m args below meth c w nL Q X0 S (pc + 2) ls (.int v :: st)) : hz_Y p l e h z s m args below meth c w nL Q X0 S pc ls st :=
  fun hzk H locs la hW hS hL => lv_bipush hO.1.1 hO.1.2.1 hdg hv (kk hzk H locs la hW hS hL)
theorem hz_y_sipush (hO : hz_Ok p s m args meth c w cc nL own ret) {n : Int} {v : Int32} (hdg : decode cc pc = .ok (.sipush n, 3)) (hv : (Int16.ofInt n).toInt32 = v) (kk : hz_Y p l e h z s m args below meth c w nL Q X0 S (pc + 3) ls (.int v :: st)) : hz_Y p l e h z s m args below meth c w nL Q X0 S pc ls st :=
  fun hzk H locs la hW hS hL => lv_sipush hO.1.1 hO.1.2.1 hdg hv (kk hzk H locs la hW hS hL)
theorem hz_y_iload_n (hO : hz_Ok p s m args meth c w cc nL own ret) {k : Fin 4} {i : Nat} {x : Int32} (hdg : decode cc pc = .ok (.iload_n k, 1)) (hi : (k : Nat) = i) (j : Nat) (hj : ls[j]? = some (i, .int x)) (kk : hz_Y p l e h z s m args below meth c w nL Q X0 S (pc + 1) ls (.int x :: st)) : hz_Y p l e h z s m args below meth c w nL Q X0 S pc ls st :=
  fun hzk H locs la hW hS hL => lv_iload_n hO.1.1 hO.1.2.1 hdg hi (lv_at hL j hj) (kk hzk H locs la hW hS hL)
theorem hz_y_iload (hO : hz_Ok p s m args meth c w cc nL own ret) {i : Nat} {x : Int32} (hdg : decode cc pc = .ok (.iload i, 2)) (j : Nat) (hj : ls[j]? = some (i, .int x)) (kk : hz_Y p l e h z s m args below meth c w nL Q X0 S (pc + 2) ls (.int x :: st)) : hz_Y p l e h z s m args below meth c w nL Q X0 S pc ls st :=
  fun hzk H locs la hW hS hL => lv_iload hO.1.1 hO.1.2.1 hdg (lv_at hL j hj) (kk hzk H locs la hW hS hL)
theorem hz_y_aload_n (hO : hz_Ok p s m args meth c w cc nL own ret) {k : Fin 4} {i x : Nat} (hdg : decode cc pc = .ok (.aload_n k, 1)) (hi : (k : Nat) = i) (j : Nat) (hj : ls[j]? = some (i, .ref x)) (kk : hz_Y p l e h z s m args below meth c w nL Q X0 S (pc + 1) ls (.ref x :: st)) : hz_Y p l e h z s m args below meth c w nL Q X0 S pc ls st :=
  fun hzk H locs la hW hS hL => lv_aload_n hO.1.1 hO.1.2.1 hdg hi (lv_at hL j hj) (kk hzk H locs la hW hS hL)
theorem hz_y_aload (hO : hz_Ok p s m args meth c w cc nL own ret) {i x : Nat} (hdg : decode cc pc = .ok (.aload i, 2)) (j : Nat) (hj : ls[j]? = some (i, .ref x)) (kk : hz_Y p l e h z s m args below meth c w nL Q X0 S (pc + 2) ls (.ref x :: st)) : hz_Y p l e h z s m args below meth c w nL Q X0 S pc ls st :=
  fun hzk H locs la hW hS hL => lv_aload hO.1.1 hO.1.2.1 hdg (lv_at hL j hj) (kk hzk H locs la hW hS hL)
theorem hz_y_istore_n (hO : hz_Ok p s m args meth c w cc nL own ret) {k : Fin 4} {i : Nat} {x : Int32} {ls1 : List (Nat × Value)} (hdg : decode cc pc = .ok (.istore_n k, 1)) (hi : (k : Nat) = i) (hn : i < nL) (hl : (i, Value.int x) :: ls.filter (fun q => !(q.1 == i) && !(q.1 + 1 == i && q.2.category == 2)) = ls1) (kk : hz_Y p l e h z s m args below meth c w nL Q X0 S (pc + 1) ls1 st) : hz_Y p l e h z s m args below meth c w nL Q X0 S pc ls (.int x :: st) :=
  fun hzk H locs la hW hS hL => lv_istore_n hO.1.1 hO.1.2.1 hdg hi hL hn hl (fun la1 hL1 => kk hzk H locs la1 hW hS hL1)
theorem hz_y_istore (hO : hz_Ok p s m args meth c w cc nL own ret) {i : Nat} {x : Int32} {ls1 : List (Nat × Value)} (hdg : decode cc pc = .ok (.istore i, 2)) (hn : i < nL) (hl : (i, Value.int x) :: ls.filter (fun q => !(q.1 == i) && !(q.1 + 1 == i && q.2.category == 2)) = ls1) (kk : hz_Y p l e h z s m args below meth c w nL Q X0 S (pc + 2) ls1 st) : hz_Y p l e h z s m args below meth c w nL Q X0 S pc ls (.int x :: st) :=
  fun hzk H locs la hW hS hL => lv_istore hO.1.1 hO.1.2.1 hdg hL hn hl (fun la1 hL1 => kk hzk H locs la1 hW hS hL1)
theorem hz_y_astore_n (hO : hz_Ok p s m args meth c w cc nL own ret) {k : Fin 4} {i x : Nat} {ls1 : List (Nat × Value)} (hdg : decode cc pc = .ok (.astore_n k, 1)) (hi : (k : Nat) = i) (hn : i < nL) (hl : (i, Value.ref x) :: ls.filter (fun q => !(q.1 == i) && !(q.1 + 1 == i && q.2.category == 2)) = ls1) (kk : hz_Y p l e h z s m args below meth c w nL Q X0 S (pc + 1) ls1 st) : hz_Y p l e h z s m args below meth c w nL Q X0 S pc ls (.ref x :: st) :=
  fun hzk H locs la hW hS hL => lv_astore_n hO.1.1 hO.1.2.1 hdg hi hL hn hl (fun la1 hL1 => kk hzk H locs la1 hW hS hL1)
theorem hz_y_astore (hO : hz_Ok p s m args meth c w cc nL own ret) {i x : Nat} {ls1 : List (Nat × Value)} (hdg : decode cc pc = .ok (.astore i, 2)) (hn : i < nL) (hl : (i, Value.ref x) :: ls.filter (fun q => !(q.1 == i) && !(q.1 + 1 == i && q.2.category == 2)) = ls1) (kk : hz_Y p l e h z s m args below meth c w nL Q X0 S (pc + 2) ls1 st) : hz_Y p l e h z s m args below meth c w nL Q X0 S pc ls (.ref x :: st) :=
  fun hzk H locs la hW hS hL => lv_astore hO.1.1 hO.1.2.1 hdg hL hn hl (fun la1 hL1 => kk hzk H locs la1 hW hS hL1)
theorem hz_y_iinc (hO : hz_Ok p s m args meth c w cc nL own ret) {i k : Nat} {n : Int} {x v : Int32} {ls1 : List (Nat × Value)} (hdg : decode cc pc = .ok (.iinc i n, 3)) (hk : ls[k]? = some (i, .int x)) (hv : x + Int32.ofInt n = v) (hn : i < nL) (hl : (i, Value.int v) :: ls.filter (fun q => !(q.1 == i) && !(q.1 + 1 == i && q.2.category == 2)) = ls1) (kk : hz_Y p l e h z s m args below meth c w nL Q X0 S (pc + 3) ls1 st) : hz_Y p l e h z s m args below meth c w nL Q X0 S pc ls st :=
  fun hzk H locs la hW hS hL => lv_iinc hO.1.1 hO.1.2.1 hdg hL hk hv hn hl (fun la1 hL1 => kk hzk H locs la1 hW hS hL1)
theorem hz_y_iadd (hO : hz_Ok p s m args meth c w cc nL own ret) {x y : Int32} (hdg : decode cc pc = .ok (.iadd, 1)) (kk : hz_Y p l e h z s m args below meth c w nL Q X0 S (pc + 1) ls (.int (x + y) :: st)) : hz_Y p l e h z s m args below meth c w nL Q X0 S pc ls (.int y :: .int x :: st) :=
  fun hzk H locs la hW hS hL => lv_iadd hO.1.1 hO.1.2.1 hdg (kk hzk H locs la hW hS hL)
theorem hz_y_isub (hO : hz_Ok p s m args meth c w cc nL own ret) {x y : Int32} (hdg : decode cc pc = .ok (.isub, 1)) (kk : hz_Y p l e h z s m args below meth c w nL Q X0 S (pc + 1) ls (.int (x - y) :: st)) : hz_Y p l e h z s m args below meth c w nL Q X0 S pc ls (.int y :: .int x :: st) :=
  fun hzk H locs la hW hS hL => lv_isub hO.1.1 hO.1.2.1 hdg (kk hzk H locs la hW hS hL)
theorem hz_y_imul (hO : hz_Ok p s m args meth c w cc nL own ret) {x y : Int32} (hdg : decode cc pc = .ok (.imul, 1)) (kk : hz_Y p l e h z s m args below meth c w nL Q X0 S (pc + 1) ls (.int (x * y) :: st)) : hz_Y p l e h z s m args below meth c w nL Q X0 S pc ls (.int y :: .int x :: st) :=
  fun hzk H locs la hW hS hL => lv_imul hO.1.1 hO.1.2.1 hdg (kk hzk H locs la hW hS hL)
theorem hz_y_idiv (hO : hz_Ok p s m args meth c w cc nL own ret) {x y : Int32} (hdg : decode cc pc = .ok (.idiv, 1)) (hne : ¬ y = 0) (kk : hz_Y p l e h z s m args below meth c w nL Q X0 S (pc + 1) ls (.int (x / y) :: st)) : hz_Y p l e h z s m args below meth c w nL Q X0 S pc ls (.int y :: .int x :: st) :=
  fun hzk H locs la hW hS hL => lv_idiv hO.1.1 hO.1.2.1 hdg hne (kk hzk H locs la hW hS hL)
theorem hz_y_ishl (hO : hz_Ok p s m args meth c w cc nL own ret) {x y : Int32} (hdg : decode cc pc = .ok (.ishl, 1)) (kk : hz_Y p l e h z s m args below meth c w nL Q X0 S (pc + 1) ls (.int (x <<< (y &&& 31)) :: st)) : hz_Y p l e h z s m args below meth c w nL Q X0 S pc ls (.int y :: .int x :: st) :=
  fun hzk H locs la hW hS hL => lv_ishl hO.1.1 hO.1.2.1 hdg (kk hzk H locs la hW hS hL)
theorem hz_y_ishr (hO : hz_Ok p s m args meth c w cc nL own ret) {x y : Int32} (hdg : decode cc pc = .ok (.ishr, 1)) (kk : hz_Y p l e h z s m args below meth c w nL Q X0 S (pc + 1) ls (.int (x >>> (y &&& 31)) :: st)) : hz_Y p l e h z s m args below meth c w nL Q X0 S pc ls (.int y :: .int x :: st) :=
  fun hzk H locs la hW hS hL => lv_ishr hO.1.1 hO.1.2.1 hdg (kk hzk H locs la hW hS hL)
theorem hz_y_dup (hO : hz_Ok p s m args meth c w cc nL own ret) {v : Value} (hdg : decode cc pc = .ok (.dup, 1)) (hv : v.category = 1) (kk : hz_Y p l e h z s m args below meth c w nL Q X0 S (pc + 1) ls (v :: v :: st)) : hz_Y p l e h z s m args below meth c w nL Q X0 S pc ls (v :: st) :=
  fun hzk H locs la hW hS hL => lv_dup hO.1.1 hO.1.2.1 hdg hv (kk hzk H locs la hW hS hL)
theorem hz_y_pop (hO : hz_Ok p s m args meth c w cc nL own ret) {v : Value} (hdg : decode cc pc = .ok (.pop, 1)) (hv : v.category = 1) (kk : hz_Y p l e h z s m args below meth c w nL Q X0 S (pc + 1) ls st) : hz_Y p l e h z s m args below meth c w nL Q X0 S pc ls (v :: st) :=
  fun hzk H locs la hW hS hL => lv_pop hO.1.1 hO.1.2.1 hdg hv (kk hzk H locs la hW hS hL)
theorem hz_y_icmp_eq (hO : hz_Ok p s m args meth c w cc nL own ret) {x y : Int32} {off : Int} {tgt : Nat} (hdg : decode cc pc = .ok (.if_icmp .eq off, 3)) (ht : (pc : Int) + off = (tgt : Int)) (kt : x = y → hz_Y p l e h z s m args below meth c w nL Q X0 S tgt ls st) (kf : ¬ x = y → hz_Y p l e h z s m args below meth c w nL Q X0 S (pc + 3) ls st) : hz_Y p l e h z s m args below meth c w nL Q X0 S pc ls (.int y :: .int x :: st) :=
  fun hzk H locs la hW hS hL => lv_icmp_eq hO.1.1 hO.1.2.1 hdg ht (fun q => kt q hzk H locs la hW hS hL) (fun q => kf q hzk H locs la hW hS hL)
theorem hz_y_icmp_ne (hO : hz_Ok p s m args meth c w cc nL own ret) {x y : Int32} {off : Int} {tgt : Nat} (hdg : decode cc pc = .ok (.if_icmp .ne off, 3)) (ht : (pc : Int) + off = (tgt : Int)) (kt : ¬ x = y → hz_Y p l e h z s m args below meth c w nL Q X0 S tgt ls st) (kf : x = y → hz_Y p l e h z s m args below meth c w nL Q X0 S (pc + 3) ls st) : hz_Y p l e h z s m args below meth c w nL Q X0 S pc ls (.int y :: .int x :: st) :=
  fun hzk H locs la hW hS hL => lv_icmp_ne hO.1.1 hO.1.2.1 hdg ht (fun q => kt q hzk H locs la hW hS hL) (fun q => kf q hzk H locs la hW hS hL)
theorem hz_y_icmp_lt (hO : hz_Ok p s m args meth c w cc nL own ret) {x y : Int32} {off : Int} {tgt : Nat} (hdg : decode cc pc = .ok (.if_icmp .lt off, 3)) (ht : (pc : Int) + off = (tgt : Int)) (kt : x < y → hz_Y p l e h z s m args below meth c w nL Q X0 S tgt ls st) (kf : ¬ x < y → hz_Y p l e h z s m args below meth c w nL Q X0 S (pc + 3) ls st) : hz_Y p l e h z s m args below meth c w nL Q X0 S pc ls (.int y :: .int x :: st) :=
  fun hzk H locs la hW hS hL => lv_icmp_lt hO.1.1 hO.1.2.1 hdg ht (fun q => kt q hzk H locs la hW hS hL) (fun q => kf q hzk H locs la hW hS hL)
theorem hz_y_icmp_ge (hO : hz_Ok p s m args meth c w cc nL own ret) {x y : Int32} {off : Int} {tgt : Nat} (hdg : decode cc pc = .ok (.if_icmp .ge off, 3)) (ht : (pc : Int) + off = (tgt : Int)) (kt : y ≤ x → hz_Y p l e h z s m args below meth c w nL Q X0 S tgt ls st) (kf : ¬ y ≤ x → hz_Y p l e h z s m args below meth c w nL Q X0 S (pc + 3) ls st) : hz_Y p l e h z s m args below meth c w nL Q X0 S pc ls (.int y :: .int x :: st) :=
  fun hzk H locs la hW hS hL => lv_icmp_ge hO.1.1 hO.1.2.1 hdg ht (fun q => kt q hzk H locs la hW hS hL) (fun q => kf q hzk H locs la hW hS hL)
theorem hz_y_icmp_gt (hO : hz_Ok p s m args meth c w cc nL own ret) {x y : Int32} {off : Int} {tgt : Nat} (hdg : decode cc pc = .ok (.if_icmp .gt off, 3)) (ht : (pc : Int) + off = (tgt : Int)) (kt : y < x → hz_Y p l e h z s m args below meth c w nL Q X0 S tgt ls st) (kf : ¬ y < x → hz_Y p l e h z s m args below meth c w nL Q X0 S (pc + 3) ls st) : hz_Y p l e h z s m args below meth c w nL Q X0 S pc ls (.int y :: .int x :: st) :=
  fun hzk H locs la hW hS hL => lv_icmp_gt hO.1.1 hO.1.2.1 hdg ht (fun q => kt q hzk H locs la hW hS hL) (fun q => kf q hzk H locs la hW hS hL)
theorem hz_y_icmp_le (hO : hz_Ok p s m args meth c w cc nL own ret) {x y : Int32} {off : Int} {tgt : Nat} (hdg : decode cc pc = .ok (.if_icmp .le off, 3)) (ht : (pc : Int) + off = (tgt : Int)) (kt : x ≤ y → hz_Y p l e h z s m args below meth c w nL Q X0 S tgt ls st) (kf : ¬ x ≤ y → hz_Y p l e h z s m args below meth c w nL Q X0 S (pc + 3) ls st) : hz_Y p l e h z s m args below meth c w nL Q X0 S pc ls (.int y :: .int x :: st) :=
  fun hzk H locs la hW hS hL => lv_icmp_le hO.1.1 hO.1.2.1 hdg ht (fun q => kt q hzk H locs la hW hS hL) (fun q => kf q hzk H locs la hW hS hL)
theorem hz_y_if_eq (hO : hz_Ok p s m args meth c w cc nL own ret) {x : Int32} {off : Int} {tgt : Nat} (hdg : decode cc pc = .ok (.ifCond .eq off, 3)) (ht : (pc : Int) + off = (tgt : Int)) (kt : x = 0 → hz_Y p l e h z s m args below meth c w nL Q X0 S tgt ls st) (kf : ¬ x = 0 → hz_Y p l e h z s m args below meth c w nL Q X0 S (pc + 3) ls st) : hz_Y p l e h z s m args below meth c w nL Q X0 S pc ls (.int x :: st) :=
  fun hzk H locs la hW hS hL => lv_if_eq hO.1.1 hO.1.2.1 hdg ht (fun q => kt q hzk H locs la hW hS hL) (fun q => kf q hzk H locs la hW hS hL)
theorem hz_y_if_ne (hO : hz_Ok p s m args meth c w cc nL own ret) {x : Int32} {off : Int} {tgt : Nat} (hdg : decode cc pc = .ok (.ifCond .ne off, 3)) (ht : (pc : Int) + off = (tgt : Int)) (kt : ¬ x = 0 → hz_Y p l e h z s m args below meth c w nL Q X0 S tgt ls st) (kf : x = 0 → hz_Y p l e h z s m args below meth c w nL Q X0 S (pc + 3) ls st) : hz_Y p l e h z s m args below meth c w nL Q X0 S pc ls (.int x :: st) :=
  fun hzk H locs la hW hS hL => lv_if_ne hO.1.1 hO.1.2.1 hdg ht (fun q => kt q hzk H locs la hW hS hL) (fun q => kf q hzk H locs la hW hS hL)
theorem hz_y_if_lt (hO : hz_Ok p s m args meth c w cc nL own ret) {x : Int32} {off : Int} {tgt : Nat} (hdg : decode cc pc = .ok (.ifCond .lt off, 3)) (ht : (pc : Int) + off = (tgt : Int)) (kt : x < 0 → hz_Y p l e h z s m args below meth c w nL Q X0 S tgt ls st) (kf : ¬ x < 0 → hz_Y p l e h z s m args below meth c w nL Q X0 S (pc + 3) ls st) : hz_Y p l e h z s m args below meth c w nL Q X0 S pc ls (.int x :: st) :=
  fun hzk H locs la hW hS hL => lv_if_lt hO.1.1 hO.1.2.1 hdg ht (fun q => kt q hzk H locs la hW hS hL) (fun q => kf q hzk H locs la hW hS hL)
theorem hz_y_if_ge (hO : hz_Ok p s m args meth c w cc nL own ret) {x : Int32} {off : Int} {tgt : Nat} (hdg : decode cc pc = .ok (.ifCond .ge off, 3)) (ht : (pc : Int) + off = (tgt : Int)) (kt : 0 ≤ x → hz_Y p l e h z s m args below meth c w nL Q X0 S tgt ls st) (kf : ¬ 0 ≤ x → hz_Y p l e h z s m args below meth c w nL Q X0 S (pc + 3) ls st) : hz_Y p l e h z s m args below meth c w nL Q X0 S pc ls (.int x :: st) :=
  fun hzk H locs la hW hS hL => lv_if_ge hO.1.1 hO.1.2.1 hdg ht (fun q => kt q hzk H locs la hW hS hL) (fun q => kf q hzk H locs la hW hS hL)
theorem hz_y_if_gt (hO : hz_Ok p s m args meth c w cc nL own ret) {x : Int32} {off : Int} {tgt : Nat} (hdg : decode cc pc = .ok (.ifCond .gt off, 3)) (ht : (pc : Int) + off = (tgt : Int)) (kt : 0 < x → hz_Y p l e h z s m args below meth c w nL Q X0 S tgt ls st) (kf : ¬ 0 < x → hz_Y p l e h z s m args below meth c w nL Q X0 S (pc + 3) ls st) : hz_Y p l e h z s m args below meth c w nL Q X0 S pc ls (.int x :: st) :=
  fun hzk H locs la hW hS hL => lv_if_gt hO.1.1 hO.1.2.1 hdg ht (fun q => kt q hzk H locs la hW hS hL) (fun q => kf q hzk H locs la hW hS hL)
theorem hz_y_if_le (hO : hz_Ok p s m args meth c w cc nL own ret) {x : Int32} {off : Int} {tgt : Nat} (hdg : decode cc pc = .ok (.ifCond .le off, 3)) (ht : (pc : Int) + off = (tgt : Int)) (kt : x ≤ 0 → hz_Y p l e h z s m args below meth c w nL Q X0 S tgt ls st) (kf : ¬ x ≤ 0 → hz_Y p l e h z s m args below meth c w nL Q X0 S (pc + 3) ls st) : hz_Y p l e h z s m args below meth c w nL Q X0 S pc ls (.int x :: st) :=
  fun hzk H locs la hW hS hL => lv_if_le hO.1.1 hO.1.2.1 hdg ht (fun q => kt q hzk H locs la hW hS hL) (fun q => kf q hzk H locs la hW hS hL)
theorem hz_y_goto (hO : hz_Ok p s m args meth c w cc nL own ret) {off : Int} {tgt : Nat} (hdg : decode cc pc = .ok (.goto off, 3)) (ht : (pc : Int) + off = (tgt : Int)) (kk : hz_Y p l e h z s m args below meth c w nL Q X0 S tgt ls st) : hz_Y p l e h z s m args below meth c w nL Q X0 S pc ls st :=
  fun hzk H locs la hW hS hL => lv_goto hO.1.1 hO.1.2.1 hdg ht (kk hzk H locs la hW hS hL)
theorem hz_y_mmax (hO : hz_Ok p s m args meth c w cc nL own ret) {idx : Nat} {x y : Int32} (hlink : Cond.methodLink own idx Lib.Math.max.name ∈ hz_TB) (h1 : 1 ≤ h) (hcat : (st.map fun v => v.category).sum + 13 ≤ 60) (hdg : decode cc pc = .ok (.invokestatic idx, 3))
    (kk : hz_Y p l e h z s m args below meth c w nL Q X0 S (pc + 3) ls (.int (if x < y then y else x) :: st)) : hz_Y p l e h z s m args below meth c w nL Q X0 S pc ls (.int y :: .int x :: st) :=
  fun hzk H locs la hW hS hL => va_mmax hO.1.1 hO.1.2.1 (hO.1.2.2.1.trans hL.1.symm) hO.1.2.2.2.1 (hO.1.2.2.2.2 _ hlink) (hO.1.2.2.2.2 _ tw_math_max_s) (hO.1.2.2.2.2 _ tw_math_i) (hO.1.2.2.2.2 _ tw_math_max_c) h1 (Nat.le_trans hcat (by show 60 ≤ 60 * h; omega)) hzk.1 hzk.2 hdg (kk hzk H locs la hW hS hL)
theorem hz_y_mmin (hO : hz_Ok p s m args meth c w cc nL own ret) {idx : Nat} {x y : Int32} (hlink : Cond.methodLink own idx Lib.Math.min.name ∈ hz_TB) (h1 : 1 ≤ h) (hcat : (st.map fun v => v.category).sum + 13 ≤ 60) (hdg : decode cc pc = .ok (.invokestatic idx, 3))
    (kk : hz_Y p l e h z s m args below meth c w nL Q X0 S (pc + 3) ls (.int (if y < x then y else x) :: st)) : hz_Y p l e h z s m args below meth c w nL Q X0 S pc ls (.int y :: .int x :: st) :=
  fun hzk H locs la hW hS hL => va_mmin hO.1.1 hO.1.2.1 (hO.1.2.2.1.trans hL.1.symm) hO.1.2.2.2.1 (hO.1.2.2.2.2 _ hlink) (hO.1.2.2.2.2 _ tw_math_min_s) (hO.1.2.2.2.2 _ tw_math_i) (hO.1.2.2.2.2 _ tw_math_min_c) h1 (Nat.le_trans hcat (by show 60 ≤ 60 * h; omega)) hzk.1 hzk.2 hdg (kk hzk H locs la hW hS hL)
theorem hz_y_name {x y : Int32} (hx : y = x) (kk : hz_Y p l e h z s m args below meth c w nL Q X0 S pc ls (.int y :: st)) : hz_Y p l e h z s m args below meth c w nL Q X0 S pc ls (.int x :: st) := hx ▸ kk
theorem hz_y_gets (hO : hz_Ok p s m args meth c w cc nL own ret) {C n d ref : String} {v : Value} {idx : Nat} (hZ : va_Z C n d v (hz_A w) s s.heap) (hlink : Cond.fieldLink own idx ref n d ∈ hz_TB) (href : C = ref) (hdg : decode cc pc = .ok (.getstatic idx, 3))
    (kk : hz_Y p l e h z s m args below meth c w nL Q X0 S (pc + 3) ls (v :: st)) : hz_Y p l e h z s m args below meth c w nL Q X0 S pc ls st :=
  fun hzk H locs la hW hS hL => va_gets hO.1.1 hO.1.2.1 hZ hS hO.1.2.2.2.1 (hO.1.2.2.2.2 _ hlink) (fun x hx => href ▸ hx) hdg (kk hzk H locs la hW hS hL)
theorem hz_y_getO (hO : hz_Ok p s m args meth c w cc nL own ret) {o n d ref : String} {v : Value} {idx q : Nat} (hE : va_OF o n d v q (hz_A w) s s.heap) (hlink : Cond.fieldLink own idx ref n d ∈ hz_TB) (href : o = ref) (hdg : decode cc pc = .ok (.getfield idx, 3))
    (kk : hz_Y p l e h z s m args below meth c w nL Q X0 S (pc + 3) ls (v :: st)) : hz_Y p l e h z s m args below meth c w nL Q X0 S pc ls (.ref q :: st) :=
  fun hzk H locs la hW hS hL => vk_getf hO.1.1 hO.1.2.1 hE hS hO.1.2.2.2.1 (hO.1.2.2.2.2 _ hlink) (fun x hx => href ▸ hx) hdg (kk hzk H locs la hW hS hL)
theorem hz_y_tlen (hO : hz_Ok p s m args meth c w cc nL own ret) {ty : FieldType} {t n : Nat} {f : Nat → Value} {v : Int32} (hT : va_T ty t n f (hz_A w) s s.heap) (hv : Int32.ofNat n = v) (hdg : decode cc pc = .ok (.arraylength, 1))
    (kk : hz_Y p l e h z s m args below meth c w nL Q X0 S (pc + 1) ls (.int v :: st)) : hz_Y p l e h z s m args below meth c w nL Q X0 S pc ls (.ref t :: st) :=
  fun hzk H locs la hW hS hL => va_tlen hO.1.1 hO.1.2.1 hT hS hv hdg (kk hzk H locs la hW hS hL)
theorem hz_y_tb8 (hO : hz_Ok p s m args meth c w cc nL own ret) {t n : Nat} {f : Nat → Value} {i : Int32} {v : Value} (hT : va_T .byte t n f (hz_A w) s s.heap) (hin : vp_in i n) (hv : f i.toNatClampNeg = v) (hdg : decode cc pc = .ok (.baload, 1))
    (kk : hz_Y p l e h z s m args below meth c w nL Q X0 S (pc + 1) ls (v :: st)) : hz_Y p l e h z s m args below meth c w nL Q X0 S pc ls (.int i :: .ref t :: st) :=
  fun hzk H locs la hW hS hL => va_tb hO.1.1 hO.1.2.1 hT hS hin hv hdg (kk hzk H locs la hW hS hL)
theorem hz_y_i2c (hO : hz_Ok p s m args meth c w cc nL own ret) {x : Int32} (hdg : decode cc pc = .ok (.i2c, 1)) (kk : hz_Y p l e h z s m args below meth c w nL Q X0 S (pc + 1) ls (.int (x.toUInt32 % 65536).toInt32 :: st)) : hz_Y p l e h z s m args below meth c w nL Q X0 S pc ls (.int x :: st) :=
  fun hzk H locs la hW hS hL => lv_i2c hO.1.1 hO.1.2.1 hdg rfl (kk hzk H locs la hW hS hL)
theorem hz_y_ldcS (hO : hz_Ok p s m args meth c w cc nL own ret) {k i : Nat} {tx : String} (hq : (own, k, tx, i) ∈ hz_ldcs) (hdg : decode cc pc = .ok (.ldc k, 2))
    (kk : hz_Y p l e h z s m args below meth c w nL Q X0 S (pc + 2) ls (.ref (hz_sa w i) :: st)) : hz_Y p l e h z s m args below meth c w nL Q X0 S pc ls st :=
  fun hzk H locs la hW hS hL => va_ldcS hO.1.1 hO.1.2.1 hO.1.2.2.2.1 (hO.2.2.2.1.2.2.2.1 _ hq) hdg (kk hzk H locs la hW hS hL)
theorem hz_y_ldcwS (hO : hz_Ok p s m args meth c w cc nL own ret) {k i : Nat} {tx : String} (hq : (own, k, tx, i) ∈ hz_ldcs) (hdg : decode cc pc = .ok (.ldc_w k, 3))
    (kk : hz_Y p l e h z s m args below meth c w nL Q X0 S (pc + 3) ls (.ref (hz_sa w i) :: st)) : hz_Y p l e h z s m args below meth c w nL Q X0 S pc ls st := by
  intro hzk H locs la hW hS hL T hT X
  have hZ := hO.2.2.2.1.2.2.2.1 _ hq
  obtain ⟨t, a1, b1⟩ := kk hzk H locs la hW hS hL T hT X
  exact ⟨t, X.ldcStringW hO.1.1 hO.1.2.2.2.1 (text := tx) (a := hz_sa w i) hZ.1 hZ.2 (g := F0 m pc la st) rfl (by rw [hO.1.2.1]; exact hdg) t a1, b1⟩
theorem hz_y_ldcI (hO : hz_Ok p s m args meth c w cc nL own ret) {idx : Nat} {v : Int32} (hq : Cond.constant own idx v ∈ hz_TB) (hdg : decode cc pc = .ok (.ldc idx, 2)) (kk : hz_Y p l e h z s m args below meth c w nL Q X0 S (pc + 2) ls (.int v :: st)) : hz_Y p l e h z s m args below meth c w nL Q X0 S pc ls st :=
  fun hzk H locs la hW hS hL => lv_ldc hO.1.1 hO.1.2.1 hO.1.2.2.2.1 (hO.1.2.2.2.2 _ hq) hdg (kk hzk H locs la hW hS hL)
theorem hz_y_ineg (hO : hz_Ok p s m args meth c w cc nL own ret) {x : Int32} (hdg : decode cc pc = .ok (.ineg, 1)) (kk : hz_Y p l e h z s m args below meth c w nL Q X0 S (pc + 1) ls (.int (-x) :: st)) : hz_Y p l e h z s m args below meth c w nL Q X0 S pc ls (.int x :: st) :=
  fun hzk H locs la hW hS hL => lv_ineg hO.1.1 hO.1.2.1 hdg (kk hzk H locs la hW hS hL)
theorem hz_y_i2b (hO : hz_Ok p s m args meth c w cc nL own ret) {x v : Int32} (hdg : decode cc pc = .ok (.i2b, 1)) (hv : x.toInt8.toInt32 = v) (kk : hz_Y p l e h z s m args below meth c w nL Q X0 S (pc + 1) ls (.int v :: st)) : hz_Y p l e h z s m args below meth c w nL Q X0 S pc ls (.int x :: st) :=
  fun hzk H locs la hW hS hL => lv_i2b hO.1.1 hO.1.2.1 hdg hv (kk hzk H locs la hW hS hL)
theorem hz_y_dup_x1 (hO : hz_Ok p s m args meth c w cc nL own ret) {va vb : Value} (hdg : decode cc pc = .ok (.dup_x1, 1)) (hva : va.category = 1) (hvb : vb.category = 1) (kk : hz_Y p l e h z s m args below meth c w nL Q X0 S (pc + 1) ls (va :: vb :: va :: st)) : hz_Y p l e h z s m args below meth c w nL Q X0 S pc ls (va :: vb :: st) :=
  fun hzk H locs la hW hS hL => lv_dup_x1 hO.1.1 hO.1.2.1 hdg hva hvb (kk hzk H locs la hW hS hL)
theorem hz_y_null (hO : hz_Ok p s m args meth c w cc nL own ret) (hdg : decode cc pc = .ok (.aconst_null, 1)) (kk : hz_Y p l e h z s m args below meth c w nL Q X0 S (pc + 1) ls (.null :: st)) : hz_Y p l e h z s m args below meth c w nL Q X0 S pc ls st :=
  fun hzk H locs la hW hS hL => lv_null hO.1.1 hO.1.2.1 hdg (kk hzk H locs la hW hS hL)
theorem hz_y_ifnonnull (hO : hz_Ok p s m args meth c w cc nL own ret) {q : Nat} {off : Int} {tgt : Nat} (hdg : decode cc pc = .ok (.ifnonnull off, 3)) (ht : (pc : Int) + off = (tgt : Int)) (kk : hz_Y p l e h z s m args below meth c w nL Q X0 S tgt ls st) : hz_Y p l e h z s m args below meth c w nL Q X0 S pc ls (.ref q :: st) :=
  fun hzk H locs la hW hS hL => lv_ifnonnull hO.1.1 hO.1.2.1 hdg ht (kk hzk H locs la hW hS hL)
theorem hz_y_st {st1 : List Value} (hst : st = st1) (kk : hz_Y p l e h z s m args below meth c w nL Q X0 S pc ls st1) : hz_Y p l e h z s m args below meth c w nL Q X0 S pc ls st := hst ▸ kk
theorem hz_y_S {S1 : va_W} (hS : S = S1) (kk : hz_Y p l e h z s m args below meth c w nL Q X0 S1 pc ls st) : hz_Y p l e h z s m args below meth c w nL Q X0 S pc ls st := hS ▸ kk
theorem hz_y_z {z1 : hz_Z} (hz : z = z1) (kk : hz_Y p l e h z1 s m args below meth c w nL Q X0 S pc ls st) : hz_Y p l e h z s m args below meth c w nL Q X0 S pc ls st := hz ▸ kk
/-- room is given up -/
theorem hz_y_widen {z1 : hz_Z} (h1 : z.1 = z1.1) (h2 : z.2.1 ≤ z1.2.1) (h3 : z.2.2 ≤ z1.2.2) (hz1 : z1.2.1 ≤ z1.1.1 ∧ z1.2.2 ≤ z1.1.2) (kk : hz_Y p l e h z1 s m args below meth c w nL Q X0 S pc ls st) : hz_Y p l e h z s m args below meth c w nL Q X0 S pc ls st := by
  obtain ⟨z11, z12⟩ := z
  obtain ⟨y11, y12⟩ := z1
  cases h1
  exact fun _ H locs la hW hS hL => W.widen h2 h3 (kk hz1 H locs la hW hS hL)
/-- cells are forgotten -/
theorem hz_y_sub {X1 S1 : va_W} (f : Nat → Nat) (hf : ∀ k q, (X1 ++ S1)[k]? = some q → (X0 ++ S)[f k]? = some q) (hi : ∀ i j, f i = f j → i = j) (kk : hz_Y p l e h z s m args below meth c w nL Q X1 S1 pc ls st) : hz_Y p l e h z s m args below meth c w nL Q X0 S pc ls st :=
  fun hzk H locs la hW hS hL => kk hzk H locs la (hW.sub f hf hi) hS hL
theorem hz_y_in (hO : hz_Ok p s m args meth c w cc nL own ret) : ∀ q : Nat, s.heap.size ≤ q → hz_A w q := hO.2.2.2.2
theorem hz_y_get (hO : hz_Ok p s m args meth c w cc nL own ret) {a ci n j k idx : Nat} {C ref : String} {T : u_T} {fs : List Value} {v : Value} (hKl : hz_Kl ci C T n) (hSj : S[j]? = some (a, .inr (ci, fs))) (hv : fs[k]? = some v) (hk : k < n) (hlink : Cond.fieldLink own idx ref (T k).2.1 (T k).2.2.1 ∈ hz_TB) (href : (T k).1 = ref) (hdg : decode cc pc = .ok (.getfield idx, 3))
    (kk : hz_Y p l e h z s m args below meth c w nL Q X0 S (pc + 3) ls (v :: st)) : hz_Y p l e h z s m args below meth c w nL Q X0 S pc ls (.ref a :: st) := by
  intro hzk H locs la hW hS hL
  exact va_get (D := hz_D w) (ci := ci) (v := v) (C := C) (T := T) (N := n) hO.1.1 hO.1.2.1 hO.1.2.2.2.2 hKl.2 hO.1.2.2.2.1 hW.2.1 hW.1 (X0.length + j) (hz_yga hSj) hKl.1 k hk (hO.1.2.2.2.2 _ hlink) (fun x hx => href ▸ hx) hv hdg (kk hzk H locs la hW hS hL)
theorem hz_y_put (hO : hz_Ok p s m args meth c w cc nL own ret) {a ci n j k idx : Nat} {C ref : String} {T : u_T} {fs : List Value} {ty0 : Nat → FieldType} {v : Value} {S1 : va_W} (hKl : hz_Kl ci C T n) (hty : ∀ k, k < n → parseFieldDescriptor (T k).2.2.1 = some (ty0 k)) (hnm : ∀ a, a < n → ∀ b, b < n → a ≠ b → (T a).2.1 ≠ (T b).2.1) (hSj : S[j]? = some (a, .inr (ci, fs))) (hk : k < n) (hlink : Cond.fieldLink own idx ref (T k).2.1 (T k).2.2.1 ∈ hz_TB) (href : (T k).1 = ref) (hfin : (T k).2.2.2 = false) {ty : FieldType} (hd : ty0 k = ty) (hn : narrow ty v = v) (hft : fits ty v = true) (hkl : k < fs.length) (hS1 : S.set j (a, .inr (ci, fs.set k v)) = S1) (hdg : decode cc pc = .ok (.putfield idx, 3))
    (kk : hz_Y p l e h z s m args below meth c w nL Q X0 S1 (pc + 3) ls st) : hz_Y p l e h z s m args below meth c w nL Q X0 S pc ls (v :: .ref a :: st) := by
  subst hS1
  intro hzk H locs la hW hS hL
  refine va_put (D := hz_D w) (ci := ci) (v := v) (ty := ty) (C := C) (T := T) (N := n) hO.1.1 hO.1.2.1 hO.1.2.2.2.2 hKl.2 ty0 hty hnm hO.1.2.2.2.1 hW.2.1 hW.1 hW.2.2.1 hS (X0.length + j) (hz_yga hSj) hKl.1 k hk (hO.1.2.2.2.2 _ hlink) (fun x hx => href ▸ hx) hfin (by rw [hty k hk, hd]) hn hft hkl hdg (fun H1 locs1 hP hD hS1 => ?_)
  rw [hz_ygs] at hP hD
  exact kk hzk H1 locs1 la ⟨hP, hW.2.1, hD, hO.2.2.2.2.le hS1.1⟩ hS1 hL
theorem hz_y_putF (hO : hz_Ok p s m args meth c w cc nL own ret) (hin : meth.name = "<init>") {a ci n j k idx : Nat} {C ref : String} {T : u_T} {fs : List Value} {ty0 : Nat → FieldType} {v : Value} {S1 : va_W} (hKl : hz_Kl ci C T n) (hty : ∀ k, k < n → parseFieldDescriptor (T k).2.2.1 = some (ty0 k)) (hnm : ∀ a, a < n → ∀ b, b < n → a ≠ b → (T a).2.1 ≠ (T b).2.1) (hSj : S[j]? = some (a, .inr (ci, fs))) (hk : k < n) (hlink : Cond.fieldLink own idx ref (T k).2.1 (T k).2.2.1 ∈ hz_TB) (href : (T k).1 = ref) (hfin : (T k).2.2.2 = true) (hdecl : (T k).1 = own) {ty : FieldType} (hd : ty0 k = ty) (hn : narrow ty v = v) (hft : fits ty v = true) (hkl : k < fs.length) (hS1 : S.set j (a, .inr (ci, fs.set k v)) = S1) (hdg : decode cc pc = .ok (.putfield idx, 3))
    (kk : hz_Y p l e h z s m args below meth c w nL Q X0 S1 (pc + 3) ls st) : hz_Y p l e h z s m args below meth c w nL Q X0 S pc ls (v :: .ref a :: st) := by
  subst hS1
  intro hzk H locs la hW hS hL
  refine va_putF (D := hz_D w) (ci := ci) (v := v) (ty := ty) (C := C) (T := T) (N := n) hO.1.1 hO.1.2.1 hO.1.2.2.2.2 hKl.2 ty0 hty hnm hO.1.2.2.2.1 hW.2.1 hW.1 hW.2.2.1 hS (X0.length + j) (hz_yga hSj) hKl.1 k hk (hO.1.2.2.2.2 _ hlink) (fun x hx => href ▸ hx) hfin hin hdecl (by rw [hty k hk, hd]) hn hft hkl hdg (fun H1 locs1 hP hD hS1 => ?_)
  rw [hz_ygs] at hP hD
  exact kk hzk H1 locs1 la ⟨hP, hW.2.1, hD, hO.2.2.2.2.le hS1.1⟩ hS1 hL
theorem hz_y_bast (hO : hz_Ok p s m args meth c w cc nL own ret) {a n j : Nat} {f : Nat → Int32} {i x : Int32} {S1 : va_W} (hSj : S[j]? = some (a, .inl (hz_tc w 5, n, .inl f))) (hin : vp_in i n) (hS1 : S.set j (a, .inl (hz_tc w 5, n, .inl (upd f i.toNatClampNeg (vp_nar .byte x)))) = S1) (hdg : decode cc pc = .ok (.bastore, 1))
    (kk : hz_Y p l e h z s m args below meth c w nL Q X0 S1 (pc + 1) ls st) : hz_Y p l e h z s m args below meth c w nL Q X0 S pc ls (.int x :: .int i :: .ref a :: st) := by
  subst hS1
  intro hzk H locs la hW hS hL
  refine va_bast (D := hz_D w) hO.1.1 hO.1.2.1 hW.2.1 hW.1 hW.2.2.1 hS (X0.length + j) 5 (hz_yga hSj) rfl hin hdg (fun H1 locs1 hP hD hS1 => ?_)
  rw [hz_ygs] at hP hD
  exact kk hzk H1 locs1 la ⟨hP, hW.2.1, hD, hO.2.2.2.2.le hS1.1⟩ hS1 hL
theorem hz_y_alen (hO : hz_Ok p s m args meth c w cc nL own ret) {a n j : Nat} {f : Nat → Int32} {v : Int32} (hSj : S[j]? = some (a, .inl (hz_tc w 5, n, .inl f))) (hv : Int32.ofNat n = v) (hdg : decode cc pc = .ok (.arraylength, 1))
    (kk : hz_Y p l e h z s m args below meth c w nL Q X0 S (pc + 1) ls (.int v :: st)) : hz_Y p l e h z s m args below meth c w nL Q X0 S pc ls (.ref a :: st) :=
  fun hzk H locs la hW hS hL => va_alen (D := hz_D w) hO.1.1 hO.1.2.1 hW.2.1 hW.1 (X0.length + j) 5 (hz_yga hSj) (ty := .byte) rfl hv hdg (kk hzk H locs la hW hS hL)
theorem hz_y_newb (hO : hz_Ok p s m args meth c w cc nL own ret) {n : Nat} {x : Int32} (hn : ¬ x < 0) (hN : x.toNatClampNeg = n) (hbytes : n ≤ 536870912) (hz1 : z.2.1 + 1 ≤ z.1.1 ∧ z.2.2 + n ≤ z.1.2) (hdg : decode cc pc = .ok (.newarray .byte, 2))
    (kk : ∀ a : Nat, hz_Y p l e h (hz_zn z 1 n) s m args below meth c w nL Q X0 (S ++ [(a, .inl (hz_tc w 5, n, .inl (fun _ => 0)))]) (pc + 2) ls (.ref a :: st)) : hz_Y p l e h z s m args below meth c w nL Q X0 S pc ls (.int x :: st) := by
  intro hzk H locs la hW hS hL
  refine va_newaK (atype := .byte) (h := H.size) hO.1.1 hO.1.2.1 (hO.1.2.2.2.2 _ tw_3_59) rfl hdg rfl hn hN (by show n * 1 ≤ _; omega) hz1.1 hz1.2 rfl fun H1 cA e1 z1 o1 hAr hNm => ?_
  have hc : cA = hz_tc w 5 := by
    have h1 := hO.2.2.2.1.2.2.2.2.2.2.2.2.2.1 5 (by omega)
    exact Option.some.inj (hNm.symm.trans h1)
  subst hc
  have hk : ∀ (k : Nat) (x : Nat × va_E), (X0 ++ S)[k]? = some x → H1[x.1]? = H[x.1]? := fun k x hx => o1 x.1 (hW.1 k x hx).lt
  refine kk H.size hz1 H1 locs la ⟨?_, hW.2.1, ?_, hW.2.2.2.le (by omega)⟩ ⟨Nat.le_trans hS.1 (by omega), fun x h1 h2 => (o1 x (Nat.lt_of_lt_of_le h1 hS.1)).trans (hS.2.1 x h1 h2), hS.2.2⟩ hL
  · rw [← List.append_assoc]
    refine (hW.1.kept hk).app (fun k x hx => ?_)
    have hz : k < 1 := (List.getElem?_eq_some_iff.mp hx).1
    rw [show k = 0 by omega] at hx
    cases hx
    show H1[_]? = some (vp_cell _ _)
    rw [e1]
    rfl
  · rw [← List.append_assoc]
    exact hW.2.2.1.push hW.1 rfl (hz_y_in hO _ hS.1)
theorem hz_y_new (hO : hz_Ok p s m args meth c w cc nL own ret) {C : String} {T : u_T} {ci nf idx : Nat} (hKl : hz_Kl ci C T nf) (ty : Nat → FieldType) (hty : ∀ k, k < nf → parseFieldDescriptor (T k).2.2.1 = some (ty k)) (hcl : Cond.classLink own idx C ∈ hz_TB) (hinst : Cond.instantiable C nf ∈ hz_TB) (hini : Cond.initialized C ∈ hz_TB) {fs : List Value} (hfs : ∀ j, j < nf → defaultValue (ty j) = vp_V fs j) (hz1 : z.2.1 + 1 ≤ z.1.1 ∧ z.2.2 + nf ≤ z.1.2) (hdg : decode cc pc = .ok (.new idx, 3))
    (kk : ∀ a : Nat, hz_Y p l e h (hz_zn z 1 nf) s m args below meth c w nL Q X0 (S ++ [(a, .inr (ci, fs))]) (pc + 3) ls (.ref a :: st)) : hz_Y p l e h z s m args below meth c w nL Q X0 S pc ls st := by
  intro hzk H locs la hW hS hL
  have hKn := hW.2.1.1 ci _ hKl.1
  refine W.newcK (h := H.size) hO.1.1 hO.1.2.1 hO.1.2.2.2.1 (hO.1.2.2.2.2 _ hcl) (hO.1.2.2.2.2 _ hinst) (hO.1.2.2.2.2 _ hini) rfl hdg hz1.1 hz1.2 hKn.2.1 rfl fun H1 kC hkC e1 z1 o1 => ?_
  have hk : ∀ (k : Nat) (x : Nat × va_E), (X0 ++ S)[k]? = some x → H1[x.1]? = H[x.1]? := fun k x hx => o1 x.1 (hW.1 k x hx).lt
  refine kk H.size hz1 H1 locs la ⟨?_, hW.2.1, ?_, hW.2.2.2.le (by omega)⟩ ⟨Nat.le_trans hS.1 (by omega), fun x h1 h2 => (o1 x (Nat.lt_of_lt_of_le h1 hS.1)).trans (hS.2.1 x h1 h2), hS.2.2⟩ hL
  · rw [← List.append_assoc]
    refine (hW.1.kept hk).app (fun k x hx => ?_)
    have hz : k < 1 := (List.getElem?_eq_some_iff.mp hx).1
    rw [show k = 0 by omega] at hx
    cases hx
    exact ⟨_, hKl.1, (u_born ty hO.1.2.2.2.2 hKl.2 hKn hkC e1 hty).to hfs⟩
  · rw [← List.append_assoc]
    exact hW.2.2.1.push hW.1 rfl (hz_y_in hO _ hS.1)
theorem hz_y_copy (hO : hz_Ok p s m args meth c w cc nL own ret) {a0 a n0 n1 j0 j1 idx : Nat} {f g : Nat → Int32} {sp dp n : Int32} {S1 : va_W} (h0 : S[j0]? = some (a0, .inl (hz_tc w 5, n0, .inl f))) (h1 : S[j1]? = some (a, .inl (hz_tc w 5, n1, .inl g))) (hs : ¬ sp < 0) (hd : ¬ dp < 0) (hn : ¬ n < 0) (h4 : sp.toNatClampNeg + n.toNatClampNeg ≤ n0) (h5 : dp.toNatClampNeg + n.toNatClampNeg ≤ n1) (hf : sb_Fit f) (hlink : Cond.methodLink own idx arraycopyName ∈ hz_TB) (hh : 1 ≤ h) (hcat : (st.map fun v => v.category).sum ≤ 8) (hS1 : S.set j1 (a, .inl (hz_tc w 5, n1, .inl (va_cpy f g sp.toNatClampNeg dp.toNatClampNeg n.toNatClampNeg))) = S1) (hdg : decode cc pc = .ok (.invokestatic idx, 3))
    (kk : hz_Y p l e h z s m args below meth c w nL Q X0 S1 (pc + 3) ls st) : hz_Y p l e h z s m args below meth c w nL Q X0 S pc ls (.int n :: .int dp :: .ref a :: .int sp :: .ref a0 :: st) := by
  subst hS1
  intro hzk H locs la hW hS hL
  have hw : nativeFrameWords "java/lang/System" "arraycopy" 5 + 11 ≤ 52 := by decide
  refine va_copyi (D := hz_D w) (ty := .byte) hO.1.1 hO.1.2.1 (hO.1.2.2.1.trans hL.1.symm) hO.1.2.2.2.1 (hO.1.2.2.2.2 _ hlink) (hO.1.2.2.2.2 _ tw_3_171) (hO.1.2.2.2.2 _ tw_3_170) (hO.1.2.2.2.2 _ tw_1_20) hW.2.1 hW.1 hW.2.2.1 hS (X0.length + j0) (X0.length + j1) 5 5 (hz_yga h0) (hz_yga h1) rfl rfl rfl hs hd hn h4 h5 (fun i _ => hf _) hh (by show _ ≤ 60 * h; omega) hdg (fun H1 locs1 hP hD hS1 => ?_)
  rw [hz_ygs] at hP hD
  exact kk hzk H1 locs1 la ⟨hP, hW.2.1, hD, hO.2.2.2.2.le hS1.1⟩ hS1 hL
theorem hz_y_copyt (hO : hz_Ok p s m args meth c w cc nL own ret) {b0 a n0 n1 j1 idx : Nat} {f g : Nat → Int32} {sp dp n : Int32} {S1 : va_W} (hX : va_T .byte b0 n0 (fun j => .int (f j)) (hz_A w) s s.heap) (h1 : S[j1]? = some (a, .inl (hz_tc w 5, n1, .inl g))) (hs : ¬ sp < 0) (hd : ¬ dp < 0) (hn : ¬ n < 0) (h4 : sp.toNatClampNeg + n.toNatClampNeg ≤ n0) (h5 : dp.toNatClampNeg + n.toNatClampNeg ≤ n1) (hf : ∀ i : Nat, i < n.toNatClampNeg → fits .byte (.int (f (sp.toNatClampNeg + i))) = true) (hlink : Cond.methodLink own idx arraycopyName ∈ hz_TB) (hh : 1 ≤ h) (hcat : (st.map fun v => v.category).sum ≤ 8) (hS1 : S.set j1 (a, .inl (hz_tc w 5, n1, .inl (va_cpy f g sp.toNatClampNeg dp.toNatClampNeg n.toNatClampNeg))) = S1) (hdg : decode cc pc = .ok (.invokestatic idx, 3))
    (kk : hz_Y p l e h z s m args below meth c w nL Q X0 S1 (pc + 3) ls st) : hz_Y p l e h z s m args below meth c w nL Q X0 S pc ls (.int n :: .int dp :: .ref a :: .int sp :: .ref b0 :: st) := by
  subst hS1
  intro hzk H locs la hW hS hL
  have hw : nativeFrameWords "java/lang/System" "arraycopy" 5 + 11 ≤ 52 := by decide
  refine vk_copyt (D := hz_D w) hO.1.1 hO.1.2.1 (hO.1.2.2.1.trans hL.1.symm) hO.1.2.2.2.1 (hO.1.2.2.2.2 _ hlink) (hO.1.2.2.2.2 _ tw_3_171) (hO.1.2.2.2.2 _ tw_3_170) (hO.1.2.2.2.2 _ tw_1_20) hW.2.1 hW.1 hW.2.2.1 hS hX (X0.length + j1) 5 (hz_yga h1) rfl hs hd hn h4 h5 hf hh (by show _ ≤ 60 * h; omega) hdg (fun H1 locs1 hP hD hS1 => ?_)
  rw [hz_ygs] at hP hD
  exact kk hzk H1 locs1 la ⟨hP, hW.2.1, hD, hO.2.2.2.2.le hS1.1⟩ hS1 hL
/-- ends -/
theorem hz_y_iret (hO : hz_Ok p s m args meth c w cc nL own (some .int)) {r : Int32} {R : Int32 → va_W → Prop} (hR : R r S) (hdg : decode cc pc = .ok (.ireturn, 1)) : hz_Y p l e h z s m args below meth c w nL (MQ below (hz_YQi w R X0) args s z.2.1 z.2.2 (hz_A w)) X0 S pc ls [.int r] :=
  fun hzk H locs la hW hS hL => W.iret (v := r) hO.1.1 hO.1.2.1 hO.2.1 (fun t ht hW9 => ⟨⟨r, S, rfl, hR, hz_Yd.end ht hW hW9.alike⟩, hS.F ht⟩) hS.2.2 hdg hO.2.2.1
theorem hz_y_nret {ty : FieldType} (hO : hz_Ok p s m args meth c w cc nL own (some ty)) {r : Int32} {R : Int32 → va_W → Prop} (hr : narrow ty (.int r) = .int r) (hR : R r S) (hdg : decode cc pc = .ok (.ireturn, 1)) : hz_Y p l e h z s m args below meth c w nL (MQ below (hz_YQi w R X0) args s z.2.1 z.2.2 (hz_A w)) X0 S pc ls [.int r] :=
  fun hzk H locs la hW hS hL => W.zret (v := r) hO.1.1 hO.1.2.1 hO.2.1 hr (fun t ht hW9 => ⟨⟨r, S, rfl, hR, hz_Yd.end ht hW hW9.alike⟩, hS.F ht⟩) hS.2.2 hdg hO.2.2.1
theorem hz_y_vret (hO : hz_Ok p s m args meth c w cc nL own none) {R : va_W → Prop} (hR : R S) (hdg : decode cc pc = .ok (.return_, 1)) : hz_Y p l e h z s m args below meth c w nL (MQ below (hz_YQv w R X0) args s z.2.1 z.2.2 (hz_A w)) X0 S pc ls [] :=
  fun hzk H locs la hW hS hL => W.vret hO.1.1 hO.1.2.1 hO.2.1 (fun t ht hW9 => ⟨⟨S, rfl, hR, hz_Yd.end ht hW hW9.alike⟩, hS.F ht⟩) hS.2.2 hdg hO.2.2.1
theorem hz_y_aret {ty : FieldType} (hO : hz_Ok p s m args meth c w cc nL own (some ty)) (hty : (∃ C, ty = .object C) ∨ ∃ q, ty = .array q) {a : Nat} {R : Nat → va_W → Prop} (hR : R a S) (hdg : decode cc pc = .ok (.areturn, 1)) : hz_Y p l e h z s m args below meth c w nL (MQ below (hz_YQr w R X0) args s z.2.1 z.2.2 (hz_A w)) X0 S pc ls [.ref a] :=
  fun hzk H locs la hW hS hL => W.aret (v := .ref a) hO.1.1 hO.1.2.1 hO.2.1 hty (Or.inr ⟨a, rfl⟩) (fun t ht hW9 => ⟨⟨S, a, rfl, trivial, hR, hz_Yd.end ht hW hW9.alike⟩, hS.F ht⟩) hS.2.2 hdg hO.2.2.1
theorem hz_YP_blind {as : List Value} {X : va_W} : FrameBlind (hz_YP w as X) := fun a U g mk q => ⟨q.1, hz_Yd.moved (u := U) (U := U.calling g mk a) (Vm.Alike.refl U.vm) q.2.1, hz_X_same (u := U) (U := U.calling g mk a) rfl q.2.2⟩
theorem hz_y_pre {as : List Value} {X : va_W} {H : Heap} {locs : List Loc} (hO : hz_Ok p s m args meth c w cc nL own ret) (hW : hz_Yd w X s H) (hS : va_S (hz_A w) s.heap H locs) : ∀ U : State, U.heap = H → s.WarmedH U.vm → hz_YP w as X as.toArray U :=
  fun U hU hWm => ⟨rfl, by rw [hU]; exact hW.moved hWm.alike, by rw [hU]; exact hz_X_warm hWm (hz_X_kept hO.2.2.2.1 hS.2.1)⟩
/-- a contract from the walk of the body -/
theorem hz_y_ofW {y : MethodName} {as : List Value} {mc ms : Nat} {Qc : Array Value → State → Outcome → State → Prop} {C : String} (hy : plainName y.cls = true) (hC : y.cls = C) (hlen : (lg_sl as).length ≤ nL) (hcode : Cond.code y cc nL ret ∈ hz_TB)
    (body : ∀ (p : Program) (e : Env) (s : State) (m : MethodId) (args : Array Value) (below : List Frame) (meth : Method) (c : Code), hz_Ok p s m args meth c w cc nL C ret → meth.name = y.name → hz_Y p l e h ((mc, ms), (0, 0)) s m args below meth c w nL (MQ below Qc args s mc ms (hz_A w)) X0 S 0 (lv_args 0 as) []) : hz_CY l y cc nL ret h mc ms w as (X0 ++ S) Qc := by
  refine Met.ofW (cc := cc) (maxL := nL) (ret := ret) hy rfl ?_
  intro p e s m args below meth c s₁ B hml hv
  obtain ⟨rfl, hWd, hX⟩ := hv
  have hts0 := atoms_spec (ws := Cond.code y cc nL ret :: hz_TB) B.pre
  have hown : s.vm.findClass C = some m.cls := hC ▸ findClass_of_methodNamed B.named
  have hin : meth.name = y.name := (name_of_methodNamed B.named B.method).1
  have hl := lv_entry as (n := nL) hlen
  rw [lg_entry_eq]
  exact body p e s m as.toArray below meth c ⟨⟨B.exec, B.bytes, hml, hown, fun q hq => hts0 q (List.mem_cons_of_mem _ hq)⟩, B.returns, B.notSynchronized, hX, hWd.2.2.2⟩ hin ⟨Nat.zero_le _, Nat.zero_le _⟩ s.heap [] _ hWd va_S.rf hl
end HZY
