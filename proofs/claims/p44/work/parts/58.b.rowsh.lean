theorem tw_4_34 : (Jvm.Cond.instanceMethod ({ cls := "HotStepsLaw$Own", name := "copy", desc := "()LHotStepsLaw$Own;" } : Jvm.MethodName)) ∈ hz_TB := hz_tb (hz_t4 _ (List.mem_of_getElem? (i := 34) rfl)) rfl
theorem tw_4_35 : (Jvm.Cond.selects "HotStepsLaw$Own" ({ cls := "HotStepsLaw$Own", name := "copy", desc := "()LHotStepsLaw$Own;" } : Jvm.MethodName) ({ cls := "HotStepsLaw$Own", name := "copy", desc := "()LHotStepsLaw$Own;" } : Jvm.MethodName)) ∈ hz_TB := hz_tb (hz_t4 _ (List.mem_of_getElem? (i := 35) rfl)) rfl
theorem tw_4_36 : (Jvm.Cond.code ({ cls := "HotStepsLaw$Own", name := "copy", desc := "()LHotStepsLaw$Own;" } : Jvm.MethodName) prog_13_method_2_code (3 : Nat) (Option.some (Jvm.ClassFile.FieldType.object "HotStepsLaw$Own"))) ∈ hz_TB := hz_tb (hz_t4 _ (List.mem_of_getElem? (i := 36) rfl)) rfl
/-! THE SAME JUDGEMENT WITH THE HEAP'S EXACT SIZE: the world's next place will be the next cell -/
def hz_H (p : Program) (l : Launch) (e : Env) (h : Nat) (z : hz_Z) (s : State) (m : MethodId) (args : Array Value) (below : List Frame) (meth : Method) (c : Code) (w : hz_C) (N nL : Nat) (Q : State → Prop) (M : hz_M) (pc : Nat) (ls : List (Nat × Value)) (st : List Value) : Prop :=
  (z.2.1 ≤ z.1.1 ∧ z.2.2 ≤ z.1.2) → ∀ (H : Heap) (locs : List Loc) (la : Array Slot), (hz_Wd w N M s H ∧ H.size = s.heap.size + z.2.1 ∧ ∀ i, hz_ad w (N + i) = H.size + i) → va_S (hz_A w) s.heap H locs → lv_has la nL ls → W p l e (hz_rm h z) s m args below meth c H locs z.2.1 z.2.2 Q (F0 m pc la st)
section HZH
variable {p : Program} {l : Launch} {e : Env} {h : Nat} {z : hz_Z} {s : State} {m : MethodId} {args : Array Value} {below : List Frame} {meth : Method} {c : Code} {w : hz_C} {N nL : Nat} {Q : State → Prop} {M : hz_M} {pc : Nat} {ls : List (Nat × Value)} {st : List Value} {cc : ByteArray} {own : String} {ret : Option FieldType}
theorem hz_h_toG (kk : hz_G p l e h z s m args below meth c w N nL Q M pc ls st) : hz_H p l e h z s m args below meth c w N nL Q M pc ls st :=
  fun hzk H locs la hW hS hL => kk hzk H locs la hW.1 hS hL
theorem hz_h_name {x y : Int32} (hx : y = x) (kk : hz_H p l e h z s m args below meth c w N nL Q M pc ls (.int y :: st)) : hz_H p l e h z s m args below meth c w N nL Q M pc ls (.int x :: st) := hx ▸ kk
theorem hz_h_nameM {M1 : hz_M} (hx : M1 = M) (kk : hz_H p l e h z s m args below meth c w N nL Q M1 pc ls st) : hz_H p l e h z s m args below meth c w N nL Q M pc ls st := hx ▸ kk
theorem hz_h_ls {ls1 : List (Nat × Value)} (ks : List Nat) (hl : lv_pick ls ks = ls1) (kk : hz_H p l e h z s m args below meth c w N nL Q M pc ls1 st) : hz_H p l e h z s m args below meth c w N nL Q M pc ls st :=
  fun hzk H locs la hW hS hL => kk hzk H locs la hW hS (lv_sub hL ks hl)
theorem hz_h_iconst (hO : hz_Ok p s m args meth c w cc nL own ret) {n : Int} {v : Int32} (hdg : decode cc pc = .ok (.iconst n, 1)) (hv : Int32.ofInt n = v) (kk : hz_H p l e h z s m args below meth c w N nL Q M (pc + 1) ls (.int v :: st)) : hz_H p l e h z s m args below meth c w N nL Q M pc ls st :=
  fun hzk H locs la hW hS hL => lv_iconst hO.1.1 hO.1.2.1 hdg hv (kk hzk H locs la hW hS hL)
theorem hz_h_bipush (hO : hz_Ok p s m args meth c w cc nL own ret) {n : Int} {v : Int32} (hdg : decode cc pc = .ok (.bipush n, 2)) (hv : (Int8.ofInt n).toInt32 = v) (kk : hz_H p l e h z s m args below meth c w N nL Q M (pc + 2) ls (.int v :: st)) : hz_H p l e h z s m args below meth c w N nL Q M pc ls st :=
  fun hzk H locs la hW hS hL => lv_bipush hO.1.1 hO.1.2.1 hdg hv (kk hzk H locs la hW hS hL)
theorem hz_h_sipush (hO : hz_Ok p s m args meth c w cc nL own ret) {n : Int} {v : Int32} (hdg : decode cc pc = .ok (.sipush n, 3)) (hv : (Int16.ofInt n).toInt32 = v) (kk : hz_H p l e h z s m args below meth c w N nL Q M (pc + 3) ls (.int v :: st)) : hz_H p l e h z s m args below meth c w N nL Q M pc ls st :=
  fun hzk H locs la hW hS hL => lv_sipush hO.1.1 hO.1.2.1 hdg hv (kk hzk H locs la hW hS hL)
theorem hz_h_iload_n (hO : hz_Ok p s m args meth c w cc nL own ret) {k : Fin 4} {i : Nat} {x : Int32} (hdg : decode cc pc = .ok (.iload_n k, 1)) (hi : (k : Nat) = i) (j : Nat) (hj : ls[j]? = some (i, .int x)) (kk : hz_H p l e h z s m args below meth c w N nL Q M (pc + 1) ls (.int x :: st)) : hz_H p l e h z s m args below meth c w N nL Q M pc ls st :=
  fun hzk H locs la hW hS hL => lv_iload_n hO.1.1 hO.1.2.1 hdg hi (lv_at hL j hj) (kk hzk H locs la hW hS hL)
theorem hz_h_iload (hO : hz_Ok p s m args meth c w cc nL own ret) {i : Nat} {x : Int32} (hdg : decode cc pc = .ok (.iload i, 2)) (j : Nat) (hj : ls[j]? = some (i, .int x)) (kk : hz_H p l e h z s m args below meth c w N nL Q M (pc + 2) ls (.int x :: st)) : hz_H p l e h z s m args below meth c w N nL Q M pc ls st :=
  fun hzk H locs la hW hS hL => lv_iload hO.1.1 hO.1.2.1 hdg (lv_at hL j hj) (kk hzk H locs la hW hS hL)
theorem hz_h_aload_n (hO : hz_Ok p s m args meth c w cc nL own ret) {k : Fin 4} {i x : Nat} (hdg : decode cc pc = .ok (.aload_n k, 1)) (hi : (k : Nat) = i) (j : Nat) (hj : ls[j]? = some (i, .ref x)) (kk : hz_H p l e h z s m args below meth c w N nL Q M (pc + 1) ls (.ref x :: st)) : hz_H p l e h z s m args below meth c w N nL Q M pc ls st :=
  fun hzk H locs la hW hS hL => lv_aload_n hO.1.1 hO.1.2.1 hdg hi (lv_at hL j hj) (kk hzk H locs la hW hS hL)
theorem hz_h_aload (hO : hz_Ok p s m args meth c w cc nL own ret) {i x : Nat} (hdg : decode cc pc = .ok (.aload i, 2)) (j : Nat) (hj : ls[j]? = some (i, .ref x)) (kk : hz_H p l e h z s m args below meth c w N nL Q M (pc + 2) ls (.ref x :: st)) : hz_H p l e h z s m args below meth c w N nL Q M pc ls st :=
  fun hzk H locs la hW hS hL => lv_aload hO.1.1 hO.1.2.1 hdg (lv_at hL j hj) (kk hzk H locs la hW hS hL)
theorem hz_h_istore_n (hO : hz_Ok p s m args meth c w cc nL own ret) {k : Fin 4} {i : Nat} {x : Int32} {ls1 : List (Nat × Value)} (hdg : decode cc pc = .ok (.istore_n k, 1)) (hi : (k : Nat) = i) (hn : i < nL) (hl : (i, Value.int x) :: ls.filter (fun q => !(q.1 == i) && !(q.1 + 1 == i && q.2.category == 2)) = ls1) (kk : hz_H p l e h z s m args below meth c w N nL Q M (pc + 1) ls1 st) : hz_H p l e h z s m args below meth c w N nL Q M pc ls (.int x :: st) :=
  fun hzk H locs la hW hS hL => lv_istore_n hO.1.1 hO.1.2.1 hdg hi hL hn hl (fun la1 hL1 => kk hzk H locs la1 hW hS hL1)
theorem hz_h_istore (hO : hz_Ok p s m args meth c w cc nL own ret) {i : Nat} {x : Int32} {ls1 : List (Nat × Value)} (hdg : decode cc pc = .ok (.istore i, 2)) (hn : i < nL) (hl : (i, Value.int x) :: ls.filter (fun q => !(q.1 == i) && !(q.1 + 1 == i && q.2.category == 2)) = ls1) (kk : hz_H p l e h z s m args below meth c w N nL Q M (pc + 2) ls1 st) : hz_H p l e h z s m args below meth c w N nL Q M pc ls (.int x :: st) :=
  fun hzk H locs la hW hS hL => lv_istore hO.1.1 hO.1.2.1 hdg hL hn hl (fun la1 hL1 => kk hzk H locs la1 hW hS hL1)
theorem hz_h_astore_n (hO : hz_Ok p s m args meth c w cc nL own ret) {k : Fin 4} {i x : Nat} {ls1 : List (Nat × Value)} (hdg : decode cc pc = .ok (.astore_n k, 1)) (hi : (k : Nat) = i) (hn : i < nL) (hl : (i, Value.ref x) :: ls.filter (fun q => !(q.1 == i) && !(q.1 + 1 == i && q.2.category == 2)) = ls1) (kk : hz_H p l e h z s m args below meth c w N nL Q M (pc + 1) ls1 st) : hz_H p l e h z s m args below meth c w N nL Q M pc ls (.ref x :: st) :=
  fun hzk H locs la hW hS hL => lv_astore_n hO.1.1 hO.1.2.1 hdg hi hL hn hl (fun la1 hL1 => kk hzk H locs la1 hW hS hL1)
theorem hz_h_astore (hO : hz_Ok p s m args meth c w cc nL own ret) {i x : Nat} {ls1 : List (Nat × Value)} (hdg : decode cc pc = .ok (.astore i, 2)) (hn : i < nL) (hl : (i, Value.ref x) :: ls.filter (fun q => !(q.1 == i) && !(q.1 + 1 == i && q.2.category == 2)) = ls1) (kk : hz_H p l e h z s m args below meth c w N nL Q M (pc + 2) ls1 st) : hz_H p l e h z s m args below meth c w N nL Q M pc ls (.ref x :: st) :=
  fun hzk H locs la hW hS hL => lv_astore hO.1.1 hO.1.2.1 hdg hL hn hl (fun la1 hL1 => kk hzk H locs la1 hW hS hL1)
theorem hz_h_iinc (hO : hz_Ok p s m args meth c w cc nL own ret) {i k : Nat} {n : Int} {x v : Int32} {ls1 : List (Nat × Value)} (hdg : decode cc pc = .ok (.iinc i n, 3)) (hk : ls[k]? = some (i, .int x)) (hv : x + Int32.ofInt n = v) (hn : i < nL) (hl : (i, Value.int v) :: ls.filter (fun q => !(q.1 == i) && !(q.1 + 1 == i && q.2.category == 2)) = ls1) (kk : hz_H p l e h z s m args below meth c w N nL Q M (pc + 3) ls1 st) : hz_H p l e h z s m args below meth c w N nL Q M pc ls st :=
  fun hzk H locs la hW hS hL => lv_iinc hO.1.1 hO.1.2.1 hdg hL hk hv hn hl (fun la1 hL1 => kk hzk H locs la1 hW hS hL1)
theorem hz_h_iadd (hO : hz_Ok p s m args meth c w cc nL own ret) {x y : Int32} (hdg : decode cc pc = .ok (.iadd, 1)) (kk : hz_H p l e h z s m args below meth c w N nL Q M (pc + 1) ls (.int (x + y) :: st)) : hz_H p l e h z s m args below meth c w N nL Q M pc ls (.int y :: .int x :: st) :=
  fun hzk H locs la hW hS hL => lv_iadd hO.1.1 hO.1.2.1 hdg (kk hzk H locs la hW hS hL)
theorem hz_h_isub (hO : hz_Ok p s m args meth c w cc nL own ret) {x y : Int32} (hdg : decode cc pc = .ok (.isub, 1)) (kk : hz_H p l e h z s m args below meth c w N nL Q M (pc + 1) ls (.int (x - y) :: st)) : hz_H p l e h z s m args below meth c w N nL Q M pc ls (.int y :: .int x :: st) :=
  fun hzk H locs la hW hS hL => lv_isub hO.1.1 hO.1.2.1 hdg (kk hzk H locs la hW hS hL)
theorem hz_h_imul (hO : hz_Ok p s m args meth c w cc nL own ret) {x y : Int32} (hdg : decode cc pc = .ok (.imul, 1)) (kk : hz_H p l e h z s m args below meth c w N nL Q M (pc + 1) ls (.int (x * y) :: st)) : hz_H p l e h z s m args below meth c w N nL Q M pc ls (.int y :: .int x :: st) :=
  fun hzk H locs la hW hS hL => lv_imul hO.1.1 hO.1.2.1 hdg (kk hzk H locs la hW hS hL)
theorem hz_h_iand (hO : hz_Ok p s m args meth c w cc nL own ret) {x y : Int32} (hdg : decode cc pc = .ok (.iand, 1)) (kk : hz_H p l e h z s m args below meth c w N nL Q M (pc + 1) ls (.int (x &&& y) :: st)) : hz_H p l e h z s m args below meth c w N nL Q M pc ls (.int y :: .int x :: st) :=
  fun hzk H locs la hW hS hL => lv_iand hO.1.1 hO.1.2.1 hdg (kk hzk H locs la hW hS hL)
theorem hz_h_ior (hO : hz_Ok p s m args meth c w cc nL own ret) {x y : Int32} (hdg : decode cc pc = .ok (.ior, 1)) (kk : hz_H p l e h z s m args below meth c w N nL Q M (pc + 1) ls (.int (x ||| y) :: st)) : hz_H p l e h z s m args below meth c w N nL Q M pc ls (.int y :: .int x :: st) :=
  fun hzk H locs la hW hS hL => lv_ior hO.1.1 hO.1.2.1 hdg (kk hzk H locs la hW hS hL)
theorem hz_h_ishl (hO : hz_Ok p s m args meth c w cc nL own ret) {x y : Int32} (hdg : decode cc pc = .ok (.ishl, 1)) (kk : hz_H p l e h z s m args below meth c w N nL Q M (pc + 1) ls (.int (x <<< (y &&& 31)) :: st)) : hz_H p l e h z s m args below meth c w N nL Q M pc ls (.int y :: .int x :: st) :=
  fun hzk H locs la hW hS hL => lv_ishl hO.1.1 hO.1.2.1 hdg (kk hzk H locs la hW hS hL)
theorem hz_h_ishr (hO : hz_Ok p s m args meth c w cc nL own ret) {x y : Int32} (hdg : decode cc pc = .ok (.ishr, 1)) (kk : hz_H p l e h z s m args below meth c w N nL Q M (pc + 1) ls (.int (x >>> (y &&& 31)) :: st)) : hz_H p l e h z s m args below meth c w N nL Q M pc ls (.int y :: .int x :: st) :=
  fun hzk H locs la hW hS hL => lv_ishr hO.1.1 hO.1.2.1 hdg (kk hzk H locs la hW hS hL)
theorem hz_h_idiv (hO : hz_Ok p s m args meth c w cc nL own ret) {x y : Int32} (hdg : decode cc pc = .ok (.idiv, 1)) (hne : ¬ y = 0) (kk : hz_H p l e h z s m args below meth c w N nL Q M (pc + 1) ls (.int (x / y) :: st)) : hz_H p l e h z s m args below meth c w N nL Q M pc ls (.int y :: .int x :: st) :=
  fun hzk H locs la hW hS hL => lv_idiv hO.1.1 hO.1.2.1 hdg hne (kk hzk H locs la hW hS hL)
theorem hz_h_irem (hO : hz_Ok p s m args meth c w cc nL own ret) {x y : Int32} (hdg : decode cc pc = .ok (.irem, 1)) (hne : ¬ y = 0) (kk : hz_H p l e h z s m args below meth c w N nL Q M (pc + 1) ls (.int (x - x / y * y) :: st)) : hz_H p l e h z s m args below meth c w N nL Q M pc ls (.int y :: .int x :: st) :=
  fun hzk H locs la hW hS hL => lv_irem hO.1.1 hO.1.2.1 hdg hne (kk hzk H locs la hW hS hL)
theorem hz_h_dup (hO : hz_Ok p s m args meth c w cc nL own ret) {v : Value} (hdg : decode cc pc = .ok (.dup, 1)) (hv : v.category = 1) (kk : hz_H p l e h z s m args below meth c w N nL Q M (pc + 1) ls (v :: v :: st)) : hz_H p l e h z s m args below meth c w N nL Q M pc ls (v :: st) :=
  fun hzk H locs la hW hS hL => lv_dup hO.1.1 hO.1.2.1 hdg hv (kk hzk H locs la hW hS hL)
theorem hz_h_pop (hO : hz_Ok p s m args meth c w cc nL own ret) {v : Value} (hdg : decode cc pc = .ok (.pop, 1)) (hv : v.category = 1) (kk : hz_H p l e h z s m args below meth c w N nL Q M (pc + 1) ls st) : hz_H p l e h z s m args below meth c w N nL Q M pc ls (v :: st) :=
  fun hzk H locs la hW hS hL => lv_pop hO.1.1 hO.1.2.1 hdg hv (kk hzk H locs la hW hS hL)
theorem hz_h_icmp_eq (hO : hz_Ok p s m args meth c w cc nL own ret) {x y : Int32} {off : Int} {tgt : Nat} (hdg : decode cc pc = .ok (.if_icmp .eq off, 3)) (ht : (pc : Int) + off = (tgt : Int)) (kt : x = y → hz_H p l e h z s m args below meth c w N nL Q M tgt ls st) (kf : ¬ x = y → hz_H p l e h z s m args below meth c w N nL Q M (pc + 3) ls st) : hz_H p l e h z s m args below meth c w N nL Q M pc ls (.int y :: .int x :: st) :=
  fun hzk H locs la hW hS hL => lv_icmp_eq hO.1.1 hO.1.2.1 hdg ht (fun q => kt q hzk H locs la hW hS hL) (fun q => kf q hzk H locs la hW hS hL)
theorem hz_h_icmp_ne (hO : hz_Ok p s m args meth c w cc nL own ret) {x y : Int32} {off : Int} {tgt : Nat} (hdg : decode cc pc = .ok (.if_icmp .ne off, 3)) (ht : (pc : Int) + off = (tgt : Int)) (kt : ¬ x = y → hz_H p l e h z s m args below meth c w N nL Q M tgt ls st) (kf : x = y → hz_H p l e h z s m args below meth c w N nL Q M (pc + 3) ls st) : hz_H p l e h z s m args below meth c w N nL Q M pc ls (.int y :: .int x :: st) :=
  fun hzk H locs la hW hS hL => lv_icmp_ne hO.1.1 hO.1.2.1 hdg ht (fun q => kt q hzk H locs la hW hS hL) (fun q => kf q hzk H locs la hW hS hL)
theorem hz_h_icmp_lt (hO : hz_Ok p s m args meth c w cc nL own ret) {x y : Int32} {off : Int} {tgt : Nat} (hdg : decode cc pc = .ok (.if_icmp .lt off, 3)) (ht : (pc : Int) + off = (tgt : Int)) (kt : x < y → hz_H p l e h z s m args below meth c w N nL Q M tgt ls st) (kf : ¬ x < y → hz_H p l e h z s m args below meth c w N nL Q M (pc + 3) ls st) : hz_H p l e h z s m args below meth c w N nL Q M pc ls (.int y :: .int x :: st) :=
  fun hzk H locs la hW hS hL => lv_icmp_lt hO.1.1 hO.1.2.1 hdg ht (fun q => kt q hzk H locs la hW hS hL) (fun q => kf q hzk H locs la hW hS hL)
theorem hz_h_icmp_ge (hO : hz_Ok p s m args meth c w cc nL own ret) {x y : Int32} {off : Int} {tgt : Nat} (hdg : decode cc pc = .ok (.if_icmp .ge off, 3)) (ht : (pc : Int) + off = (tgt : Int)) (kt : y ≤ x → hz_H p l e h z s m args below meth c w N nL Q M tgt ls st) (kf : ¬ y ≤ x → hz_H p l e h z s m args below meth c w N nL Q M (pc + 3) ls st) : hz_H p l e h z s m args below meth c w N nL Q M pc ls (.int y :: .int x :: st) :=
  fun hzk H locs la hW hS hL => lv_icmp_ge hO.1.1 hO.1.2.1 hdg ht (fun q => kt q hzk H locs la hW hS hL) (fun q => kf q hzk H locs la hW hS hL)
theorem hz_h_icmp_gt (hO : hz_Ok p s m args meth c w cc nL own ret) {x y : Int32} {off : Int} {tgt : Nat} (hdg : decode cc pc = .ok (.if_icmp .gt off, 3)) (ht : (pc : Int) + off = (tgt : Int)) (kt : y < x → hz_H p l e h z s m args below meth c w N nL Q M tgt ls st) (kf : ¬ y < x → hz_H p l e h z s m args below meth c w N nL Q M (pc + 3) ls st) : hz_H p l e h z s m args below meth c w N nL Q M pc ls (.int y :: .int x :: st) :=
  fun hzk H locs la hW hS hL => lv_icmp_gt hO.1.1 hO.1.2.1 hdg ht (fun q => kt q hzk H locs la hW hS hL) (fun q => kf q hzk H locs la hW hS hL)
theorem hz_h_icmp_le (hO : hz_Ok p s m args meth c w cc nL own ret) {x y : Int32} {off : Int} {tgt : Nat} (hdg : decode cc pc = .ok (.if_icmp .le off, 3)) (ht : (pc : Int) + off = (tgt : Int)) (kt : x ≤ y → hz_H p l e h z s m args below meth c w N nL Q M tgt ls st) (kf : ¬ x ≤ y → hz_H p l e h z s m args below meth c w N nL Q M (pc + 3) ls st) : hz_H p l e h z s m args below meth c w N nL Q M pc ls (.int y :: .int x :: st) :=
  fun hzk H locs la hW hS hL => lv_icmp_le hO.1.1 hO.1.2.1 hdg ht (fun q => kt q hzk H locs la hW hS hL) (fun q => kf q hzk H locs la hW hS hL)
theorem hz_h_if_eq (hO : hz_Ok p s m args meth c w cc nL own ret) {x : Int32} {off : Int} {tgt : Nat} (hdg : decode cc pc = .ok (.ifCond .eq off, 3)) (ht : (pc : Int) + off = (tgt : Int)) (kt : x = 0 → hz_H p l e h z s m args below meth c w N nL Q M tgt ls st) (kf : ¬ x = 0 → hz_H p l e h z s m args below meth c w N nL Q M (pc + 3) ls st) : hz_H p l e h z s m args below meth c w N nL Q M pc ls (.int x :: st) :=
  fun hzk H locs la hW hS hL => lv_if_eq hO.1.1 hO.1.2.1 hdg ht (fun q => kt q hzk H locs la hW hS hL) (fun q => kf q hzk H locs la hW hS hL)
theorem hz_h_if_ne (hO : hz_Ok p s m args meth c w cc nL own ret) {x : Int32} {off : Int} {tgt : Nat} (hdg : decode cc pc = .ok (.ifCond .ne off, 3)) (ht : (pc : Int) + off = (tgt : Int)) (kt : ¬ x = 0 → hz_H p l e h z s m args below meth c w N nL Q M tgt ls st) (kf : x = 0 → hz_H p l e h z s m args below meth c w N nL Q M (pc + 3) ls st) : hz_H p l e h z s m args below meth c w N nL Q M pc ls (.int x :: st) :=
  fun hzk H locs la hW hS hL => lv_if_ne hO.1.1 hO.1.2.1 hdg ht (fun q => kt q hzk H locs la hW hS hL) (fun q => kf q hzk H locs la hW hS hL)
theorem hz_h_if_lt (hO : hz_Ok p s m args meth c w cc nL own ret) {x : Int32} {off : Int} {tgt : Nat} (hdg : decode cc pc = .ok (.ifCond .lt off, 3)) (ht : (pc : Int) + off = (tgt : Int)) (kt : x < 0 → hz_H p l e h z s m args below meth c w N nL Q M tgt ls st) (kf : ¬ x < 0 → hz_H p l e h z s m args below meth c w N nL Q M (pc + 3) ls st) : hz_H p l e h z s m args below meth c w N nL Q M pc ls (.int x :: st) :=
  fun hzk H locs la hW hS hL => lv_if_lt hO.1.1 hO.1.2.1 hdg ht (fun q => kt q hzk H locs la hW hS hL) (fun q => kf q hzk H locs la hW hS hL)
theorem hz_h_if_ge (hO : hz_Ok p s m args meth c w cc nL own ret) {x : Int32} {off : Int} {tgt : Nat} (hdg : decode cc pc = .ok (.ifCond .ge off, 3)) (ht : (pc : Int) + off = (tgt : Int)) (kt : 0 ≤ x → hz_H p l e h z s m args below meth c w N nL Q M tgt ls st) (kf : ¬ 0 ≤ x → hz_H p l e h z s m args below meth c w N nL Q M (pc + 3) ls st) : hz_H p l e h z s m args below meth c w N nL Q M pc ls (.int x :: st) :=
  fun hzk H locs la hW hS hL => lv_if_ge hO.1.1 hO.1.2.1 hdg ht (fun q => kt q hzk H locs la hW hS hL) (fun q => kf q hzk H locs la hW hS hL)
theorem hz_h_if_gt (hO : hz_Ok p s m args meth c w cc nL own ret) {x : Int32} {off : Int} {tgt : Nat} (hdg : decode cc pc = .ok (.ifCond .gt off, 3)) (ht : (pc : Int) + off = (tgt : Int)) (kt : 0 < x → hz_H p l e h z s m args below meth c w N nL Q M tgt ls st) (kf : ¬ 0 < x → hz_H p l e h z s m args below meth c w N nL Q M (pc + 3) ls st) : hz_H p l e h z s m args below meth c w N nL Q M pc ls (.int x :: st) :=
  fun hzk H locs la hW hS hL => lv_if_gt hO.1.1 hO.1.2.1 hdg ht (fun q => kt q hzk H locs la hW hS hL) (fun q => kf q hzk H locs la hW hS hL)
theorem hz_h_if_le (hO : hz_Ok p s m args meth c w cc nL own ret) {x : Int32} {off : Int} {tgt : Nat} (hdg : decode cc pc = .ok (.ifCond .le off, 3)) (ht : (pc : Int) + off = (tgt : Int)) (kt : x ≤ 0 → hz_H p l e h z s m args below meth c w N nL Q M tgt ls st) (kf : ¬ x ≤ 0 → hz_H p l e h z s m args below meth c w N nL Q M (pc + 3) ls st) : hz_H p l e h z s m args below meth c w N nL Q M pc ls (.int x :: st) :=
  fun hzk H locs la hW hS hL => lv_if_le hO.1.1 hO.1.2.1 hdg ht (fun q => kt q hzk H locs la hW hS hL) (fun q => kf q hzk H locs la hW hS hL)
theorem hz_h_goto (hO : hz_Ok p s m args meth c w cc nL own ret) {off : Int} {tgt : Nat} (hdg : decode cc pc = .ok (.goto off, 3)) (ht : (pc : Int) + off = (tgt : Int)) (kk : hz_H p l e h z s m args below meth c w N nL Q M tgt ls st) : hz_H p l e h z s m args below meth c w N nL Q M pc ls st :=
  fun hzk H locs la hW hS hL => lv_goto hO.1.1 hO.1.2.1 hdg ht (kk hzk H locs la hW hS hL)
theorem hz_h_mmin (hO : hz_Ok p s m args meth c w cc nL own ret) {idx : Nat} {x y : Int32} (hlink : Cond.methodLink own idx Lib.Math.min.name ∈ hz_TB) (h1 : 1 ≤ h) (hcat : (st.map fun v => v.category).sum + 13 ≤ 60) (hdg : decode cc pc = .ok (.invokestatic idx, 3))
    (kk : hz_H p l e h z s m args below meth c w N nL Q M (pc + 3) ls (.int (if y < x then y else x) :: st)) : hz_H p l e h z s m args below meth c w N nL Q M pc ls (.int y :: .int x :: st) :=
  fun hzk H locs la hW hS hL => va_mmin hO.1.1 hO.1.2.1 (hO.1.2.2.1.trans hL.1.symm) hO.1.2.2.2.1 (hO.1.2.2.2.2 _ hlink) (hO.1.2.2.2.2 _ tw_math_min_s) (hO.1.2.2.2.2 _ tw_math_i) (hO.1.2.2.2.2 _ tw_math_min_c) h1 (Nat.le_trans hcat (by show 60 ≤ 60 * h; omega)) hzk.1 hzk.2 hdg (kk hzk H locs la hW hS hL)
theorem hz_h_mmax (hO : hz_Ok p s m args meth c w cc nL own ret) {idx : Nat} {x y : Int32} (hlink : Cond.methodLink own idx Lib.Math.max.name ∈ hz_TB) (h1 : 1 ≤ h) (hcat : (st.map fun v => v.category).sum + 13 ≤ 60) (hdg : decode cc pc = .ok (.invokestatic idx, 3))
    (kk : hz_H p l e h z s m args below meth c w N nL Q M (pc + 3) ls (.int (if x < y then y else x) :: st)) : hz_H p l e h z s m args below meth c w N nL Q M pc ls (.int y :: .int x :: st) :=
  fun hzk H locs la hW hS hL => va_mmax hO.1.1 hO.1.2.1 (hO.1.2.2.1.trans hL.1.symm) hO.1.2.2.2.1 (hO.1.2.2.2.2 _ hlink) (hO.1.2.2.2.2 _ tw_math_max_s) (hO.1.2.2.2.2 _ tw_math_i) (hO.1.2.2.2.2 _ tw_math_max_c) h1 (Nat.le_trans hcat (by show 60 ≤ 60 * h; omega)) hzk.1 hzk.2 hdg (kk hzk H locs la hW hS hL)
theorem hz_h_getI (hO : hz_Ok p s m args meth c w cc nL own ret) {ci n i k idx : Nat} {C ref : String} {T : u_T} {fs : List (Option Nat)} (hKl : hz_Kl ci C T n) (hsh : hz_SH[i]? = some (.inl (ci, fs))) (hi : i < N) (hf : fs[k]? = some none) (hk : k < n) (hlink : Cond.fieldLink own idx ref (T k).2.1 (T k).2.2.1 ∈ hz_TB) (href : (T k).1 = ref) (hdg : decode cc pc = .ok (.getfield idx, 3))
    (kk : hz_H p l e h z s m args below meth c w N nL Q M (pc + 3) ls (.int (M i k) :: st)) : hz_H p l e h z s m args below meth c w N nL Q M pc ls (.ref (hz_ad w i) :: st) := by
  intro hzk H locs la hW hS hL
  refine va_get (D := hz_D w) (ci := ci) (v := .int (M i k)) (C := C) (T := T) (N := n) hO.1.1 hO.1.2.1 hO.1.2.2.2.2 hKl.2 hO.1.2.2.2.1 hW.1.2.1 hW.1.1 i (hz_ws_at hsh hi) hKl.1 k hk (hO.1.2.2.2.2 _ hlink) (fun x hx => href ▸ hx) ?_ hdg (kk hzk H locs la hW hS hL)
  rw [List.getElem?_mapIdx, hf]
  rfl
theorem hz_h_getR (hO : hz_Ok p s m args meth c w cc nL own ret) {ci n i k idx : Nat} (j : Nat) {C ref : String} {T : u_T} {fs : List (Option Nat)} (hKl : hz_Kl ci C T n) (hsh : hz_SH[i]? = some (.inl (ci, fs))) (hi : i < N) (hf : fs[k]? = some (some j)) (hk : k < n) (hlink : Cond.fieldLink own idx ref (T k).2.1 (T k).2.2.1 ∈ hz_TB) (href : (T k).1 = ref) (hdg : decode cc pc = .ok (.getfield idx, 3))
    (kk : hz_H p l e h z s m args below meth c w N nL Q M (pc + 3) ls (.ref (hz_ad w j) :: st)) : hz_H p l e h z s m args below meth c w N nL Q M pc ls (.ref (hz_ad w i) :: st) := by
  intro hzk H locs la hW hS hL
  refine va_get (D := hz_D w) (ci := ci) (v := .ref (hz_ad w j)) (C := C) (T := T) (N := n) hO.1.1 hO.1.2.1 hO.1.2.2.2.2 hKl.2 hO.1.2.2.2.1 hW.1.2.1 hW.1.1 i (hz_ws_at hsh hi) hKl.1 k hk (hO.1.2.2.2.2 _ hlink) (fun x hx => href ▸ hx) ?_ hdg (kk hzk H locs la hW hS hL)
  rw [List.getElem?_mapIdx, hf]
  rfl
theorem hz_h_iald (hO : hz_Ok p s m args meth c w cc nL own ret) {i n : Nat} {x : Int32} (hsh : hz_SH[i]? = some (.inr (.inl (0, n)))) (hi : i < N) (hin : hz_in x n = true) (hdg : decode cc pc = .ok (.iaload, 1))
    (kk : hz_H p l e h z s m args below meth c w N nL Q M (pc + 1) ls (.int (M i x.toNatClampNeg) :: st)) : hz_H p l e h z s m args below meth c w N nL Q M pc ls (.int x :: .ref (hz_ad w i) :: st) :=
  fun hzk H locs la hW hS hL => va_iald (D := hz_D w) hO.1.1 hO.1.2.1 hW.1.2.1 hW.1.1 i 0 (hz_ws_at hsh hi) rfl (hz_in_e hin) hdg (kk hzk H locs la hW hS hL)
theorem hz_h_getIN (hO : hz_Ok p s m args meth c w cc nL own ret) {ci n i k idx : Nat} {C ref host : String} {T : u_T} {fs : List (Option Nat)} (hKl : hz_Kl ci C T n) (hsh : hz_SH[i]? = some (.inl (ci, fs))) (hi : i < N) (hf : fs[k]? = some none) (hk : k < n) (hq : (own, idx, ref, (T k).2.1, (T k).2.2.1, host) ∈ hz_nestF) (href : (T k).1 = ref) (hdg : decode cc pc = .ok (.getfield idx, 3))
    (kk : hz_H p l e h z s m args below meth c w N nL Q M (pc + 3) ls (.int (M i k) :: st)) : hz_H p l e h z s m args below meth c w N nL Q M pc ls (.ref (hz_ad w i) :: st) := by
  intro hzk H locs la hW hS hL
  refine va_getN (D := hz_D w) (ci := ci) (v := .int (M i k)) (C := C) (T := T) (N := n) hO.1.1 hO.1.2.1 hO.1.2.2.2.2 hKl.2 hO.1.2.2.2.1 hW.1.2.1 hW.1.1 i (hz_ws_at hsh hi) hKl.1 k hk (va_Nw.use rfl (hO.2.2.2.1.2.2.2.2.2.2.2.2.2.2.2.2.2.1 _ hq)) (fun x hx => href ▸ hx) ?_ hdg (kk hzk H locs la hW hS hL)
  rw [List.getElem?_mapIdx, hf]
  rfl
theorem hz_h_getRN (hO : hz_Ok p s m args meth c w cc nL own ret) {ci n i k idx : Nat} (j : Nat) {C ref host : String} {T : u_T} {fs : List (Option Nat)} (hKl : hz_Kl ci C T n) (hsh : hz_SH[i]? = some (.inl (ci, fs))) (hi : i < N) (hf : fs[k]? = some (some j)) (hk : k < n) (hq : (own, idx, ref, (T k).2.1, (T k).2.2.1, host) ∈ hz_nestF) (href : (T k).1 = ref) (hdg : decode cc pc = .ok (.getfield idx, 3))
    (kk : hz_H p l e h z s m args below meth c w N nL Q M (pc + 3) ls (.ref (hz_ad w j) :: st)) : hz_H p l e h z s m args below meth c w N nL Q M pc ls (.ref (hz_ad w i) :: st) := by
  intro hzk H locs la hW hS hL
  refine va_getN (D := hz_D w) (ci := ci) (v := .ref (hz_ad w j)) (C := C) (T := T) (N := n) hO.1.1 hO.1.2.1 hO.1.2.2.2.2 hKl.2 hO.1.2.2.2.1 hW.1.2.1 hW.1.1 i (hz_ws_at hsh hi) hKl.1 k hk (va_Nw.use rfl (hO.2.2.2.1.2.2.2.2.2.2.2.2.2.2.2.2.2.1 _ hq)) (fun x hx => href ▸ hx) ?_ hdg (kk hzk H locs la hW hS hL)
  rw [List.getElem?_mapIdx, hf]
  rfl
theorem hz_h_callVi (hO : hz_Ok p s m args meth c w cc nL own ret) {idx n nLy hc i ci nf : Nat} {C : String} {T : u_T} {fs : List (Option Nat)} {y : MethodName} {b : ByteArray} {rt : Option FieldType} {as rest : List Value} {r : Int32} {M1 : hz_M} (hC : hz_Ct l y b nLy rt hc w N (.ref (hz_ad w i) :: as) M (hz_Qi w N r M1)) (hcal : hz_CalV C y b nLy rt n) (hKl : hz_Kl ci C T nf) (hsh : hz_SH[i]? = some (.inl (ci, fs))) (hi : i < N) (hlink : Cond.methodLink own idx y ∈ hz_TB) (hh : hc + 1 ≤ h) (hn : as.length = n) (hst : st = as.reverse ++ .ref (hz_ad w i) :: rest) (hcat : (rest.map fun v => v.category).sum ≤ 8) (hdg : decode cc pc = .ok (.invokevirtual idx, 3))
    (kk : hz_H p l e h z s m args below meth c w N nL Q M1 (pc + 3) ls (.int r :: rest)) : hz_H p l e h z s m args below meth c w N nL Q M pc ls st := by
  intro hzk H locs la hW hS hL
  refine va_calli (va_runV (As := as) (rest := rest) hO.1 hC (hz_wV hO hcal hlink hh) ⟨hz_blind, va_recv hW.1.2.1 hW.1.1 (ci := ci) (q0 := i) hKl.1 (hz_ws_at hsh hi), hz_pre hO hW.1 hS⟩ rfl hn hL.1 hst (lv_room hcat) hdg ⟨hzk.1, hzk.2⟩) hS (fun q _ z => z) (fun q z => z) (fun r1 u t H1 locs1 ht hvm hr hB hz1 hk1 hS1 => ?_)
  subst hr
  refine hz_szW (fun hup => ?_)
  have e1 : H1.size = H.size := by
    have h1 := hW.2.1
    omega
  exact kk hzk H1 locs1 la ⟨hz_back ht hvm hB, by rw [e1]; exact hW.2.1, by rw [e1]; exact hW.2.2⟩ hS1 hL
theorem hz_h_callVv (hO : hz_Ok p s m args meth c w cc nL own ret) {idx n nLy hc i ci nf : Nat} {C : String} {T : u_T} {fs : List (Option Nat)} {y : MethodName} {b : ByteArray} {rt : Option FieldType} {as rest : List Value} {M1 : hz_M} (hC : hz_Ct l y b nLy rt hc w N (.ref (hz_ad w i) :: as) M (hz_Qv w N M1)) (hcal : hz_CalV C y b nLy rt n) (hKl : hz_Kl ci C T nf) (hsh : hz_SH[i]? = some (.inl (ci, fs))) (hi : i < N) (hlink : Cond.methodLink own idx y ∈ hz_TB) (hh : hc + 1 ≤ h) (hn : as.length = n) (hst : st = as.reverse ++ .ref (hz_ad w i) :: rest) (hcat : (rest.map fun v => v.category).sum ≤ 8) (hdg : decode cc pc = .ok (.invokevirtual idx, 3))
    (kk : hz_H p l e h z s m args below meth c w N nL Q M1 (pc + 3) ls rest) : hz_H p l e h z s m args below meth c w N nL Q M pc ls st := by
  intro hzk H locs la hW hS hL
  refine va_callv (va_runV (As := as) (rest := rest) hO.1 hC (hz_wV hO hcal hlink hh) ⟨hz_blind, va_recv hW.1.2.1 hW.1.1 (ci := ci) (q0 := i) hKl.1 (hz_ws_at hsh hi), hz_pre hO hW.1 hS⟩ rfl hn hL.1 hst (lv_room hcat) hdg ⟨hzk.1, hzk.2⟩) hS (fun q _ z => z) (fun q z => z) (fun u t H1 locs1 ht hvm hr hB hz1 hk1 hS1 => ?_)
  refine hz_szW (fun hup => ?_)
  have e1 : H1.size = H.size := by
    have h1 := hW.2.1
    omega
  exact kk hzk H1 locs1 la ⟨hz_back ht hvm hB, by rw [e1]; exact hW.2.1, by rw [e1]; exact hW.2.2⟩ hS1 hL
theorem hz_h_callSi (hO : hz_Ok p s m args meth c w cc nL own ret) {idx n nLy hc : Nat} {C : String} {y : MethodName} {b : ByteArray} {rt : Option FieldType} {as rest : List Value} {r : Int32} {M1 : hz_M} (hC : hz_Ct l y b nLy rt hc w N as M (hz_Qi w N r M1)) (hcal : hz_CalS C y b nLy rt n) (hlink : Cond.methodLink own idx y ∈ hz_TB) (hh : hc + 1 ≤ h) (hn : as.length = n) (hst : st = as.reverse ++ rest) (hcat : (rest.map fun v => v.category).sum ≤ 8) (hdg : decode cc pc = .ok (.invokestatic idx, 3))
    (kk : hz_H p l e h z s m args below meth c w N nL Q M1 (pc + 3) ls (.int r :: rest)) : hz_H p l e h z s m args below meth c w N nL Q M pc ls st := by
  intro hzk H locs la hW hS hL
  refine va_calli (va_runS (As := as) (rest := rest) hO.1 hC (hz_wS hO hcal hlink hh) ⟨hz_blind, hz_pre hO hW.1 hS⟩ rfl hn hL.1 hst (lv_room hcat) hdg ⟨hzk.1, hzk.2⟩) hS (fun q _ z => z) (fun q z => z) (fun r1 u t H1 locs1 ht hvm hr hB hz1 hk1 hS1 => ?_)
  subst hr
  refine hz_szW (fun hup => ?_)
  have e1 : H1.size = H.size := by
    have h1 := hW.2.1
    omega
  exact kk hzk H1 locs1 la ⟨hz_back ht hvm hB, by rw [e1]; exact hW.2.1, by rw [e1]; exact hW.2.2⟩ hS1 hL
theorem hz_h_callSv (hO : hz_Ok p s m args meth c w cc nL own ret) {idx n nLy hc : Nat} {C : String} {y : MethodName} {b : ByteArray} {rt : Option FieldType} {as rest : List Value} {M1 : hz_M} (hC : hz_Ct l y b nLy rt hc w N as M (hz_Qv w N M1)) (hcal : hz_CalS C y b nLy rt n) (hlink : Cond.methodLink own idx y ∈ hz_TB) (hh : hc + 1 ≤ h) (hn : as.length = n) (hst : st = as.reverse ++ rest) (hcat : (rest.map fun v => v.category).sum ≤ 8) (hdg : decode cc pc = .ok (.invokestatic idx, 3))
    (kk : hz_H p l e h z s m args below meth c w N nL Q M1 (pc + 3) ls rest) : hz_H p l e h z s m args below meth c w N nL Q M pc ls st := by
  intro hzk H locs la hW hS hL
  refine va_callv (va_runS (As := as) (rest := rest) hO.1 hC (hz_wS hO hcal hlink hh) ⟨hz_blind, hz_pre hO hW.1 hS⟩ rfl hn hL.1 hst (lv_room hcat) hdg ⟨hzk.1, hzk.2⟩) hS (fun q _ z => z) (fun q z => z) (fun u t H1 locs1 ht hvm hr hB hz1 hk1 hS1 => ?_)
  refine hz_szW (fun hup => ?_)
  have e1 : H1.size = H.size := by
    have h1 := hW.2.1
    omega
  exact kk hzk H1 locs1 la ⟨hz_back ht hvm hB, by rw [e1]; exact hW.2.1, by rw [e1]; exact hW.2.2⟩ hS1 hL
theorem hz_A_blind {as : List Value} : FrameBlind (va_Pc as (fun U => (hz_Wd w N M U U.heap ∧ ∀ i, hz_ad w (N + i) = U.heap.size + i) ∧ hz_X w U U.heap)) := fun a U g mk q => ⟨q.1, ⟨hz_Wd.moved (u := U) (U := U.calling g mk a) (Vm.Alike.refl U.vm) q.2.1.1, q.2.1.2⟩, hz_X_same (u := U) (U := U.calling g mk a) rfl q.2.2⟩
theorem hz_A_pre {as : List Value} {H : Heap} {locs : List Loc} (hO : hz_Ok p s m args meth c w cc nL own ret) (hW : hz_Wd w N M s H) (ha : ∀ i, hz_ad w (N + i) = H.size + i) (hS : va_S (hz_A w) s.heap H locs) : ∀ U : State, U.heap = H → s.WarmedH U.vm → va_Pc as (fun U => (hz_Wd w N M U U.heap ∧ ∀ i, hz_ad w (N + i) = U.heap.size + i) ∧ hz_X w U U.heap) as.toArray U :=
  fun U hU hWm => ⟨rfl, by rw [hU]; exact ⟨hW.moved hWm.alike, ha⟩, by rw [hU]; exact hz_X_warm hWm (hz_X_kept hO.2.2.2.1 hS.2.1)⟩
/-- a bathhouse more -/
theorem hz_h_copy (hO : hz_Ok p s m args meth c w cc nL own ret) {idx b hc mc ms : Nat} {rest : List Value} {ME : hz_M} (hmc : mc = 12) (hC : hz_CtA l yX11_copy cX11_copy 3 (some (.object "HotStepsLaw$Own")) hc mc ms w N [.ref (hz_ad w b)] M (hz_Qo w (N + 12) N ME)) (hB : hz_Own N b) (hB2 : hz_Own (N + 12) N) (hlink : Cond.methodLink own idx yX11_copy ∈ hz_TB) (hh : hc + 1 ≤ h) (hcat : (rest.map fun v => v.category).sum ≤ 8) (hz1 : z.2.1 + mc ≤ z.1.1 ∧ z.2.2 + ms ≤ z.1.2) (hdg : decode cc pc = .ok (.invokevirtual idx, 3))
    (kk : hz_H p l e h (hz_zn z mc ms) s m args below meth c w (N + 12) nL Q ME (pc + 3) ls (.ref (hz_ad w N) :: rest)) : hz_H p l e h z s m args below meth c w N nL Q M pc ls (.ref (hz_ad w b) :: rest) := by
  subst hmc
  intro hzk H locs la hW hS hL
  have hts := hO.1.2.2.2.2
  have cw : CallW (hz_rm h z) s args own "HotStepsLaw$Own" idx yX11_copy cX11_copy 3 (some (.object "HotStepsLaw$Own")) (Cond.code yX11_copy cX11_copy 3 (some (.object "HotStepsLaw$Own")) :: hz_TB) (hz_rm hc ((12, ms), (0, 0))) 12 ms 0 :=
    ⟨callB_of 0 hts (hz_goodC tw_4_36) rfl rfl rfl (hts _ tw_1_16) (hts _ hlink) ⟨by decide, by decide, by decide +kernel⟩ (hz_b_fit hh (Nat.le_of_ble_eq_true rfl)), hts _ tw_4_34, hts _ tw_4_35⟩
  refine va_callr (va_runV (As := []) (rest := rest) hO.1 hC cw ⟨hz_A_blind, va_recv hW.1.2.1 hW.1.1 (ci := 11) (q0 := b) hz_K_11.1 (hz_ws_at hB.1 hB.2.1), hz_A_pre hO hW.1 hW.2.2 hS⟩ rfl rfl hL.1 rfl (lv_room hcat) hdg hz1) hS (fun q _ z => z) (fun q z => z) (fun u ra t H1 locs1 ht hvm hr hB1 hsz hk1 hS1 => ?_)
  obtain ⟨rfl, hWd1⟩ := hB1
  refine hz_szW (fun hup => ?_)
  have hWb := hz_back ht hvm hWd1
  have hlo : hz_ad w (N + 11) < H1.size := vx_lt hWb.1 (hz_ws_at (M := ME) hB2.2.2.2.2.2.2.2.2.2.2.2.2.2.2.2.2.2.2.2.2.2.2.1 (by omega))
  have e1 : H1.size = H.size + 12 := by
    have h1 := hW.2.1
    have h2 := hW.2.2 11
    omega
  refine kk hz1 H1 locs1 la ⟨hWb, ?_, ?_⟩ hS1 hL
  · show H1.size = s.heap.size + (z.2.1 + 12)
    have h1 := hW.2.1
    omega
  · intro i
    have h1 := hW.2.2 (12 + i)
    rw [← Nat.add_assoc] at h1
    rw [h1, e1]
    omega
end HZH
