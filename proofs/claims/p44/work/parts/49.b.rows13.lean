/-! rows for the law's own methods: the script, the dynamic text, nest mates' fields, numbers of two words -/
def hz_dy (w : hz_C) (sn : Nat) (sx : Nat → Int32) : Prop := hz_ns w = 7 ∧ hz_dl w = sn ∧ hz_db w = sx
def hz_cd (sx : Nat → Int32) (x : Int32) : Int32 := ((sx x.toNatClampNeg &&& 255).toUInt32 % 65536).toInt32
theorem hz_dy6 {w : hz_C} {sn : Nat} {sx : Nat → Int32} (h : hz_dy w sn sx) : 6 < hz_ns w := by
  rw [h.1]
  decide
theorem hz_dy_ln {w : hz_C} {sn : Nat} {sx : Nat → Int32} (h : hz_dy w sn sx) : hz_ln w 6 = sn := by
  unfold hz_ln
  rw [if_neg (by decide)]
  exact h.2.1
theorem c_dyl (l : Launch) (w : hz_C) {N : Nat} {sn : Nat} {sx : Nat → Int32} (h : hz_dy w sn sx) {M : hz_M} : hz_Ct l yJ0_length_8abf5 cJ0_length_8abf5 1 (some .int) 1 w N [.ref (hz_sa w 6)] M (hz_Qi w N (nI sn) M) := by
  have e : hz_slw w 6 = nI sn := by
    unfold hz_slw
    rw [hz_dy_ln h]
  rw [← e]
  exact cw_J0_length_8abf5 l w (hz_dy6 h)
theorem c_dyc (l : Launch) (w : hz_C) {N : Nat} {sn : Nat} {sx : Nat → Int32} (h : hz_dy w sn sx) {x : Int32} (hx : hz_in x sn = true) {M : hz_M} : hz_Ct l yJ0_charAt_5068e cJ0_charAt_5068e 2 (some .char) 3 w N [.ref (hz_sa w 6), .int x] M (hz_Qi w N (hz_cd sx x) M) := by
  have e : hz_ccw w 6 x = hz_cd sx x := by
    unfold hz_ccw hz_by hz_cd
    rw [if_neg (by decide), h.2.2]
  rw [← e]
  exact cw_J0_charAt_5068e l w (hz_dy6 h) (by rw [hz_dy_ln h]; exact hx)
section HZ13
variable {p : Program} {l : Launch} {e : Env} {h : Nat} {z : hz_Z} {s : State} {m : MethodId} {args : Array Value} {below : List Frame} {meth : Method} {c : Code} {w : hz_C} {N nL : Nat} {Q : State → Prop} {M : hz_M} {pc : Nat} {ls : List (Nat × Value)} {st : List Value} {cc : ByteArray} {own : String} {ret : Option FieldType}
theorem hz_scT {xs : Nat → Int32} {L : Nat} (hO : hz_Ok p s m args meth c w cc nL own ret) (hsc : hz_scx w = xs ∧ hz_scl w = L) : va_T .int (hz_scb w) L (fun j => .int (xs j)) (hz_A w) s s.heap := by
  have h1 := hO.2.2.2.1.2.2.2.2.2.2.2.2.2.2.2.2.2.2.2.1
  rw [hsc.1, hsc.2] at h1
  exact h1
theorem hz_getIN (hO : hz_Ok p s m args meth c w cc nL own ret) {ci n i k idx : Nat} {C ref host : String} {T : u_T} {fs : List (Option Nat)} (hKl : hz_Kl ci C T n) (hsh : hz_SH[i]? = some (.inl (ci, fs))) (hi : i < N) (hf : fs[k]? = some none) (hk : k < n) (hq : (own, idx, ref, (T k).2.1, (T k).2.2.1, host) ∈ hz_nestF) (href : (T k).1 = ref) (hdg : decode cc pc = .ok (.getfield idx, 3))
    (kk : hz_G p l e h z s m args below meth c w N nL Q M (pc + 3) ls (.int (M i k) :: st)) : hz_G p l e h z s m args below meth c w N nL Q M pc ls (.ref (hz_ad w i) :: st) := by
  intro hzk H locs la hW hS hL
  refine va_getN (D := hz_D w) (ci := ci) (v := .int (M i k)) (C := C) (T := T) (N := n) hO.1.1 hO.1.2.1 hO.1.2.2.2.2 hKl.2 hO.1.2.2.2.1 hW.2.1 hW.1 i (hz_ws_at hsh hi) hKl.1 k hk (va_Nw.use rfl (hO.2.2.2.1.2.2.2.2.2.2.2.2.2.2.2.2.2.1 _ hq)) (fun x hx => href ▸ hx) ?_ hdg (kk hzk H locs la hW hS hL)
  rw [List.getElem?_mapIdx, hf]
  rfl
theorem hz_getRN (hO : hz_Ok p s m args meth c w cc nL own ret) {ci n i k idx : Nat} (j : Nat) {C ref host : String} {T : u_T} {fs : List (Option Nat)} (hKl : hz_Kl ci C T n) (hsh : hz_SH[i]? = some (.inl (ci, fs))) (hi : i < N) (hf : fs[k]? = some (some j)) (hk : k < n) (hq : (own, idx, ref, (T k).2.1, (T k).2.2.1, host) ∈ hz_nestF) (href : (T k).1 = ref) (hdg : decode cc pc = .ok (.getfield idx, 3))
    (kk : hz_G p l e h z s m args below meth c w N nL Q M (pc + 3) ls (.ref (hz_ad w j) :: st)) : hz_G p l e h z s m args below meth c w N nL Q M pc ls (.ref (hz_ad w i) :: st) := by
  intro hzk H locs la hW hS hL
  refine va_getN (D := hz_D w) (ci := ci) (v := .ref (hz_ad w j)) (C := C) (T := T) (N := n) hO.1.1 hO.1.2.1 hO.1.2.2.2.2 hKl.2 hO.1.2.2.2.1 hW.2.1 hW.1 i (hz_ws_at hsh hi) hKl.1 k hk (va_Nw.use rfl (hO.2.2.2.1.2.2.2.2.2.2.2.2.2.2.2.2.2.1 _ hq)) (fun x hx => href ▸ hx) ?_ hdg (kk hzk H locs la hW hS hL)
  rw [List.getElem?_mapIdx, hf]
  rfl
theorem hz_putIN (hO : hz_Ok p s m args meth c w cc nL own ret) {ci n i k idx : Nat} {C ref host : String} {T : u_T} {fs : List (Option Nat)} {ty0 : Nat → FieldType} {v : Int32} (hKl : hz_Kl ci C T n) (hty : ∀ k, k < n → parseFieldDescriptor (T k).2.2.1 = some (ty0 k)) (hnm : ∀ a, a < n → ∀ b, b < n → a ≠ b → (T a).2.1 ≠ (T b).2.1) (hsh : hz_SH[i]? = some (.inl (ci, fs))) (hi : i < N) (hf : fs[k]? = some none) (hk : k < n) (hq : (own, idx, ref, (T k).2.1, (T k).2.2.1, host) ∈ hz_nestF) (href : (T k).1 = ref) (hfin : (T k).2.2.2 = false) {ty : FieldType} (hd : ty0 k = ty) (hn : narrow ty (.int v) = .int v) (hft : fits ty (.int v) = true) (hdg : decode cc pc = .ok (.putfield idx, 3))
    (kk : hz_G p l e h z s m args below meth c w N nL Q (hz_set M i k v) (pc + 3) ls st) : hz_G p l e h z s m args below meth c w N nL Q M pc ls (.int v :: .ref (hz_ad w i) :: st) := by
  intro hzk H locs la hW hS hL
  have hkl : k < (fs.mapIdx (fun k f => hz_fv w (M i) k f)).length := by
    rw [List.length_mapIdx]
    exact (List.getElem?_eq_some_iff.mp hf).1
  have e : hz_ws w N (hz_set M i k v) = (hz_ws w N M).set i (hz_ad w i, .inr (ci, (fs.mapIdx (fun k f => hz_fv w (M i) k f)).set k (.int v))) := by
    rw [hz_ws_set (M := M) hsh hz_set_off, hz_set_row, hz_cell_put hf]
  refine va_putN (D := hz_D w) (ci := ci) (v := .int v) (ty := ty) (C := C) (T := T) (N := n) hO.1.1 hO.1.2.1 hO.1.2.2.2.2 hKl.2 ty0 hty hnm hO.1.2.2.2.1 hW.2.1 hW.1 hW.2.2.1 hS i (hz_ws_at hsh hi) hKl.1 k hk (va_Nw.use rfl (hO.2.2.2.1.2.2.2.2.2.2.2.2.2.2.2.2.2.1 _ hq)) (fun x hx => href ▸ hx) hfin (by rw [hty k hk, hd]) hn hft hkl hdg (fun H1 locs1 hP hD hS1 => ?_)
  rw [← e] at hP hD
  exact kk hzk H1 locs1 la ⟨hP, hW.2.1, hD, hO.2.2.2.2.le hS1.1⟩ hS1 hL
theorem hz_ixor (hO : hz_Ok p s m args meth c w cc nL own ret) {x y : Int32} (hdg : decode cc pc = .ok (.ixor, 1)) (kk : hz_G p l e h z s m args below meth c w N nL Q M (pc + 1) ls (.int (x ^^^ y) :: st)) : hz_G p l e h z s m args below meth c w N nL Q M pc ls (.int y :: .int x :: st) :=
  fun hzk H locs la hW hS hL => lv_ixor hO.1.1 hO.1.2.1 hdg (kk hzk H locs la hW hS hL)
theorem hz_dcmp (hO : hz_Ok p s m args meth c w cc nL own ret) {x y : UInt64} {op : CmpOp} (hdg : decode cc pc = .ok (.dcmp op, 1)) (kk : hz_G p l e h z s m args below meth c w N nL Q M (pc + 1) ls (.int (Op.cmpValue (FP.dcmp x y) op) :: st)) : hz_G p l e h z s m args below meth c w N nL Q M pc ls (.double y :: .double x :: st) :=
  fun hzk H locs la hW hS hL => lv_dcmp hO.1.1 hO.1.2.1 hdg (kk hzk H locs la hW hS hL)
theorem hz_ldcI (hO : hz_Ok p s m args meth c w cc nL own ret) {idx : Nat} {v : Int32} (hq : Cond.constant own idx v ∈ hz_TB) (hdg : decode cc pc = .ok (.ldc idx, 2)) (kk : hz_G p l e h z s m args below meth c w N nL Q M (pc + 2) ls (.int v :: st)) : hz_G p l e h z s m args below meth c w N nL Q M pc ls st :=
  fun hzk H locs la hW hS hL => lv_ldc hO.1.1 hO.1.2.1 hO.1.2.2.2.1 (hO.1.2.2.2.2 _ hq) hdg (kk hzk H locs la hW hS hL)
theorem hz_ldcF (hO : hz_Ok p s m args meth c w cc nL own ret) {idx : Nat} {v : UInt32} (hq : Cond.constantFloat own idx v ∈ hz_TB) (hdg : decode cc pc = .ok (.ldc idx, 2)) (kk : hz_G p l e h z s m args below meth c w N nL Q M (pc + 2) ls (.float v :: st)) : hz_G p l e h z s m args below meth c w N nL Q M pc ls st :=
  fun hzk H locs la hW hS hL => lv_ldcf hO.1.1 hO.1.2.1 hO.1.2.2.2.1 (hO.1.2.2.2.2 _ hq) hdg (kk hzk H locs la hW hS hL)
theorem hz_callVd (hO : hz_Ok p s m args meth c w cc nL own ret) {idx n nLy hc i ci nf : Nat} {C : String} {T : u_T} {fs : List (Option Nat)} {y : MethodName} {b : ByteArray} {rt : Option FieldType} {as rest : List Value} {r : Int32} {M1 : hz_M} (hC : hz_Ct l y b nLy rt hc w N (.ref (hz_ad w i) :: as) M (hz_Qd w N r M1)) (hcal : hz_CalV C y b nLy rt n) (hKl : hz_Kl ci C T nf) (hsh : hz_SH[i]? = some (.inl (ci, fs))) (hi : i < N) (hlink : Cond.methodLink own idx y ∈ hz_TB) (hh : hc + 1 ≤ h) (hn : as.length = n) (hst : st = as.reverse ++ .ref (hz_ad w i) :: rest) (hcat : (rest.map fun v => v.category).sum ≤ 8) (hdg : decode cc pc = .ok (.invokevirtual idx, 3))
    (kk : hz_G p l e h z s m args below meth c w N nL Q M1 (pc + 3) ls (.double (hz_dd r) :: rest)) : hz_G p l e h z s m args below meth c w N nL Q M pc ls st := by
  intro hzk H locs la hW hS hL
  refine va_calld (va_runV (As := as) (rest := rest) hO.1 hC (hz_wV hO hcal hlink hh) ⟨hz_blind, va_recv hW.2.1 hW.1 (ci := ci) (q0 := i) hKl.1 (hz_ws_at hsh hi), hz_pre hO hW hS⟩ rfl hn hL.1 hst (lv_room hcat) hdg ⟨hzk.1, hzk.2⟩) hS (fun q _ z => z) (fun q z => z) (fun r1 u t H1 locs1 ht hvm hr hB hz1 hk1 hS1 => ?_)
  subst hr
  exact kk hzk H1 locs1 la (hz_back ht hvm hB) hS1 hL
end HZ13
