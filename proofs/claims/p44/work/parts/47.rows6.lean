/-! floats and doubles -/
def hz_n32 (b : UInt32) : Bool := decide (b &&& 0x7fffffff ≤ 0x7f800000)
def hz_n64 (b : UInt64) : Bool := decide (b &&& 0x7fffffffffffffff ≤ 0x7ff0000000000000)
theorem hz_n32_e {b : UInt32} (h : hz_n32 b = true) : vf_n32 b := by
  unfold hz_n32 at h
  unfold vf_n32
  exact of_decide_eq_true h
theorem hz_n64_e {b : UInt64} (h : hz_n64 b = true) : vf_n64 b := by
  unfold hz_n64 at h
  unfold vf_n64
  exact of_decide_eq_true h
def hz_dd (x : Int32) : UInt64 := if x = 0 then FP.dconst0 else FP.ddiv (FP.i2d (x / 32)) (FP.i2d (x &&& 31))
def hz_Qd (w : hz_C) (N : Nat) (r : Int32) (M1 : hz_M) : Array Value → State → Outcome → State → Prop := va_Qd (fun v (_ : Unit) => v = hz_dd r) (fun _ t => hz_Wd w N M1 t t.heap) (hz_A w)
def hz_ltF (v : UInt32) (f : UInt32 → hz_O) : hz_O := f v
theorem hz_ltF_e {v : UInt32} {f : UInt32 → hz_O} {x : Int32 × hz_M} (h : hz_ltF v f = some x) : ∃ y, y = v ∧ f y = some x := ⟨v, rfl, h⟩
section HZ6
variable {p : Program} {l : Launch} {e : Env} {h : Nat} {z : hz_Z} {s : State} {m : MethodId} {args : Array Value} {below : List Frame} {meth : Method} {c : Code} {w : hz_C} {N nL : Nat} {Q : State → Prop} {M : hz_M} {pc : Nat} {ls : List (Nat × Value)} {st : List Value} {cc : ByteArray} {own : String} {ret : Option FieldType}
theorem hz_nameF {x y : UInt32} (hx : y = x) (kk : hz_G p l e h z s m args below meth c w N nL Q M pc ls (.float y :: st)) : hz_G p l e h z s m args below meth c w N nL Q M pc ls (.float x :: st) := hx ▸ kk
theorem hz_fconst0 (hO : hz_Ok p s m args meth c w cc nL own ret) (hdg : decode cc pc = .ok (.fconst 0, 1)) (kk : hz_G p l e h z s m args below meth c w N nL Q M (pc + 1) ls (.float FP.fconst0 :: st)) : hz_G p l e h z s m args below meth c w N nL Q M pc ls (st) :=
  fun hzk H locs la hW hS hL => lv_fconst0 hO.1.1 hO.1.2.1 hdg (kk hzk H locs la hW hS hL)
theorem hz_fconst1 (hO : hz_Ok p s m args meth c w cc nL own ret) (hdg : decode cc pc = .ok (.fconst 1, 1)) (kk : hz_G p l e h z s m args below meth c w N nL Q M (pc + 1) ls (.float FP.fconst1 :: st)) : hz_G p l e h z s m args below meth c w N nL Q M pc ls (st) :=
  fun hzk H locs la hW hS hL => lv_fconst1 hO.1.1 hO.1.2.1 hdg (kk hzk H locs la hW hS hL)
theorem hz_fconst2 (hO : hz_Ok p s m args meth c w cc nL own ret) (hdg : decode cc pc = .ok (.fconst 2, 1)) (kk : hz_G p l e h z s m args below meth c w N nL Q M (pc + 1) ls (.float FP.fconst2 :: st)) : hz_G p l e h z s m args below meth c w N nL Q M pc ls (st) :=
  fun hzk H locs la hW hS hL => lv_fconst2 hO.1.1 hO.1.2.1 hdg (kk hzk H locs la hW hS hL)
theorem hz_dconst0 (hO : hz_Ok p s m args meth c w cc nL own ret) (hdg : decode cc pc = .ok (.dconst 0, 1)) (kk : hz_G p l e h z s m args below meth c w N nL Q M (pc + 1) ls (.double FP.dconst0 :: st)) : hz_G p l e h z s m args below meth c w N nL Q M pc ls (st) :=
  fun hzk H locs la hW hS hL => lv_dconst0 hO.1.1 hO.1.2.1 hdg (kk hzk H locs la hW hS hL)
theorem hz_fsub (hO : hz_Ok p s m args meth c w cc nL own ret) {x y : UInt32} (hdg : decode cc pc = .ok (.fsub, 1)) (hn : hz_n32 (FP.fsub x y) = true) (kk : hz_G p l e h z s m args below meth c w N nL Q M (pc + 1) ls (.float (FP.fsub x y) :: st)) : hz_G p l e h z s m args below meth c w N nL Q M pc ls (.float y :: .float x :: st) :=
  fun hzk H locs la hW hS hL => lv_fsub hO.1.1 hO.1.2.1 hdg (hz_n32_e hn) (kk hzk H locs la hW hS hL)
theorem hz_fmul (hO : hz_Ok p s m args meth c w cc nL own ret) {x y : UInt32} (hdg : decode cc pc = .ok (.fmul, 1)) (hn : hz_n32 (FP.fmul x y) = true) (kk : hz_G p l e h z s m args below meth c w N nL Q M (pc + 1) ls (.float (FP.fmul x y) :: st)) : hz_G p l e h z s m args below meth c w N nL Q M pc ls (.float y :: .float x :: st) :=
  fun hzk H locs la hW hS hL => lv_fmul hO.1.1 hO.1.2.1 hdg (hz_n32_e hn) (kk hzk H locs la hW hS hL)
theorem hz_fdiv (hO : hz_Ok p s m args meth c w cc nL own ret) {x y : UInt32} (hdg : decode cc pc = .ok (.fdiv, 1)) (hn : hz_n32 (FP.fdiv x y) = true) (kk : hz_G p l e h z s m args below meth c w N nL Q M (pc + 1) ls (.float (FP.fdiv x y) :: st)) : hz_G p l e h z s m args below meth c w N nL Q M pc ls (.float y :: .float x :: st) :=
  fun hzk H locs la hW hS hL => lv_fdiv hO.1.1 hO.1.2.1 hdg (hz_n32_e hn) (kk hzk H locs la hW hS hL)
theorem hz_ddiv (hO : hz_Ok p s m args meth c w cc nL own ret) {x y : UInt64} (hdg : decode cc pc = .ok (.ddiv, 1)) (hn : hz_n64 (FP.ddiv x y) = true) (kk : hz_G p l e h z s m args below meth c w N nL Q M (pc + 1) ls (.double (FP.ddiv x y) :: st)) : hz_G p l e h z s m args below meth c w N nL Q M pc ls (.double y :: .double x :: st) :=
  fun hzk H locs la hW hS hL => lv_ddiv hO.1.1 hO.1.2.1 hdg (hz_n64_e hn) (kk hzk H locs la hW hS hL)
theorem hz_fcmp (hO : hz_Ok p s m args meth c w cc nL own ret) {x y : UInt32} {op : CmpOp} (hdg : decode cc pc = .ok (.fcmp op, 1)) (kk : hz_G p l e h z s m args below meth c w N nL Q M (pc + 1) ls (.int (Op.cmpValue (FP.fcmp x y) op) :: st)) : hz_G p l e h z s m args below meth c w N nL Q M pc ls (.float y :: .float x :: st) :=
  fun hzk H locs la hW hS hL => lv_fcmp hO.1.1 hO.1.2.1 hdg (kk hzk H locs la hW hS hL)
theorem hz_i2f (hO : hz_Ok p s m args meth c w cc nL own ret) {x : Int32} (hdg : decode cc pc = .ok (.i2f, 1)) (kk : hz_G p l e h z s m args below meth c w N nL Q M (pc + 1) ls (.float (FP.i2f x) :: st)) : hz_G p l e h z s m args below meth c w N nL Q M pc ls (.int x :: st) :=
  fun hzk H locs la hW hS hL => lv_i2f hO.1.1 hO.1.2.1 hdg (kk hzk H locs la hW hS hL)
theorem hz_f2i (hO : hz_Ok p s m args meth c w cc nL own ret) {x : UInt32} (hdg : decode cc pc = .ok (.f2i, 1)) (kk : hz_G p l e h z s m args below meth c w N nL Q M (pc + 1) ls (.int (FP.f2i x) :: st)) : hz_G p l e h z s m args below meth c w N nL Q M pc ls (.float x :: st) :=
  fun hzk H locs la hW hS hL => lv_f2i hO.1.1 hO.1.2.1 hdg (kk hzk H locs la hW hS hL)
theorem hz_i2d (hO : hz_Ok p s m args meth c w cc nL own ret) {x : Int32} (hdg : decode cc pc = .ok (.i2d, 1)) (kk : hz_G p l e h z s m args below meth c w N nL Q M (pc + 1) ls (.double (FP.i2d x) :: st)) : hz_G p l e h z s m args below meth c w N nL Q M pc ls (.int x :: st) :=
  fun hzk H locs la hW hS hL => lv_i2d hO.1.1 hO.1.2.1 hdg (kk hzk H locs la hW hS hL)
theorem hz_fload_n (hO : hz_Ok p s m args meth c w cc nL own ret) {k : Fin 4} {i : Nat} {x : UInt32} (hdg : decode cc pc = .ok (.fload_n k, 1)) (hi : (k : Nat) = i) (j : Nat) (hj : ls[j]? = some (i, .float x)) (kk : hz_G p l e h z s m args below meth c w N nL Q M (pc + 1) ls (.float x :: st)) : hz_G p l e h z s m args below meth c w N nL Q M pc ls st :=
  fun hzk H locs la hW hS hL => lv_fload_n hO.1.1 hO.1.2.1 hdg hi (lv_at hL j hj) (kk hzk H locs la hW hS hL)
theorem hz_fstore_n (hO : hz_Ok p s m args meth c w cc nL own ret) {k : Fin 4} {i : Nat} {x : UInt32} {ls1 : List (Nat × Value)} (hdg : decode cc pc = .ok (.fstore_n k, 1)) (hi : (k : Nat) = i) (hn : i < nL) (hl : (i, Value.float x) :: ls.filter (fun q => !(q.1 == i) && !(q.1 + 1 == i && q.2.category == 2)) = ls1) (kk : hz_G p l e h z s m args below meth c w N nL Q M (pc + 1) ls1 st) : hz_G p l e h z s m args below meth c w N nL Q M pc ls (.float x :: st) :=
  fun hzk H locs la hW hS hL => lv_fstore_n hO.1.1 hO.1.2.1 hdg hi hL hn hl (fun la1 hL1 => kk hzk H locs la1 hW hS hL1)
theorem hz_ldcwF (hO : hz_Ok p s m args meth c w cc nL own ret) {idx : Nat} {v : UInt32} (hq : Cond.constantFloat own idx v ∈ hz_TB) (hdg : decode cc pc = .ok (.ldc_w idx, 3)) (kk : hz_G p l e h z s m args below meth c w N nL Q M (pc + 3) ls (.float v :: st)) : hz_G p l e h z s m args below meth c w N nL Q M pc ls st := by
  intro hzk H locs la hW hS hL T hT X
  obtain ⟨t, a, b⟩ := kk hzk H locs la hW hS hL T hT X
  refine ⟨t, ?_, b⟩
  obtain ⟨k, cf, hk, hcf, hcp⟩ := Cond.constantFloat_spec hO.1.2.2.2.1 (hO.1.2.2.2.2 _ hq)
  obtain ⟨k', hk', he⟩ := X.warmed.alike.2.2 _ _ hk
  have hb := hO.1.2.1
  have hexec := hO.1.1
  subst hb
  jvm_step X.here [hexec, hdg, ldc_w.wp_float (s := T) (f := F0 m pc la st) X.here.top hk' (by rw [he]; exact hcf) hcp]
  exact a
theorem hz_dret (hO : hz_Ok p s m args meth c w cc nL own (some .double)) {v : UInt64} {r : Int32} (hv : v = hz_dd r) (hdg : decode cc pc = .ok (.dreturn, 1)) : hz_G p l e h z s m args below meth c w N nL (MQ below (hz_Qd w N r M) args s z.2.1 z.2.2 (hz_A w)) M pc ls [.double v] :=
  fun hzk H locs la hW hS hL => W.dret (v := v) hO.1.1 hO.1.2.1 hO.2.1 (fun t ht hW9 => ⟨⟨v, (), rfl, hv, hz_end ht hW hW9.alike⟩, hS.F ht⟩) hS.2.2 hdg hO.2.2.1
theorem hz_f2raw (hO : hz_Ok p s m args meth c w cc nL own ret) {idx : Nat} {b : UInt32} (hlink : Cond.methodLink own idx ⟨"java/lang/Float", "floatToRawIntBits", "(F)I"⟩ ∈ hz_TB) (hh : 1 ≤ h) (hcat : (st.map fun v => v.category).sum + 15 ≤ 60) (hdg : decode cc pc = .ok (.invokestatic idx, 3)) (kk : hz_G p l e h z s m args below meth c w N nL Q M (pc + 3) ls (.int b.toInt32 :: st)) : hz_G p l e h z s m args below meth c w N nL Q M pc ls (.float b :: st) :=
  fun hzk H locs la hW hS hL => vn_f2i hO.1.1 hO.1.2.1 (hO.1.2.2.1.trans hL.1.symm) hO.1.2.2.2.1 (hO.1.2.2.2.2 _ hlink) (hO.1.2.2.2.2 _ tw_5_78) (hO.1.2.2.2.2 _ tw_5_77) (hO.1.2.2.2.2 _ tw_1_27) hh (Nat.le_trans hcat (by show 60 ≤ 60 * h; omega)) hdg (kk hzk H locs la hW hS hL)
/-- a contract of a method whose class has hooked members, but not this one -/
theorem hz_ofWF {y : MethodName} {as : List Value} {Qc : Array Value → State → Outcome → State → Prop} {C : String} (hy : plainFor y = true) (hC : y.cls = C) (hlen : (lg_sl as).length ≤ nL) (hcode : Cond.code y cc nL ret ∈ hz_TB)
    (body : ∀ (p : Program) (e : Env) (s : State) (m : MethodId) (args : Array Value) (below : List Frame) (meth : Method) (c : Code), hz_Ok p s m args meth c w cc nL C ret → hz_G p l e h hz_z0 s m args below meth c w N nL (MQ below Qc args s 0 0 (hz_A w)) M 0 (lv_args 0 as) []) : hz_Ct l y cc nL ret h w N as M Qc := by
  unfold hz_Ct Met
  refine MetFree.of_bodySF (code := cc) (maxLocals := nL) (ret := ret) hy ?_ ?_
  · intro args s m h hn
    obtain ⟨meth, c, h1, h2, h3, h4, h5, h6, -, -⟩ := Cond.code_spec hn (atoms_spec (ws := Cond.code y cc nL ret :: hz_TB) h _ List.mem_cons_self)
    exact ⟨meth, c, h1, h2, h3, h4, h5, h6⟩
  · intro p e s m args below meth c s₁ B hml hv _
    have hh0 : s₁.heap = s.heap := by rw [B.state]; rfl
    obtain ⟨rfl, hWd, hX⟩ := hv
    have hts0 := atoms_spec (ws := Cond.code y cc nL ret :: hz_TB) B.pre
    have hown : s.vm.findClass C = some m.cls := hC ▸ findClass_of_methodNamed B.named
    have hl := lv_entry as (n := nL) hlen
    have key := body p e s m as.toArray below meth c ⟨⟨B.exec, B.bytes, hml, hown, fun q hq => hts0 q (List.mem_cons_of_mem _ hq)⟩, B.returns, B.notSynchronized, hX, hWd.2.2.2⟩ ⟨Nat.le_refl _, Nat.le_refl _⟩ s.heap [] _ hWd va_S.rf hl
    rw [← lg_entry_eq] at key
    obtain ⟨t, a1, o, b1, b2, b3⟩ := key s₁ hh0 (Stand.of_body B)
    exact ⟨t, o, a1, b1, b2, ⟨b3.1, b3.2⟩⟩
end HZ6
theorem hz_cal_isNaN : hz_CalS "java/lang/Float" yJxf58ca_isNaN_12338 cJxf58ca_isNaN_12338 1 (some .boolean) 1 := ⟨⟨tw_5_75, tw_1_27, ⟨rfl, by decide, by decide, by decide +kernel⟩, Nat.le_of_ble_eq_true rfl⟩, tw_5_74⟩
theorem hz_cal_f2ib : hz_CalS "java/lang/Float" yJxf58ca_floatToIntBits_5c35a cJxf58ca_floatToIntBits_5c35a 1 (some .int) 1 := ⟨⟨tw_5_72, tw_1_27, ⟨rfl, by decide, by decide, by decide +kernel⟩, Nat.le_of_ble_eq_true rfl⟩, tw_5_71⟩
set_option maxRecDepth 100000 in
theorem c_isNaN (l : Launch) (w : hz_C) {N : Nat} {b : UInt32} (hb : Op.cmpValue (FP.fcmp b b) .l = 0) {M : hz_M} : hz_Ct l yJxf58ca_isNaN_12338 cJxf58ca_isNaN_12338 1 (some .boolean) 0 w N [.float b] M (hz_Qi w N 0 M) := by
  refine hz_ofWF (by decide +kernel) rfl (Nat.le_of_ble_eq_true rfl) tw_5_75 ?_
  intro p e s m args below meth c hO
  show hz_G p l e 0 hz_z0 s m args below meth c w N 1 _ M 0 [(0, .float b)] []
  refine hz_fload_n hO dJxf58ca_isNaN_12338_0 rfl 0 rfl ?_
  refine hz_fload_n hO dJxf58ca_isNaN_12338_1 rfl 0 rfl ?_
  refine hz_fcmp hO dJxf58ca_isNaN_12338_2 ?_
  refine hz_if_eq (tgt := 10) hO dJxf58ca_isNaN_12338_3 (by decide) (fun hc => ?_) (fun hc => absurd hb hc)
  refine hz_iconst (v := (0 : Int32)) hO dJxf58ca_isNaN_12338_10 (by decide) ?_
  exact hz_nret hO rfl dJxf58ca_isNaN_12338_11
set_option maxRecDepth 100000 in
theorem c_f2ib (l : Launch) (w : hz_C) {N : Nat} {b : UInt32} (hb : (Op.cmpValue (FP.fcmp b b) .l == 0) = true) {M : hz_M} : hz_Ct l yJxf58ca_floatToIntBits_5c35a cJxf58ca_floatToIntBits_5c35a 1 (some .int) 1 w N [.float b] M (hz_Qi w N b.toInt32 M) := by
  refine hz_ofWF (by decide +kernel) rfl (Nat.le_of_ble_eq_true rfl) tw_5_72 ?_
  intro p e s m args below meth c hO
  show hz_G p l e 1 hz_z0 s m args below meth c w N 1 _ M 0 [(0, .float b)] []
  refine hz_fload_n hO dJxf58ca_floatToIntBits_5c35a_0 rfl 0 rfl ?_
  refine hz_callSi (as := [.float b]) (rest := []) hO (c_isNaN l w (by simpa using hb)) hz_cal_isNaN tw_5_73 (Nat.le_of_ble_eq_true rfl) rfl rfl (Nat.le_of_ble_eq_true rfl) dJxf58ca_floatToIntBits_5c35a_1 ?_
  refine hz_if_ne (tgt := 12) hO dJxf58ca_floatToIntBits_5c35a_4 (by decide) (fun hc => absurd rfl hc) (fun hc => ?_)
  refine hz_fload_n hO dJxf58ca_floatToIntBits_5c35a_7 rfl 0 rfl ?_
  refine hz_f2raw hO tw_5_76 (Nat.le_of_ble_eq_true rfl) (Nat.le_of_ble_eq_true rfl) dJxf58ca_floatToIntBits_5c35a_8 ?_
  exact hz_iret hO dJxf58ca_floatToIntBits_5c35a_11
