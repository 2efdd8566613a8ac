theorem tw_1_24 : (Jvm.Cond.initialized "java/lang/IllegalArgumentException") ∈ hz_TB := hz_tb (hz_t1 _ (List.mem_of_getElem? (i := 24) rfl)) rfl
theorem tw_1_27 : (Jvm.Cond.initialized "java/util/NoSuchElementException") ∈ hz_TB := hz_tb (hz_t1 _ (List.mem_of_getElem? (i := 27) rfl)) rfl
theorem tw_5_37 : (Jvm.Cond.classLink "HotSteps" (198 : Nat) "java/lang/IllegalArgumentException") ∈ hz_TB := hz_tb (hz_t5 _ (List.mem_of_getElem? (i := 37) rfl)) rfl
theorem tw_6_130 : (Jvm.Cond.classLink "HotSteps" (423 : Nat) "java/util/NoSuchElementException") ∈ hz_TB := hz_tb (hz_t6 _ (List.mem_of_getElem? (i := 130) rfl)) rfl
/-! throwing: launches without stack traces -/
def hz_xn (t : Int32) : String := if t = 1 then "java/lang/IllegalArgumentException" else "java/util/NoSuchElementException"
def hz_XC (w : hz_C) (N : Nat) (r : Int32) (M1 : hz_M) : String → State → State → Prop := vx_X (fun (_ : Unit) => True) (fun E _ t => E = hz_xn r ∧ hz_Wd w N M1 t t.heap) (hz_A w)
def hz_nQ (w : hz_C) : Array Value → State → Outcome → State → Prop := va_Qv (fun (_ : Unit) => False) (fun _ _ => True) (hz_A w)
def hz_Cx (l : Launch) (y : MethodName) (b : ByteArray) (nL : Nat) (ret : Option FieldType) (h : Nat) (w : hz_C) (N : Nat) (as : List Value) (M : hz_M) (r : Int32) (M1 : hz_M) : Prop := vx_Met l y (Cond.code y b nL ret :: hz_TB) (hz_rm h hz_z1) (hz_Pre w N as M) (hz_nQ w) (hz_XC w N r M1) 1 6 (hz_A w)
def hz_nx (c : Code) : Prop := ∀ x ∈ c.exceptionTable.toList, False
def hz_xt (o x : hz_O) (f : Int32 → hz_M → hz_O) : hz_O := match o with
  | some q => f q.1 q.2
  | none => x
theorem hz_xt_e {o x : hz_O} {f : Int32 → hz_M → hz_O} {v : Int32 × hz_M} (h : hz_xt o x f = some v) : (∃ (r : Int32) (M1 : hz_M), o = some (r, M1) ∧ f r M1 = some v) ∨ x = some v := by
  cases o with
  | none => exact Or.inr h
  | some q => exact Or.inl ⟨q.1, q.2, rfl, h⟩
theorem hz_Wd.grow {w : hz_C} {N : Nat} {M : hz_M} {U : State} {H H1 : Heap} (h : hz_Wd w N M U H) (hz : H.size ≤ H1.size) (hq : ∀ q : Nat, q < H.size → H1[q]? = H[q]?) : hz_Wd w N M U H1 :=
  ⟨h.1.kept (fun k q hk => hq _ (vx_lt h.1 hk)), h.2.1, h.2.2.1, Nat.le_trans h.2.2.2 hz⟩
def hz_AT (own : String) (ic : Nat) (cls : String) (names : List String) : Prop := ∀ q ∈ vx_atS own ic cls names, q ∈ hz_TB ∨ (∃ x ∈ hz_dcl, q = .declares x) ∨ (∃ k ∈ hz_cst, q = .castable k k)
def hz_exs : List String := ["java/lang/RuntimeException", "java/lang/Exception"]
theorem hz_AT_of {own cls : String} {ic : Nat} (ps : List Nat) (h1 : vx_atS own ic cls hz_exs = ps.filterMap (fun i => lw_tbl[i]?)) (h2 : (vx_atS own ic cls hz_exs).filter (fun q => !goodWord q) = hz_dcl.map Cond.declares ++ [Cond.castable cls cls]) (h3 : cls ∈ hz_cst) : hz_AT own ic cls hz_exs := by
  intro q hq
  by_cases g : goodWord q = true
  · refine Or.inl (hz_tb ?_ g)
    rw [h1] at hq
    obtain ⟨i, -, hi⟩ := List.mem_filterMap.mp hq
    exact List.mem_of_getElem? hi
  · have hf : q ∈ (vx_atS own ic cls hz_exs).filter (fun q => !goodWord q) := List.mem_filter.mpr ⟨hq, by simpa using g⟩
    rw [h2] at hf
    rcases List.mem_append.mp hf with hf | hf
    · obtain ⟨x, hx, rfl⟩ := List.mem_map.mp hf
      exact Or.inr (Or.inl ⟨x, hx, rfl⟩)
    · rcases List.mem_singleton.mp hf with rfl
      exact Or.inr (Or.inr ⟨cls, h3, rfl⟩)
theorem hz_AT_202 : hz_AT "HotSteps" 202 "java/lang/IllegalArgumentException" hz_exs := hz_AT_of [145, 1143, 1152, 1155, 1158, 1160, 1144, 1145, 158, 159, 1146, 1151, 1156, 1176, 1133, 1177, 1135, 1178, 1137, 1147, 1149, 1139, 1172, 1173, 1175, 1139, 1163, 1164, 1165, 1166, 1125, 1166, 1167, 1168, 1169, 1127, 1169, 1170, 1171, 1172, 1129, 1162, 1122, 1123, 1130, 1131, 1132, 1134, 1136, 1138, 1142, 1141, 1140] (by decide +kernel) (by decide +kernel) (by decide)
theorem hz_ot_202 : ∀ q ∈ Cond.classLink "HotSteps" 198 "java/lang/IllegalArgumentException" :: Cond.initialized "java/lang/IllegalArgumentException" :: vx_atS "HotSteps" 202 "java/lang/IllegalArgumentException" hz_exs, vx_ot q = true := by decide +kernel
theorem hz_fitx : ∀ n ∈ hz_exs, Bundle.fit n = true := by decide +kernel
section HZ7
variable {p : Program} {l : Launch} {e : Env} {h : Nat} {z : hz_Z} {s : State} {m : MethodId} {args : Array Value} {below : List Frame} {meth : Method} {c : Code} {w : hz_C} {N nL : Nat} {Q : State → Prop} {M : hz_M} {pc : Nat} {ls : List (Nat × Value)} {st : List Value} {cc : ByteArray} {own : String} {ret : Option FieldType}
theorem hz_at (hO : hz_Ok p s m args meth c w cc nL own ret) {ow cls : String} {ic : Nat} {names : List String} (h : hz_AT ow ic cls names) : ∀ q ∈ vx_atS ow ic cls names, q.before args s = true := by
  intro q hq
  have hx := hO.2.2.2.1.2.2.2.2.2.2.2.2.2
  rcases h q hq with h | ⟨x, hx1, rfl⟩ | ⟨k, hk, rfl⟩
  · exact hO.1.2.2.2.2 _ h
  · exact va_Nw.use (A := args) rfl (hx.1 x hx1)
  · exact va_Nw.use (A := args) rfl (hx.2.1 k hk)
theorem hz_ofX {y : MethodName} {as : List Value} {C : String} {r : Int32} {M1 : hz_M} (hy : plainName y.cls = true) (hC : y.cls = C) (hlen : (lg_sl as).length ≤ nL) (hcode : Cond.code y cc nL ret ∈ hz_TB)
    (body : ∀ (p : Program) (e : Env) (s : State) (m : MethodId) (args : Array Value) (below : List Frame) (meth : Method) (c : Code), hz_Ok p s m args meth c w cc nL C ret → hz_nx c → hz_G p l e h hz_z1 s m args below meth c w N nL (vx_MQ below (hz_nQ w) (hz_XC w N r M1) args s 1 6 (hz_A w)) M 0 (lv_args 0 as) []) : hz_Cx l y cc nL ret h w N as M r M1 := by
  refine vx_ofW (cc := cc) (maxL := nL) (ret := ret) hy rfl ?_
  intro p e s m args below meth c s₁ B hml hxt hv
  obtain ⟨rfl, hWd, hX⟩ := hv
  have hts0 := atoms_spec (ws := Cond.code y cc nL ret :: hz_TB) B.pre
  have hown : s.vm.findClass C = some m.cls := hC ▸ findClass_of_methodNamed B.named
  have hl := lv_entry as (n := nL) hlen
  rw [lg_entry_eq]
  exact body p e s m as.toArray below meth c ⟨⟨B.exec, B.bytes, hml, hown, fun q hq => hts0 q (List.mem_cons_of_mem _ hq)⟩, B.returns, B.notSynchronized, hX, hWd.2.2.2⟩ hxt ⟨by decide, by decide⟩ s.heap [] _ hWd va_S.rf hl
theorem hz_xend (hO : hz_Ok p s m args meth c w cc nL own ret) {cls : String} {r : Int32} (hcls : cls = hz_xn r) {H : Heap} {locs : List Loc} (hW : hz_Wd w N M s H) (hS : va_S (hz_A w) s.heap H locs) (t : State) (hal : s.vm.Alike t.vm) (hsz : H.size ≤ t.heap.size) (hq : ∀ q : Nat, q < H.size → t.heap[q]? = H[q]?) : hz_XC w N r M cls s t :=
  ⟨(), trivial, ⟨hcls, (hW.grow hsz hq).moved hal⟩, Nat.le_trans hS.1 hsz, fun q h1 h2 => by rw [hq q (Nat.lt_of_lt_of_le h1 hS.1)]; exact hS.2.1 q h1 h2⟩
theorem hz_thr (hl : l.stackTraces = false) (hO : hz_Ok p s m args meth c w cc nL own ret) (hxt : hz_nx c) {ik is ic i : Nat} {cls text : String} {r : Int32} (hcls : cls = hz_xn r) (hfit : Bundle.fit cls = true) (hk : Cond.classLink own ik cls ∈ hz_TB) (hini : Cond.initialized cls ∈ hz_TB) (hq : (own, is, text, i) ∈ hz_ldcs) (hat : hz_AT own ic cls hz_exs) (hot : ∀ q ∈ Cond.classLink own ik cls :: Cond.initialized cls :: vx_atS own ic cls hz_exs, vx_ot q = true) (hh : 6 ≤ h) (hcat : (st.map fun v => v.category).sum ≤ 8)
    (d0 : decode cc pc = .ok (.new ik, 3)) (d3 : decode cc (pc + 3) = .ok (.dup, 1)) (d4 : decode cc (pc + 4) = .ok (.ldc is, 2)) (d6 : decode cc (pc + 6) = .ok (.invokespecial ic, 3)) (d9 : decode cc (pc + 9) = .ok (.athrow, 1)) : hz_G p l e h hz_z1 s m args below meth c w N nL (vx_MQ below (hz_nQ w) (hz_XC w N r M) args s 1 6 (hz_A w)) M pc ls st := by
  intro hzk H locs la hW hS hL
  have hx := hO.2.2.2.1.2.2.2.2.2.2.2.2.2
  refine vx_throwS (names := hz_exs) hO.1.1 hO.1.2.1 hl hO.1.2.2.2.1 hfit hz_fitx (hO.1.2.2.2.2 _ hk) (hO.1.2.2.2.2 _ hini) (hO.2.2.2.1.2.2.2.1 _ hq) (hz_at hO hat) hot hx.2.2.2.1 hx.2.2.2.2.1 hS (hL.1.trans hO.1.2.2.1.symm) d0 d3 d4 d6 d9 (fun x hx => (hxt x hx).elim) ?_ ?_ (Nat.le_refl 1) (Nat.le_refl 6) hO.2.2.1 (fun t hal hsz hq => hz_xend hO hcls hW hS t hal hsz hq) hS.2.2 (by decide) (by decide)
  · show 2 + 3 < h; omega
  · show _ + (13 * (2 + 1) + 43) ≤ 60 * h; omega
theorem hz_thrW (hl : l.stackTraces = false) (hO : hz_Ok p s m args meth c w cc nL own ret) (hxt : hz_nx c) {ik is ic i : Nat} {cls text : String} {r : Int32} (hcls : cls = hz_xn r) (hfit : Bundle.fit cls = true) (hk : Cond.classLink own ik cls ∈ hz_TB) (hini : Cond.initialized cls ∈ hz_TB) (hq : (own, is, text, i) ∈ hz_ldcs) (hat : hz_AT own ic cls hz_exs) (hot : ∀ q ∈ Cond.classLink own ik cls :: Cond.initialized cls :: vx_atS own ic cls hz_exs, vx_ot q = true) (hh : 6 ≤ h) (hcat : (st.map fun v => v.category).sum ≤ 8)
    (d0 : decode cc pc = .ok (.new ik, 3)) (d3 : decode cc (pc + 3) = .ok (.dup, 1)) (d4 : decode cc (pc + 4) = .ok (.ldc_w is, 3)) (d7 : decode cc (pc + 7) = .ok (.invokespecial ic, 3)) (d10 : decode cc (pc + 10) = .ok (.athrow, 1)) : hz_G p l e h hz_z1 s m args below meth c w N nL (vx_MQ below (hz_nQ w) (hz_XC w N r M) args s 1 6 (hz_A w)) M pc ls st := by
  intro hzk H locs la hW hS hL
  have hx := hO.2.2.2.1.2.2.2.2.2.2.2.2.2
  refine vx_throwSW (names := hz_exs) hO.1.1 hO.1.2.1 hl hO.1.2.2.2.1 hfit hz_fitx (hO.1.2.2.2.2 _ hk) (hO.1.2.2.2.2 _ hini) (hO.2.2.2.1.2.2.2.1 _ hq) (hz_at hO hat) hot hx.2.2.2.1 hx.2.2.2.2.1 hS (hL.1.trans hO.1.2.2.1.symm) d0 d3 d4 d7 d10 (fun x hx => (hxt x hx).elim) ?_ ?_ (Nat.le_refl 1) (Nat.le_refl 6) hO.2.2.1 (fun t hal hsz hq => hz_xend hO hcls hW hS t hal hsz hq) hS.2.2 (by decide) (by decide)
  · show 2 + 3 < h; omega
  · show _ + (13 * (2 + 1) + 43) ≤ 60 * h; omega
theorem hz_nameX {M1 M2 : hz_M} {r1 r2 : Int32} (hr : r1 = r2) (hM : M1 = M2) (kk : hz_G p l e h z s m args below meth c w N nL (vx_MQ below (hz_nQ w) (hz_XC w N r1 M1) args s 1 6 (hz_A w)) M pc ls st) : hz_G p l e h z s m args below meth c w N nL (vx_MQ below (hz_nQ w) (hz_XC w N r2 M2) args s 1 6 (hz_A w)) M pc ls st := by
  subst hr
  subst hM
  exact kk
theorem hz_xS (hO : hz_Ok p s m args meth c w cc nL own ret) (hxt : hz_nx c) {idx n nLy hc : Nat} {C : String} {y : MethodName} {b : ByteArray} {rt : Option FieldType} {as rest : List Value} {r : Int32} {M1 : hz_M} (hC : hz_Cx l y b nLy rt hc w N as M r M1) (hcal : hz_CalS C y b nLy rt n) (hlink : Cond.methodLink own idx y ∈ hz_TB) (hh : hc + 1 ≤ h) (hn : as.length = n) (hst : st = as.reverse ++ rest) (hcat : (rest.map fun v => v.category).sum ≤ 8) (hdg : decode cc pc = .ok (.invokestatic idx, 3)) : hz_G p l e h hz_z1 s m args below meth c w N nL (vx_MQ below (hz_nQ w) (hz_XC w N r M1) args s 1 6 (hz_A w)) M pc ls st := by
  intro hzk H locs la hW hS hL
  have hts := hO.1.2.2.2.2
  have cw : CallB (hz_rm h hz_z1) s args own idx y b nLy rt (Cond.code y b nLy rt :: hz_TB) (hz_rm hc hz_z1) 1 6 n ∧ (Cond.static y).before args s = true := by
    refine ⟨callB_of n hts (hz_goodC hcal.1.1) rfl rfl rfl ?_ (hts _ hlink) hcal.1.2.2.1.2 ⟨(hz_fit (z := hz_z1) hh hcal.1.2.2.2).1, (hz_fit (z := hz_z1) hh hcal.1.2.2.2).2⟩, hts _ hcal.2⟩
    rw [hcal.1.2.2.1.1]
    exact hts _ hcal.1.2.1
  refine vx_callv (AX := hz_A w) (vx_runS (As := as) (rest := rest) hO.1 hC cw ⟨hz_blind, hz_pre hO hW hS⟩ rfl hn hL.1 hst (lv_room hcat) hdg ⟨Nat.le_refl 1, Nat.le_refl 6⟩) hS (fun q _ z => z) (fun q z => z) (fun q _ z => z) ?_ (fun u t H1 locs1 ht hvm hr => hr.elim)
  intro E ce q9 u t H1 locs1 ht hal hp hB hsz hk1 hS1 hce hcv hcl
  refine vx_out (fun x hx => (hxt x hx).elim) hO.2.2.1 hce hcv hcl (fun t9 ht9 hal9 => ?_) hS1.2.2 (by decide) (by decide)
  refine ⟨(), trivial, ⟨hB.1, ?_⟩, hS1.F ht9⟩
  rw [ht9, ← ht]
  exact hB.2.moved (hal.symm.trans hal9)
end HZ7
/-! an exception whose constructor has a link of its own to the next one (NoSuchElementException: 13; the library's ctorThrowS asks for link 7 all along the chain): adapted from it, the head asked apart -/
def hz_wX (own : String) (ic : Nat) (X : String) (ix : Nat) (rx : ByteArray) (Y : String) (names : List String) : List Cond :=
  Bundle.throwableAtoms ++ Bundle.throwableSAtoms ++ (Bundle.passSAtoms X Y ix rx ++ Bundle.chainSAtoms Y names) ++
  [.methodLink own ic (Bundle.initS X), .instantiable X 6, .castable X X, .selects X Bundle.tFill0 Bundle.tFill0, .selects X Bundle.tFill Bundle.tFill,
   .lays X Bundle.tN "cause" "Ljava/lang/Throwable;", .lays X Bundle.tN "stackTrace" Bundle.steD, .lays X Bundle.tN "suppressedExceptions" Bundle.listD, .lays X Bundle.tN "detailMessage" "Ljava/lang/String;",
   .isRef (.static Bundle.tN "UNASSIGNED_STACK" Bundle.steD), .isRef (.static Bundle.tN "SUPPRESSED_SENTINEL" Bundle.listD),
   .fieldLink Bundle.tN 198 Bundle.tN "backtrace" "Ljava/lang/Object;", .lays Bundle.tN Bundle.tN "backtrace" "Ljava/lang/Object;", .lays X Bundle.tN "backtrace" "Ljava/lang/Object;"]
theorem hz_chainN {args : Array Value} {s : State} {pl : Platform} (hpl : pl.magicAccessors = ({} : Platform).magicAccessors) {top : MethodId} (htop : s.methodNamed? (Bundle.initS Bundle.tN) = some top)
    {ix : Nat} {rx : ByteArray} (x0 : decode rx 0 = .ok (.aload_n 0, 1)) (x1 : decode rx 1 = .ok (.aload_n 1, 1)) (x2 : decode rx 2 = .ok (.invokespecial ix, 3)) (x5 : decode rx 5 = .ok (.return_, 1))
    {names : List String} {X Y : String} (hX : Bundle.fit X = true) (hY : Bundle.fit Y = true) (hn : ∀ n ∈ names, Bundle.fit n = true) (h : ∀ c ∈ Bundle.passSAtoms X Y ix rx ++ Bundle.chainSAtoms Y names, c.before args s = true) :
    ∃ (P1 : PassC) (Ps : List PassC), Ps.length = names.length + 1 ∧ P1.LinksS pl s ∧ (∀ P, P ∈ Ps → P.LinksS pl s) ∧ s.methodNamed? (Bundle.initS X) = some P1.m ∧
        P1.sup = firstOf top (Ps.map (·.toPassT)) ∧ PassesOn top (Ps.map (·.toPassT)) := by
  obtain ⟨P, L, hm, hs⟩ := PassC.ofS_atoms (args := args) (s := s) hpl (X := X) (Y := Y) (Bundle.fit_spec hX).1 (Bundle.fit_spec hY).2 x0 x1 x2 x5 (fun c hc => h c (List.mem_append_left _ hc))
  obtain ⟨P', Ps, hlen, L', hL, hm', hsup, hpass⟩ := Bundle.chainS (args := args) hpl htop names Y hY hn (fun c hc => h c (List.mem_append_right _ hc))
  refine ⟨P, P' :: Ps, by simp [hlen], L, ?_, hm, Option.some.inj (hs.symm.trans hm'), hsup, hpass⟩
  intro Q hQ
  rcases List.mem_cons.mp hQ with rfl | hQ
  · exact L'
  · exact hL Q hQ
section HZ8
variable {p : Program} {l : Launch} {e : Env} {R : Room} {s : State} {m₀ : MethodId} {args : Array Value} {below : List Frame} {meth : Method} {c : Code} {W : State} {locs : List Loc} {cells slots : Nat}
set_option maxHeartbeats 4000000 in
theorem hz_ctorN (X : Stand p l e R s m₀ args below meth c W locs cells slots) (hexec : p.tables.exec = Jvm.exec) (htr : e.platform.stackTraces = false) {own cls Yn : String} {names : List String} {ic ix : Nat} {rx : ByteArray}
    (x0 : decode rx 0 = .ok (.aload_n 0, 1)) (x1 : decode rx 1 = .ok (.aload_n 1, 1)) (x2 : decode rx 2 = .ok (.invokespecial ix, 3)) (x5 : decode rx 5 = .ok (.return_, 1))
    (hown : s.vm.findClass own = some m₀.cls) (hcls : Bundle.fit cls = true) (hY : Bundle.fit Yn = true) (hnames : ∀ n ∈ names, Bundle.fit n = true)
    (h : ∀ a ∈ hz_wX own ic cls ix rx Yn names, a.before args s = true)
    (hlocs : ∀ x ∈ locs, ∀ cell, s.heap[x.base]? = some cell → cell.vm.isStatics = false)
    {a : Addr} {cX : ClassId} {kX : Class} (hfoundX : s.vm.findClass cls = some cX) (hkX : s.vm.classes[cX]? = some kX) (hcell : W.heap[a]? = some (freshCell cX kX)) (hnew : s.heap.size ≤ a)
    {msg : Value} (hmsg : msg.isRef = true)
    {g : JFrame} (hg : g.method = m₀) (hsize : g.locals.size = c.maxLocals) (hlocked : g.locked = none) (hentered : g.entered = []) {rest : List Value} (hstack : g.stack = msg :: .ref a :: .ref a :: rest)
    (hd6 : decode c.code g.pc = .ok (.invokespecial ic, 3)) (hd9 : decode c.code (g.pc + 3) = .ok (.athrow, 1)) (hout : ∀ x ∈ c.exceptionTable.toList, covers x (g.pc + 3) = false)
    (hRframes : names.length + 4 < R.frames) (hRlocals : 2 * g.monitorRoom + ((Value.ref a :: rest).map fun v => v.category).sum + (13 * (names.length + 2) + 42) ≤ R.locals) (hlocks : meth.locks = false) :
    ∃ U : State, Steps p.tables e below (W.setTop g) U ∧ U.status = .running ∧ Ended U below (.threw a) ∧ s.WarmedH U.vm ∧ s.sameButNew ({ U with vm := s.vm } : State) locs cells slots ∧
      ∃ ce, U.heap[a]? = some ce ∧ s.vm.findClass cls = some ce.cls ∧ ce.vm = .none := by
  have howns : e.platform.frameOwnsMonitors = true := by rw [X.admits.platform]
  have hfin : e.platform.finalization = false := by rw [X.admits.platform]
  have hpl : e.platform.magicAccessors = ({} : Platform).magicAccessors := by rw [X.admits.platform]
  have a' : ∀ x, x ∈ hz_wX own ic cls ix rx Yn names → x.holds args s none s [] = true := fun x hx => h x hx
  obtain ⟨T, Z0, L, -, Y⟩ := ThrowableC.of_atoms (args := args) howns hfin hpl (fun x hx => h x (by simp [hz_wX, hx]))
  obtain ⟨Z, M, LZ, LM, hnZ⟩ := Init0T.ofS_atoms (args := args) hpl L Y (fun x hx => h x (by simp [hz_wX, hx]))
  obtain ⟨P1, Ps, hlen, L1, hL, hP1m, hlink1, hlink⟩ := hz_chainN (args := args) hpl hnZ x0 x1 x2 x5 hcls hY hnames (fun x hx => h x (List.mem_append_left _ (List.mem_append_right _ hx)))
  have hfound : s.vm.findClass cls = some P1.m.cls := findClass_of_methodNamed hP1m
  cases Option.some.inj (hfoundX.symm.trans hfound)
  obtain ⟨c1, kX', hc1, hk, hord, -, -, hn6⟩ := Cond.instantiable_spec (a' (.instantiable cls 6) (by simp [hz_wX]))
  cases Option.some.inj (hc1.symm.trans hfound)
  cases Option.some.inj (hkX.symm.trans hk)
  have hsel0 : selectMethod e.platform s.vm P1.m.cls T.fill0 = .method T.fill0 := by
    obtain ⟨c2, r2, m2, q1, q2, q3, q4, -⟩ := Cond.selects_spec (a' (.selects cls Bundle.tFill0 Bundle.tFill0) (by simp [hz_wX]))
    cases Option.some.inj (q1.symm.trans hfound)
    cases Option.some.inj (q2.symm.trans (State.methodFound?_of_named Y.fill0 (by decide)))
    cases Option.some.inj (q3.symm.trans Y.fill0)
    rw [Launch.admits_selectMethod X.admits]; exact q4
  have hselF : selectMethod e.platform s.vm P1.m.cls T.fill = .method T.fill := by
    obtain ⟨c2, r2, m2, q1, q2, q3, q4, -⟩ := Cond.selects_spec (a' (.selects cls Bundle.tFill Bundle.tFill) (by simp [hz_wX]))
    cases Option.some.inj (q1.symm.trans hfound)
    cases Option.some.inj (q2.symm.trans (State.methodFound?_of_named Y.fill (by decide)))
    cases Option.some.inj (q3.symm.trans Y.fill)
    rw [Launch.admits_selectMethod X.admits]; exact q4
  obtain ⟨cellS0, hcS0, hiss⟩ := Y.statics
  obtain ⟨u0, hu0⟩ := Cond.staticRefV Y.unassigned L.unassignedStatic L.statics hcS0 hiss (a' (.isRef (.static Bundle.tN "UNASSIGNED_STACK" Bundle.steD)) (by simp [hz_wX]))
  obtain ⟨sen, hsen⟩ := Cond.staticRefV Y.sentinel L.sentinelStatic L.statics hcS0 hiss (a' (.isRef (.static Bundle.tN "SUPPRESSED_SENTINEL" Bundle.listD)) (by simp [hz_wX]))
  obtain ⟨ci198, i198, fB, hk198, hg198, ha198, hsB, -, hnB, htB, hffB⟩ := Cond.ownField (t := .object "java/lang/Object") Y.found L.cls (by decide +kernel) (a' (.fieldLink Bundle.tN 198 Bundle.tN "backtrace" "Ljava/lang/Object;") (by simp [hz_wX])) (a' (.lays Bundle.tN Bundle.tN "backtrace" "Ljava/lang/Object;") (by simp [hz_wX])) e.platform hpl
  obtain ⟨cellS, hcS', heS, -, hkeep⟩ := X.same.2.2.2.2.2 T.aS cellS0 hcS0
  have hcellS : W.heap[T.aS]? = some cellS := hcS'
  have hout' : ∀ i, (⟨T.aS, i⟩ : Loc) ∉ locs := fun i hmem => by
    have := hlocs _ hmem cellS0 hcS0
    rw [hiss] at this; cases this
  have hknownS : cellS.vm ≠ .unknown := by
    rw [heS]; intro hu
    rw [show cellS0.vm = .unknown from hu] at hiss
    cases hiss
  have hneS : T.aS ≠ a := Nat.ne_of_lt (Nat.lt_of_lt_of_le (Array.getElem?_eq_some_iff.mp hcS0).1 hnew)
  obtain ⟨iM, hffM⟩ := Y.msg
  obtain ⟨tyC, dC, hdC, hdnC⟩ := Cond.laysAt hfound hk Y.cause (a' (.lays cls Bundle.tN "cause" "Ljava/lang/Throwable;") (by simp [hz_wX]))
  obtain ⟨tyS, dS, hdS, hdnS⟩ := Cond.laysAt hfound hk Y.stack (a' (.lays cls Bundle.tN "stackTrace" Bundle.steD) (by simp [hz_wX]))
  obtain ⟨tyP, dP, hdP, hdnP⟩ := Cond.laysAt hfound hk Y.supp (a' (.lays cls Bundle.tN "suppressedExceptions" Bundle.listD) (by simp [hz_wX]))
  obtain ⟨tyM, dM, hdM, hdnM⟩ := Cond.laysAt hfound hk hffM (a' (.lays cls Bundle.tN "detailMessage" "Ljava/lang/String;") (by simp [hz_wX]))
  obtain ⟨tyB, dB, hdB, hdnB⟩ := Cond.laysAt hfound hk hffB (a' (.lays cls Bundle.tN "backtrace" "Ljava/lang/Object;") (by simp [hz_wX]))
  have bC := Cond.laysApart hdB hdC hdnB hdnC (by rw [hnB, Y.causeName]; decide)
  have bS := Cond.laysApart hdB hdS hdnB hdnS (by rw [hnB, Y.stackName]; decide)
  have bP := Cond.laysApart hdB hdP hdnB hdnP (by rw [hnB, Y.suppName]; decide)
  have hskip : SkipFacts T e.platform s (fun u => u) u0 ((preparedCellV T.toThrowableT (freshCell P1.m.cls kX) a u0 sen).withEntry W.cur) :=
    ⟨{ ci198 := ci198, i198 := i198, fBack := fB }, ⟨hk198, hg198, ha198, hsB⟩, by
      have := fresh_default (c := P1.m.cls) tyB
      rw [htB] at this
      simpa [preparedCellV, Cell.setSlot, Cell.withEntry, Array.getElem?_setIfInBounds, bC, bS, bP, bC.symm, bS.symm, bP.symm, defaultValue] using this, fun _ _ => rfl⟩
                                     
  obtain ⟨tm, methC, cdC, kC, vm₁, hnC, -, -, -, -, -, -, -, hW₁, st1⟩ := Steps.initColdS (tb := p.tables) (e := e) (below := below) (s := s) (U := W) X.here hexec X.warmed hpl hown (t := Bundle.initS cls) rfl rfl (Bundle.fit_spec hcls).2
    (a' (.methodLink own ic (Bundle.initS cls)) (by simp [hz_wX])) (h (.instanceMethod (Bundle.initS cls)) (by simp [hz_wX, Bundle.passSAtoms])) (bytes := rx) (maxL := 2) (h (.code (Bundle.initS cls) rx 2 none) (by simp [hz_wX, Bundle.passSAtoms]))
    (f := g) hg (a := a) (msg := msg) (rest := .ref a :: rest) hstack hd6
  cases Option.some.inj (hnC.symm.trans hP1m)
  have X₁ := X.noted hW₁
                                 
  obtain ⟨vm₂, X₂, st2⟩ := X₁.ctorMessageOffV hexec (g := { g with stack := .ref a :: rest }) hg hsize T L Z LZ M LM (P1 :: Ps)
    (fun P hP => by rcases List.mem_cons.mp hP with rfl | hP; exact L1; exact hL P hP) ⟨hlink1, hlink⟩ (u0 := u0) (sen := sen) (self := a) hmsg (cell := freshCell P1.m.cls kX) (cellS := cellS)
    hcell (fun _ => by simp) (by simp) rfl rfl hsel0 hselF hcellS hneS hknownS (by rw [hkeep _ (hout' _)]; exact hu0) (by rw [hkeep _ (hout' _)]; exact hsen)
    (Takes.of_laid hk hord tyC (by rw [Y.causeType]; rfl)) (Takes.of_laid hk hord tyS (by rw [Y.stackType]; exact fits_refV_array _ u0)) (Takes.of_laid hk hord tyP (by rw [Y.suppType]; exact fits_refV_object _ sen))
    (Takes.of_laid hk hord tyM (by rw [Y.msgType]; exact fits_refV_object _ ⟨msg, hmsg⟩)) Y.objLocals hskip htr [] hd6
    (by simp only [List.length_cons, hlen]; omega) (by simp only [List.length_cons, hlen]; exact hRlocals)
                                    
  obtain ⟨hwalk, hrun, hended, hWU, hsame⟩ := X₂.athrowLeaves hexec (g := { g with stack := .ref a :: rest, pc := g.pc + 3 }) hg hlocked hentered hout (a := a) (rest := rest) rfl hd9
  have hlt : a < ((W.setVm vm₁).setVm vm₂).heap.size := (Array.getElem?_eq_some_iff.mp hcell).1
  have hU := heapAt_setCell_self (s := (W.setVm vm₁).setVm vm₂) (plainBareV T.toThrowableT (freshCell P1.m.cls kX) a u0 sen msg) hlt
  refine ⟨_, st1 _ (fun acts => ?_), hrun, hended, hWU, hsame.weaken (fun y hy hlt' => ?_) (Nat.le_refl _) (Nat.le_refl _), _, hU, hfound, rfl⟩
  · rw [doInvoke_state]
    exact st2 _ hwalk
  · rcases List.mem_append.mp hy with h1 | h1
    · exact h1
    · exfalso
      have hb : y.base = a := by
        simp only [List.mem_cons, List.not_mem_nil, or_false] at h1
        rcases h1 with rfl | rfl | rfl | rfl | rfl <;> rfl
      rw [hb] at hlt'
      exact Nat.not_lt.mpr hnew hlt'
end HZ8
section HZ9
variable {p : Program} {l : Launch} {e : Env} {R : Room} {s : State} {m : MethodId} {args : Array Value} {below : List Frame} {meth : Method} {c : Code} {H : Heap} {locs : List Loc} {cells slots : Nat} {pc : Nat} {ls : Array Slot} {rest : List Value} {Qc : Array Value → State → Outcome → State → Prop} {XC : String → State → State → Prop} {free : Addr → Prop}
set_option maxHeartbeats 4000000 in
theorem hz_throwN {cc : ByteArray} (hexec : p.tables.exec = Jvm.exec) (hb : c.code = cc) (hl : l.stackTraces = false) {own cls text Yn : String} {names : List String} {ik is ic ix mc ms sa : Nat} {rx : ByteArray} {A : Nat → Prop}
    (x0 : decode rx 0 = .ok (.aload_n 0, 1)) (x1 : decode rx 1 = .ok (.aload_n 1, 1)) (x2 : decode rx 2 = .ok (.invokespecial ix, 3)) (x5 : decode rx 5 = .ok (.return_, 1))
    (hown : s.vm.findClass own = some m.cls) (hcls : Bundle.fit cls = true) (hY : Bundle.fit Yn = true) (hnames : ∀ n ∈ names, Bundle.fit n = true)
    (hk : (Cond.classLink own ik cls).before args s = true) (hini : (Cond.initialized cls).before args s = true) (hstr : vk_R own is text sa s) (hat : ∀ w ∈ (hz_wX own ic cls ix rx Yn names).filter vx_no, w.before args s = true)
    (hgood : ∀ w ∈ Cond.classLink own ik cls :: Cond.initialized cls :: (hz_wX own ic cls ix rx Yn names).filter vx_no, vx_ot w = true)
    (hU : vx_Zq Bundle.tN "UNASSIGNED_STACK" Bundle.steD A s s.heap) (hN : vx_Zq Bundle.tN "SUPPRESSED_SENTINEL" Bundle.listD A s s.heap) (hS : va_S A s.heap H locs) (hsize : ls.size = c.maxLocals)
    (d0 : decode cc pc = .ok (.new ik, 3)) (d3 : decode cc (pc + 3) = .ok (.dup, 1)) (d4 : decode cc (pc + 4) = .ok (.ldc_w is, 3)) (d7 : decode cc (pc + 7) = .ok (.invokespecial ic, 3)) (d10 : decode cc (pc + 10) = .ok (.athrow, 1))
    (hout : ∀ x ∈ c.exceptionTable.toList, covers x (pc + 10) = false)
    (hRframes : names.length + 4 < R.frames) (hRlocals : (rest.map fun v => v.category).sum + (13 * (names.length + 2) + 43) ≤ R.locals) (hRcells : cells + 1 ≤ R.cells) (hRslots : slots + 6 ≤ R.slots) (hlocks : meth.locks = false)
    (hx : ∀ t : State, s.vm.Alike t.vm → H.size ≤ t.heap.size → (∀ q : Nat, q < H.size → t.heap[q]? = H[q]?) → XC cls s t)
    (hf : ∀ z ∈ locs, free z.base) (hc : cells + 1 ≤ mc) (hs : slots + 6 ≤ ms) :
    W p l e R s m args below meth c H locs cells slots (vx_MQ below Qc XC args s mc ms free) (F0 m pc ls rest) := by
  intro T hT X
  have htr : e.platform.stackTraces = false := (show e.platform.stackTraces = l.stackTraces by rw [X.admits.platform]).trans hl
  have Y := vx_rebase X (R' := { frames := R.frames, locals := R.locals, cells := 1, slots := 6 }) (Nat.le_refl _) (Nat.le_refl _) hRcells hRslots
  obtain ⟨s', hA⟩ : ∃ z, z = (T.setVm s.vm).setFrames (.invoking m args :: below) := ⟨_, rfl⟩
  rw [← hA] at Y
  have hvm : s'.vm = s.vm := by rw [hA]; rfl
  have hhp : s'.heap = H := by rw [hA]; exact hT
  have hW0 : s.WarmedH s'.vm := by rw [hvm]; exact State.WarmedH.refl s
  have hat' : ∀ w ∈ (hz_wX own ic cls ix rx Yn names).filter vx_no, w.before args s' = true := fun w hw => vx_ot_at hW0 hvm.symm (hgood w (List.mem_cons_of_mem _ (List.mem_cons_of_mem _ hw))) (hat w hw)
  have hk' : (Cond.classLink own ik cls).before args s' = true := vx_ot_at hW0 hvm.symm (hgood _ List.mem_cons_self) hk
  have hini' : (Cond.initialized cls).before args s' = true := vx_ot_at hW0 hvm.symm (hgood _ (List.mem_cons_of_mem _ List.mem_cons_self)) hini
  have hU' : vx_Zq Bundle.tN "UNASSIGNED_STACK" Bundle.steD A s' s'.heap := by rw [hhp]; exact vx_Zq.moved hW0.alike (hU.kept hS.2.1)
  have hN' : vx_Zq Bundle.tN "SUPPRESSED_SENTINEL" Bundle.listD A s' s'.heap := by rw [hhp]; exact vx_Zq.moved hW0.alike (hN.kept hS.2.1)
  have h : ∀ w ∈ hz_wX own ic cls ix rx Yn names, w.before args s' = true := vx_own hat' (vx_isRefq hU'.1) (vx_isRefq hN'.1) hU'.2.word hN'.2.word
  have hown' : s'.vm.findClass own = some m.cls := by rw [hvm]; exact hown
  have hins : (Cond.instantiable cls 6).before args s' = true := h _ (by simp [hz_wX])
  obtain ⟨vm₁, cX, kX, hfX, hkX, -, -, X₁, st1⟩ := Y.newCold hexec (own := own) (C := cls) (index := ik) (n := 6) hown' hk' hins hini'
    (g := F0 m pc ls rest) rfl (by rw [hb]; exact d0) (Nat.le_refl _) (Nat.le_refl _)
  generalize hT1 : (T.setVm vm₁).pushCell { cls := cX, slots := kX.instanceTypes.map defaultValue, vm := .none } = T1 at X₁ st1
  have hcat : (Value.ref T.heap.size).category = 1 := rfl
  have hcellA : T1.heap[T.heap.size]? = some (freshCell cX kX) := by rw [← hT1]; exact State.heap_pushCell_size _ _
  have d3' : decode c.code (pc + 3) = .ok (.dup, 1) := by rw [hb]; exact d3
  have d4' : decode c.code (pc + 4) = .ok (.ldc_w is, 3) := by rw [hb]; exact d4
  have hstr' : vk_R own is text sa s' := vk_R.warm hW0 hstr
  obtain ⟨U, hsteps, hrun, hend, hW, hsame, ce, hce, hOc, hOv⟩ := hz_ctorN X₁ hexec htr (own := own) (cls := cls) (names := names) (ic := ic) x0 x1 x2 x5 hown' hcls hY hnames h (fun x hx => nomatch hx) hfX hkX hcellA (by rw [hhp, hT]; exact Nat.le_refl _) (msg := .ref sa) rfl
    (g := { method := m, pc := pc + 7, locals := ls, stack := .ref sa :: .ref T.heap.size :: .ref T.heap.size :: rest, locked := none }) rfl hsize rfl rfl (rest := rest) rfl
    (by rw [hb]; exact d7) (by rw [hb]; exact d10) hout hRframes (by simp only [List.map_cons, List.sum_cons, hcat]; omega) hlocks
  obtain ⟨f1, f2⟩ := vx_frame hsame
  rw [hhp] at f1 f2
  have hWs : s.WarmedH U.vm := State.WarmedH.trans hW0 hW
  have hcl : s.vm.findClass cls = some ce.cls := by
    have h9 := hOc
    rw [hvm] at h9
    exact h9
  have hall : s.sameButNew ({ U with vm := s.vm } : State) locs mc ms := by
    subst hA
    obtain ⟨e1, e2⟩ := hsame
    rw [State.setFrames_setFrames] at e1
    have h2 : (T.setVm s.vm).sameButNew ({ U with vm := s.vm } : State) [] (0 + 1) (0 + 6) := ⟨e1, e2⟩
    have h3 := X.same.trans h2
    rw [List.append_nil] at h3
    exact h3.mono hc hs
  refine ⟨U, ?_, .threw T.heap.size, hrun, hend, Or.inr ⟨T.heap.size, rfl, cls, ce, locs, hx U hWs.alike f1 (fun q hq => f2 q hq (fun z hz => nomatch hz)), hce, hOv, hcl, hWs, hall, hf⟩⟩
  refine st1 _ ?_
  show Steps p.tables e below (T1.setTop { method := m, pc := pc + 3, locals := ls, stack := .ref T.heap.size :: rest, locked := none }) _
  jvm_step X₁.here [X₁.here.top, hexec, d3', Value.category]
  exact X₁.ldcStringW hexec (own := own) (text := text) (index := is) (a := sa) hown' hstr'.1 hstr'.2
    (g := { method := m, pc := pc + 4, locals := ls, stack := .ref T.heap.size :: .ref T.heap.size :: rest, locked := none }) rfl d4' _ hsteps
end HZ9
def hz_wN : List Cond := (hz_wX "HotSteps" 427 "java/util/NoSuchElementException" 13 prog_32_method_4_code "java/lang/RuntimeException" ["java/lang/Exception"]).filter vx_no
theorem hz_wN_1 : hz_wN = [145, 1143, 1152, 1155, 1158, 1160, 1144, 1145, 158, 159, 1146, 1151, 1156, 1176, 1133, 1177, 1135, 1178, 1137, 1147, 1149, 1139, 1172, 1173, 1175, 1139, 1465, 1466, 1467, 1166, 1125, 1166, 1167, 1168, 1169, 1127, 1169, 1170, 1171, 1172, 1129, 1464, 1455, 1456, 1457, 1154, 1458, 1459, 1460, 1461, 1142, 1141, 1462].filterMap (fun i => lw_tbl[i]?) := by decide +kernel
theorem hz_wN_2 : hz_wN.filter (fun q => !goodWord q) = hz_dcl.map Cond.declares ++ [Cond.castable "java/util/NoSuchElementException" "java/util/NoSuchElementException"] := by decide +kernel
theorem hz_wN_3 : ∀ q ∈ Cond.classLink "HotSteps" 423 "java/util/NoSuchElementException" :: Cond.initialized "java/util/NoSuchElementException" :: hz_wN, vx_ot q = true := by decide +kernel
theorem hz_wN_at : ∀ q ∈ hz_wN, q ∈ hz_TB ∨ (∃ x ∈ hz_dcl, q = .declares x) ∨ (∃ k ∈ hz_cst, q = .castable k k) := by
  intro q hq
  by_cases g : goodWord q = true
  · refine Or.inl (hz_tb ?_ g)
    rw [hz_wN_1] at hq
    obtain ⟨i, -, hi⟩ := List.mem_filterMap.mp hq
    exact List.mem_of_getElem? hi
  · have hf : q ∈ hz_wN.filter (fun q => !goodWord q) := List.mem_filter.mpr ⟨hq, by simpa using g⟩
    rw [hz_wN_2] at hf
    rcases List.mem_append.mp hf with hf | hf
    · obtain ⟨x, hx, rfl⟩ := List.mem_map.mp hf
      exact Or.inr (Or.inl ⟨x, hx, rfl⟩)
    · rcases List.mem_singleton.mp hf with rfl
      exact Or.inr (Or.inr ⟨_, by decide, rfl⟩)
section HZ10
variable {p : Program} {l : Launch} {e : Env} {h : Nat} {z : hz_Z} {s : State} {m : MethodId} {args : Array Value} {below : List Frame} {meth : Method} {c : Code} {w : hz_C} {N nL : Nat} {Q : State → Prop} {M : hz_M} {pc : Nat} {ls : List (Nat × Value)} {st : List Value} {cc : ByteArray} {ret : Option FieldType}
theorem hz_thrN (hl : l.stackTraces = false) (hO : hz_Ok p s m args meth c w cc nL "HotSteps" ret) (hxt : hz_nx c) {is i : Nat} {text : String} (hq : ("HotSteps", is, text, i) ∈ hz_ldcs) (hh : 6 ≤ h) (hcat : (st.map fun v => v.category).sum ≤ 8)
    (d0 : decode cc pc = .ok (.new 423, 3)) (d3 : decode cc (pc + 3) = .ok (.dup, 1)) (d4 : decode cc (pc + 4) = .ok (.ldc_w is, 3)) (d7 : decode cc (pc + 7) = .ok (.invokespecial 427, 3)) (d10 : decode cc (pc + 10) = .ok (.athrow, 1)) : hz_G p l e h hz_z1 s m args below meth c w N nL (vx_MQ below (hz_nQ w) (hz_XC w N 2 M) args s 1 6 (hz_A w)) M pc ls st := by
  intro hzk H locs la hW hS hL
  have hx := hO.2.2.2.1.2.2.2.2.2.2.2.2.2
  have hat : ∀ q ∈ hz_wN, q.before args s = true := by
    intro q hq
    rcases hz_wN_at q hq with h | ⟨x, hx1, rfl⟩ | ⟨k, hk, rfl⟩
    · exact hO.1.2.2.2.2 _ h
    · exact va_Nw.use (A := args) rfl (hx.1 x hx1)
    · exact va_Nw.use (A := args) rfl (hx.2.1 k hk)
  refine hz_throwN (names := ["java/lang/Exception"]) (ix := 13) (rx := prog_32_method_4_code) (Yn := "java/lang/RuntimeException") (cls := "java/util/NoSuchElementException") hO.1.1 hO.1.2.1 hl (by decide +kernel) (by decide +kernel) (by decide +kernel) (by decide +kernel) hO.1.2.2.2.1 (by decide +kernel) (by decide +kernel) (by decide +kernel) (hO.1.2.2.2.2 _ tw_6_130) (hO.1.2.2.2.2 _ tw_1_27) (hO.2.2.2.1.2.2.2.1 _ hq) hat hz_wN_3 hx.2.2.2.1 hx.2.2.2.2.1 hS (hL.1.trans hO.1.2.2.1.symm) d0 d3 d4 d7 d10 (fun x hx => (hxt x hx).elim) ?_ ?_ (Nat.le_refl 1) (Nat.le_refl 6) hO.2.2.1 (fun t hal hsz hq => hz_xend hO (by decide) hW hS t hal hsz hq) hS.2.2 (Nat.le_refl 1) (Nat.le_refl 6)
  · show 1 + 4 < h; omega
  · show _ + (13 * (1 + 2) + 43) ≤ 60 * h; omega
end HZ10
