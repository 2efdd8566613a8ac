theorem tw_1_28 : (Jvm.Cond.classLink "HotStepsLaw" (8 : Nat) "HotSteps") ∈ hz_TB := hz_tb (hz_t1 _ (List.mem_of_getElem? (i := 28) rfl)) rfl
theorem tw_1_29 : (Jvm.Cond.instantiable "HotSteps" (10 : Nat)) ∈ hz_TB := hz_tb (hz_t1 _ (List.mem_of_getElem? (i := 29) rfl)) rfl
theorem tw_1_30 : (Jvm.Cond.methodLink "HotStepsLaw" (97 : Nat) ({ cls := "HotSteps", name := "<init>", desc := "()V" } : Jvm.MethodName)) ∈ hz_TB := hz_tb (hz_t1 _ (List.mem_of_getElem? (i := 30) rfl)) rfl
theorem tw_6_146 : (Jvm.Cond.classLink "HotStepsLaw" (98 : Nat) "HotStepsModel") ∈ hz_TB := hz_tb (hz_t6 _ (List.mem_of_getElem? (i := 146) rfl)) rfl
theorem tw_6_147 : (Jvm.Cond.instantiable "HotStepsModel" (28 : Nat)) ∈ hz_TB := hz_tb (hz_t6 _ (List.mem_of_getElem? (i := 147) rfl)) rfl
theorem tw_6_148 : (Jvm.Cond.methodLink "HotStepsLaw" (100 : Nat) ({ cls := "HotStepsModel", name := "<init>", desc := "()V" } : Jvm.MethodName)) ∈ hz_TB := hz_tb (hz_t6 _ (List.mem_of_getElem? (i := 148) rfl)) rfl
theorem tw_9_69 : (Jvm.Cond.arrayClass Jvm.ClassFile.FieldType.long) ∈ hz_TB := hz_tb (hz_t9 _ (List.mem_of_getElem? (i := 69) rfl)) rfl
/-! THE CLAIM OUT OF ONE WALK OF THE LAW'S BODY. Your part is whole_start (and what it stands on); all else here is the same for every law, but numbers. -/
def R_law : String := "HotStepsLaw"
def lw_P (b : Addr) (xs : List Int32) (args : Array Value) (s : State) : Prop := args = #[.ref b] ∧ s.IntsAt b xs ∧ xs.length ≤ 3072 ∧ (Jvm.Cond.and given_1 narrow_1).before args s = true
/-- what a walk over the start with the record d0 says of its end, said of the start itself -/
theorem lw_closed {s t : State} {o : Outcome} {d0 : Drawn} {L : List Loc} {k n : Nat} (hd0 : s.drawn.sameBut d0 lw_cs) (hv : ∃ v, o = .returned v) (hW : (s.setDrawn d0).WarmedH t.vm) (hs : (s.setDrawn d0).sameButNew ({ t with vm := s.vm } : State) L k n) : State.butDraws s t lw_cs (fun t1 => Framed s o t1 L k n) := by
  have h2 : t.drawn = d0 := congrArg State.drawn hs.1
  refine ⟨⟨hv, hW, State.sameButNew.setDrawn hs s.drawn⟩, ?_, by decide⟩
  rw [h2]
  exact hd0
def lw_Q (_ : Array Value) (s : State) (o : Outcome) (t : State) : Prop := o = .returned (some (.int 1)) ∧ State.butDraws s t lw_cs (fun t1 => Framed s o t1 [] 601024 7293034)
def lw_Z (below : List Frame) (a : Array Value) (s : State) : State → Prop := fun t => ∃ o, t.status = .running ∧ Ended t below o ∧ lw_Q a s o t
/-- the law's own end, with 1 on the stack, nothing written that was there before, its room as the claim has it; d0: the record of draws at this point (at the entry s.drawn: begin with 'refine W.base ?_' and 'have hd0 := Drawn.sameBut.refl s.drawn lw_cs') -/
theorem lw_ret {p : Program} {l : Launch} {e : Env} {s : State} {m : MethodId} {below : List Frame} {meth : Method} {c : Code} {b : Nat} {d0 : Drawn} (hd0 : s.drawn.sameBut d0 lw_cs) (hx : p.tables.exec = Jvm.exec) (hb : c.code = code) (hr : meth.sig.returnType = ret) (hlocks : meth.locks = false) {pc : Nat} {H : Heap} {ls : Array Slot} (hdg : decode code pc = .ok (.ireturn, 1)) : W p l e room_1 (s.setDrawn d0) m #[Value.ref b] below meth c H [] 601024 7293034 (lw_Z below #[Value.ref b] s) (F0 m pc ls [.int 1]) := by
  intro T hT X
  obtain ⟨fs, hret, hrun, hended, hW, hframe⟩ := X.leave (v := some (.int 1)) (hlocks := hlocks) (fun h => by rw [hr] at h; cases h)
  have hmeth' : T.vm.method? m = some meth := X.method'
  refine ⟨T.setFrames fs, ?_, .returned (some (.int 1)), hrun, hended, rfl, lw_closed hd0 ⟨_, rfl⟩ hW hframe⟩
  jvm_step X.here [X.here.top, hx, hb, hdg, hmeth', hr, ret, narrow_b1]
  (try refine ⟨rfl, ?_⟩); (try refine ⟨rfl, ?_⟩)
  first | (intro acts; rw [hret _ acts rfl rfl rfl]) | rw [hret _ _ rfl rfl rfl]
  exact Steps.refl _
/-- what holds at the law's entry: the machine, the code, the tables' words (any of lw_tbl by 'hts w (by decide +kernel)'), the script of L ints xs at the cell b, what the Statement gives of the start (any of its parts by flat_of_before) -/
def lw_At (p : Program) (s : State) (m : MethodId) (meth : Method) (c : Code) (b L : Nat) (xs : Nat → Int32) : Prop :=
  p.tables.exec = Jvm.exec ∧ c.code = code ∧ meth.sig.returnType = ret ∧ c.maxLocals = 9 ∧ s.vm.findClass R_law = some m.cls ∧ (∀ w ∈ lw_tbl, w.before #[Value.ref b] s = true) ∧ va_X b L xs s s.heap ∧ b < s.heap.size ∧ meth.locks = false ∧ (Jvm.Cond.and given_1 narrow_1).before #[Value.ref b] s = true
section HZS
variable {p : Program} {l : Launch} {e : Env} {h : Nat} {z : hz_Z} {s : State} {m : MethodId} {args : Array Value} {below : List Frame} {meth : Method} {c : Code} {w : hz_C} {N nL : Nat} {Q : State → Prop} {L0 S : List va_E} {pc : Nat} {ls : List (Nat × Value)} {st : List Value} {cc : ByteArray} {own : String} {ret : Option FieldType} {M : hz_M}
theorem hz_wl_len {w : hz_C} {N : Nat} {M : hz_M} (h : (hz_SH.take N).length = N) : (hz_wl w N M).length = N := by rw [hz_wl, List.length_mapIdx, h]
/-- a constructor that leaves a whole world -/
theorem hz_b_callG (hO : hz_Ok p s m args meth c w cc nL own ret) {idx n nLy hc mc ms x : Nat} {C : String} {y : MethodName} {b : ByteArray} {as rest : List Value} {M1 : hz_M} (hC : hz_CI l y b nLy hc mc ms w (.ref x :: as) (L0 ++ S) (hz_Qv w N M1)) (hcal : hz_CalI C y b nLy n) (hlink : Cond.methodLink own idx y ∈ hz_TB) (hh : hc + 1 ≤ h) (hn : as.length = n) (hst : st = as.reverse ++ .ref x :: rest) (hcat : (rest.map fun v => v.category).sum ≤ 8) (hz1 : z.2.1 + mc ≤ z.1.1 ∧ z.2.2 + ms ≤ z.1.2) (hdg : decode cc pc = .ok (.invokespecial idx, 3))
    (kk : hz_G p l e h (hz_zn z mc ms) s m args below meth c w N nL Q M1 (pc + 3) ls rest) : hz_B p l e h z s m args below meth c w nL Q L0 S pc ls st := by
  intro hzk H locs la hW hS hL
  have hts := hO.1.2.2.2.2
  have cw : CallB (hz_rm h z) s args own idx y b nLy none (Cond.code y b nLy none :: hz_TB) (hz_rm hc ((mc, ms), (0, 0))) mc ms n ∧ y.name = "<init>" ∧ (Cond.instanceMethod y).before args s = true := by
    refine ⟨callB_of n hts (hz_goodC hcal.1.1) rfl rfl rfl ?_ (hts _ hlink) hcal.1.2.2.1.2 (hz_b_fit hh hcal.1.2.2.2), hcal.2.2, hts _ hcal.2.1⟩
    rw [hcal.1.2.2.1.1]
    exact hts _ hcal.1.2.1
  refine va_callv (va_runI (As := as) (rest := rest) hO.1 hC cw ⟨hz_B_blind, hz_b_pre hO hW.1 hS⟩ rfl hn hL.1 hst (lv_room hcat) hdg hz1) hS (fun q _ z => z) (fun q z => z) (fun u t H1 locs1 ht hvm hr hB hsz hk1 hS1 => ?_)
  exact kk hz1 H1 locs1 la (hz_back ht hvm hB) hS1 hL
/-- a whole world is a half-built one: nothing lies behind its last place -/
theorem hz_g_toB (hsz : hz_sz w = s.heap.size) (had : ∀ i, hz_ad w i = hz_sz w + i) {N1 : Nat} {sh : hz_S} (hN1 : N = N1 + 1) (hsh : hz_SH[N1]? = some sh) (hlen : (hz_SH.take N).length = N) (hzN : z.2.1 = N) (kk : hz_B p l e h z s m args below meth c w nL Q (hz_wl w N M) [] pc ls st) : hz_G p l e h z s m args below meth c w N nL Q M pc ls st := by
  intro hzk H locs la hW hS hL
  refine hz_szW (fun hup => ?_)
  have hlo : hz_ad w N1 < H.size := vx_lt hW.1 (hz_ws_at (M := M) hsh (by omega))
  rw [had] at hlo
  have e1 : H.size = s.heap.size + z.2.1 := by omega
  refine kk hzk H locs la ⟨⟨?_, hW.2.1, ?_, ?_, had⟩, e1⟩ hS hL
  · rw [List.append_nil, ← hz_ws_wl]
    exact hW.1
  · rw [List.append_nil, ← hz_ws_wl]
    exact hW.2.2.1
  · rw [List.append_nil, hz_wl_len hlen, e1, hsz, hzN]
theorem hz_b_newl (hO : hz_Ok p s m args meth c w cc nL own ret) {n : Nat} {x : Int32} (harr : Cond.arrayClass .long ∈ hz_TB) (hn : ¬ x < 0) (hN : x.toNatClampNeg = n) (hbytes : n * componentBytes .long ≤ 536870912) (hz1 : z.2.1 + 1 ≤ z.1.1 ∧ z.2.2 + n ≤ z.1.2) (hdg : decode cc pc = .ok (.newarray .long, 2))
    (kk : hz_B p l e h (hz_zn z 1 n) s m args below meth c w nL Q L0 (S ++ [.inl (hz_tc w 4, n, .inr (.inl (fun _ => 0)))]) (pc + 2) ls (.ref (hz_ad w (L0.length + S.length)) :: st)) : hz_B p l e h z s m args below meth c w nL Q L0 S pc ls (.int x :: st) := by
  intro hzk H locs la hWz hS hL
  obtain ⟨hW, hWs⟩ := hWz
  have hlen : H.size = hz_ad w (L0.length + S.length) := by
    rw [hW.2.2.2.1, hW.2.2.2.2, List.length_append]
  refine va_newaK (atype := .long) hO.1.1 hO.1.2.1 (hO.1.2.2.2.2 _ harr) rfl hdg rfl hn hN hbytes hz1.1 hz1.2 hlen fun H1 cA e1 z1 o1 hAr hNm => ?_
  have hc : cA = hz_tc w 4 := by
    have h1 := hO.2.2.2.1.2.2.2.2.2.2.2.2.2.2.2.2.2.2.1 4 (by omega)
    rw [show hz_tn 4 = "[" ++ (FieldType.long).toString from rfl] at h1
    exact Option.some.inj (hNm.symm.trans h1)
  subst hc
  have hk : ∀ (k : Nat) (x : Nat × va_E), (hz_bw w (L0 ++ S))[k]? = some x → H1[x.1]? = H[x.1]? := fun k x hx => o1 x.1 (by rw [← hlen]; exact (hW.1 k x hx).lt)
  refine kk hz1 H1 locs la ⟨⟨?_, hW.2.1, ?_, ?_, hW.2.2.2.2⟩, ?_⟩ ⟨Nat.le_trans hS.1 (by omega), fun x h1 h2 => (o1 x (by rw [← hlen]; exact Nat.lt_of_lt_of_le h1 hS.1)).trans (hS.2.1 x h1 h2), hS.2.2⟩ hL
  · rw [← List.append_assoc, hz_bw_push, List.length_append]
    refine (hW.1.kept hk).app (fun k x hx => ?_)
    have hz : k < 1 := (List.getElem?_eq_some_iff.mp hx).1
    rw [show k = 0 by omega] at hx
    cases hx
    show H1[_]? = some (vp_cell _ _)
    rw [e1]
    rfl
  · rw [← List.append_assoc, hz_bw_push, List.length_append]
    exact hW.2.2.1.push hW.1 hlen.symm (hz_b_in hO _ (by rw [← hlen]; exact hS.1))
  · rw [z1, ← hlen, hW.2.2.2.1]
    simp only [List.length_append, List.length_cons, List.length_nil]
    omega
  · show _ = s.heap.size + (z.2.1 + 1)
    omega
/-- the law's end -/
theorem hz_lret {b : Nat} (hO : hz_Ok p s m #[Value.ref b] meth c w code 9 own (some .boolean)) (hsz : hz_sz w = s.heap.size) (hz9 : z.2.1 ≤ 601024 ∧ z.2.2 ≤ 7293034) (hdg : decode code pc = .ok (.ireturn, 1)) : hz_G p l e h z s m #[Value.ref b] below meth c w N 9 (lw_Z below #[Value.ref b] s) M pc ls [.int 1] := by
  intro hzk H locs la hW hS hL
  refine va_forget (fun q hq => ?_) (W.widen hz9.1 hz9.2 ?_)
  · rw [← hsz]
    exact hS.2.2 q hq
  · intro T hT X
    have hx := hO.1.1
    have hb := hO.1.2.1
    have hr := hO.2.1
    have hlocks := hO.2.2.1
    obtain ⟨fs, hret, hrun, hended, hW9, hframe⟩ := X.leave (v := some (.int 1)) (hlocks := hlocks) (fun h => by rw [hr] at h; cases h)
    have hmeth' : T.vm.method? m = some meth := X.method'
    refine ⟨T.setFrames fs, ?_, .returned (some (.int 1)), hrun, hended, rfl, lw_closed (s := s) (d0 := s.drawn) (Drawn.sameBut.refl s.drawn lw_cs) ⟨_, rfl⟩ hW9 hframe⟩
    jvm_step X.here [X.here.top, hx, hb, hdg, hmeth', hr, narrow_b1]
    (try refine ⟨rfl, ?_⟩); (try refine ⟨rfl, ?_⟩)
    first | (intro acts; rw [hret _ acts rfl rfl rfl]) | rw [hret _ _ rfl rfl rfl]
    exact Steps.refl _
end HZS
def hz_m2 (M : hz_M) : hz_M := fun a b => if a = 193 then 0 else M a b
set_option maxRecDepth 100000 in
theorem hz_m2_wl (w : hz_C) (M : hz_M) : hz_wl w 193 M ++ [.inl (hz_tc w 4, 1, .inr (.inl (fun _ => 0)))] = hz_wl w 194 (hz_m2 M) := by
  have h1 : hz_SH.take 194 = hz_SH.take 193 ++ (hz_SH.drop 193).take 1 := by rw [← List.take_add]
  have h2 : (hz_SH.take 193).length = 193 := by decide +kernel
  have h3 : (hz_SH.take 193).mapIdx (fun i sh => hz_cell w (hz_m2 M i) sh) = hz_wl w 193 M := by
    apply List.ext_getElem?
    intro j
    simp only [hz_wl, List.getElem?_mapIdx]
    by_cases hj : j < 193
    · have e1 : hz_m2 M j = M j := by
        funext b
        simp only [hz_m2]
        rw [if_neg (by omega)]
      rw [e1]
    · rw [List.getElem?_eq_none (by rw [h2]; omega)]
      rfl
  have e0 : hz_m2 M 193 = fun _ => 0 := by
    funext b
    simp [hz_m2]
  have h4 : (hz_SH.drop 193).take 1 = [.inr (.inr (.inr (.inr 1)))] := by decide +kernel
  rw [show hz_wl w 194 (hz_m2 M) = (hz_SH.take 194).mapIdx (fun i sh => hz_cell w (hz_m2 M i) sh) from rfl, h1, List.mapIdx_append, h3, h2, h4]
  refine congrArg (fun z => hz_wl w 193 M ++ z) ?_
  simp only [List.mapIdx_cons, List.mapIdx_nil, Nat.zero_add, e0]
  rfl
def f_loop (xs : Nat → Int32) (L : Nat) : Nat → Nat → hz_M → hz_O
  | 0, _, _ => none
  | t + 1, n, M => if n + 6 ≤ L then hz_ct (fs_case (xs n &&& 63) (xs (n + 1)) (xs (n + 2)) (xs (n + 3)) (xs (n + 4)) (xs (n + 5)) M) fun _ M1 => f_loop xs L t (n + 6) M1 else some (1, M)
theorem hz_lim {n L : Nat} (hL : L ≤ 3072) (hn : n ≤ 4000) : nI L - 6 < nI n ↔ L < n + 6 := by
  rw [Int32.lt_iff_toInt_lt, Int32.toInt_sub, nI_toInt (by omega), nI_toInt (by omega), show (6 : Int32).toInt = 6 from rfl]
  have e : ((L : Int) - 6).bmod (2 ^ 32) = (L : Int) - 6 := by
    apply Int.bmod_eq_of_le <;> omega
  rw [e]
  omega
set_option maxRecDepth 100000 in
set_option maxHeartbeats 4000000 in
theorem g_loop {p : Program} {l : Launch} {e : Env} {s : State} {m : MethodId} {below : List Frame} {meth : Method} {c : Code} {w : hz_C} (hl : l.stackTraces = false) {b L : Nat} {xs : Nat → Int32} (hO : hz_Ok p s m #[Value.ref b] meth c w cL_law 9 "HotStepsLaw" (some .boolean)) (hT : va_T .int b L (fun j => .int (xs j)) (hz_A w) s s.heap) (hL : L ≤ 3072) (hsz : hz_sz w = s.heap.size) : ∀ (t n k sl : Nat) (M ME : hz_M) (rE : Int32), n ≤ L + 6 → k + t ≤ 601024 → sl + 6 * t ≤ 7293034 → f_loop xs L t n M = some (rE, ME) → hz_G p l e 1400 ((601024, 7293034), (k, sl)) s m #[Value.ref b] below meth c w 194 9 (lw_Z below #[Value.ref b] s) M 23 [(4, .int (nI n)), (0, .ref b), (1, .ref (hz_ad w 0)), (2, .ref (hz_ad w 178)), (3, .ref (hz_ad w 193))] [] := by
  intro t
  induction t with
  | zero =>
    intro n k sl M ME rE _ _ _ h
    rw [f_loop] at h
    cases h
  | succ t ih =>
    intro n k sl M ME rE hn hk hs h
    rw [f_loop] at h
    refine hz_iload hO dL_law_23 0 rfl ?_
    refine hz_aload_n hO dL_law_25 rfl 1 rfl ?_
    refine hz_tlen (v := nI L) hO hT rfl dL_law_26 ?_
    refine hz_bipush (v := (6 : Int32)) hO dL_law_27 (by decide) ?_
    refine hz_isub hO dL_law_29 ?_
    by_cases hnL : n + 6 ≤ L
    · rw [if_pos hnL] at h
      obtain ⟨r1, M1, h1, h2⟩ := hz_ct_e h
      refine hz_icmp_gt (tgt := 2164) hO dL_law_30 (by decide) (fun hc => absurd ((hz_lim hL (by omega)).mp hc) (by omega)) (fun _ => ?_)
      refine hz_aload_n hO dL_law_33 rfl 1 rfl ?_
      refine hz_iload hO dL_law_34 0 rfl ?_
      refine hz_scr hO hT hL (n := n) (by omega) dL_law_36 ?_
      refine hz_bipush (v := (63 : Int32)) hO dL_law_37 (by decide) ?_
      refine hz_iand hO dL_law_39 ?_
      refine gs_case hl hO hT hL hnL (z := ((601024, 7293034), (k, sl))) ⟨by show k + 1 ≤ 601024; omega, by show sl + 6 ≤ 7293034; omega⟩ h1 ?_
      refine hz_iinc (k := 0) (v := nI (n + 6)) (ls1 := [(4, .int (nI (n + 6))), (0, .ref b), (1, .ref (hz_ad w 0)), (2, .ref (hz_ad w 178)), (3, .ref (hz_ad w 193))]) hO dL_law_2158 rfl (nI_add n 6) (Nat.le_of_ble_eq_true rfl) rfl ?_
      refine hz_goto (tgt := 23) hO dL_law_2161 (by decide) ?_
      exact ih (n + 6) (k + 1) (sl + 6) M1 ME rE (by omega) (by omega) (by omega) h2
    · refine hz_icmp_gt (tgt := 2164) hO dL_law_30 (by decide) (fun _ => ?_) (fun hc => absurd ((hz_lim hL (by omega)).mpr (by omega)) hc)
      refine hz_iconst (v := (1 : Int32)) hO dL_law_2164 (by decide) ?_
      exact hz_lret hO hsz ⟨by show k ≤ 601024; omega, by show sl ≤ 7293034; omega⟩ dL_law_2165
set_option maxRecDepth 100000 in
set_option maxHeartbeats 4000000 in
theorem hz_law {p : Program} {e : Env} {s : State} {m : MethodId} {below : List Frame} {meth : Method} {c : Code} (l : Launch) (hl : l.stackTraces = false) {b L : Nat} {xs : Nat → Int32} (hL : L ≤ 3072) (C0 : lw_At p s m meth c b L xs) {r0 r1 r2 : Int32} {M0 M1 ME : hz_M} (h0 : f_X10_init (fun _ _ => 0) = some (r0, M0)) (h1 : f_X11_init (hz_m1 M0) = some (r1, M1)) (h2 : f_loop xs L 600 0 (hz_m2 M1) = some (r2, ME)) : W p l e room_1 s m #[Value.ref b] below meth c s.heap [] 0 0 (lw_Z below #[Value.ref b] s) (entryFrame m ([Value.ref b] : List Value).toArray 9) := by
  obtain ⟨hx, hb, hr, hml, hown, hts, hX, hbl, hlocks, hgv⟩ := id C0
  obtain ⟨w, hXw, hK, hsz, had⟩ := hz_entry hts hgv
  have hO : hz_Ok p s m #[Value.ref b] meth c w cL_law 9 "HotStepsLaw" (some .boolean) := ⟨⟨hx, hb, hml, hown, fun q hq => hts q (List.mem_filter.mp hq).1⟩, hr, hlocks, hXw, by rw [hsz]; exact Nat.le_refl _⟩
  have hT : va_T .int b L (fun j => .int (xs j)) (hz_A w) s s.heap := by
    obtain ⟨scr, x1, x2, x3, x4, x5⟩ := hX
    exact ⟨scr, x1, x2, x3, Nat.le_of_eq x4.symm, congrArg Nat.toInt32 x4, x5, fun h => absurd hbl (Nat.not_lt.mpr (by rw [← hsz]; exact h))⟩
  refine hz_Wroom (R1 := hz_rm 1400 ((601024, 7293034), (0, 0))) (by decide) (by decide) (by decide) (by decide) ?_
  rw [lg_entry_eq]
  have hl9 := lv_entry ([.ref b]) (n := 9) (Nat.le_of_ble_eq_true rfl)
  have key : hz_B p l e 1400 ((601024, 7293034), (0, 0)) s m #[Value.ref b] below meth c w 9 (lw_Z below #[Value.ref b] s) [] [] 0 [(0, .ref b)] [] := by
    refine hz_b_new hO hz_K_8 tyX10 tyX10_ok tw_1_28 tw_1_29 tw_1_1 (fs := [.null, .null, .null, .null, .null, .null, .null, .null, .null, .int 0]) (by decide) ⟨(Nat.le_of_ble_eq_true rfl), (Nat.le_of_ble_eq_true rfl)⟩ dL_law_0 ?_
    refine hz_b_S (S1 := [.inr (8, [.null, .null, .null, .null, .null, .null, .null, .null, .null, .int 0])]) rfl ?_
    refine hz_b_st (st1 := [.ref (hz_ad w 0)]) rfl ?_
    refine hz_b_dup hO dL_law_3 rfl ?_
    refine hz_b_callG (as := []) (rest := [.ref (hz_ad w 0)]) hO (c_X10_init l w h0) hz_cal_X10_init tw_1_30 (Nat.le_of_ble_eq_true rfl) rfl rfl (Nat.le_of_ble_eq_true rfl) ⟨(Nat.le_of_ble_eq_true rfl), (Nat.le_of_ble_eq_true rfl)⟩ dL_law_4 ?_
    refine hz_astore_n (ls1 := [(1, .ref (hz_ad w 0)), (0, .ref b)]) hO dL_law_7 rfl (Nat.le_of_ble_eq_true rfl) rfl ?_
    refine hz_g_toB hsz had (N1 := 177) rfl hz_sh_177 (by decide +kernel) rfl ?_
    have e1 : (hz_wl w 178 M0).length = 178 := hz_wl_len (by decide +kernel)
    refine hz_b_new hO hz_K_9 tyX11 tyX11_ok tw_6_146 tw_6_147 tw_1_16 (fs := [.null, .null, .null, .null, .null, .null, .int 0, .int 0, .int 0, .null, .null, .int 0, .int 0, .int 0, .int 0, .int 0, .int 0, .int 0, .null, .null, .null, .null, .int 0, .int 0, .int 0, .null, .null, .int 0]) (by decide) ⟨(Nat.le_of_ble_eq_true rfl), (Nat.le_of_ble_eq_true rfl)⟩ dL_law_8 ?_
    refine hz_b_S (S1 := [.inr (9, [.null, .null, .null, .null, .null, .null, .int 0, .int 0, .int 0, .null, .null, .int 0, .int 0, .int 0, .int 0, .int 0, .int 0, .int 0, .null, .null, .null, .null, .int 0, .int 0, .int 0, .null, .null, .int 0])]) rfl ?_
    refine hz_b_st (st1 := [.ref (hz_ad w (hz_wl w 178 M0).length)]) (by rw [List.length_nil, Nat.add_zero]) ?_
    refine hz_b_dup hO dL_law_11 rfl ?_
    refine hz_b_callG (as := []) (rest := [.ref (hz_ad w (hz_wl w 178 M0).length)]) hO (c_X11_init l w h1 (hz_wl w 178 M0) rfl e1) hz_cal_X11_init tw_6_148 (Nat.le_of_ble_eq_true rfl) rfl rfl (Nat.le_of_ble_eq_true rfl) ⟨(Nat.le_of_ble_eq_true rfl), (Nat.le_of_ble_eq_true rfl)⟩ dL_law_12 ?_
    rw [e1]
    refine hz_astore_n (ls1 := [(2, .ref (hz_ad w 178)), (1, .ref (hz_ad w 0)), (0, .ref b)]) hO dL_law_15 rfl (Nat.le_of_ble_eq_true rfl) rfl ?_
    refine hz_iconst (v := (1 : Int32)) hO dL_law_16 (by decide) ?_
    refine hz_g_toB hsz had (N1 := 192) rfl hz_sh_192 (by decide +kernel) rfl ?_
    have e2 : (hz_wl w 193 M1).length = 193 := hz_wl_len (by decide +kernel)
    refine hz_b_newl (n := 1) hO tw_9_69 (by decide) (by decide) (Nat.le_of_ble_eq_true rfl) ⟨(Nat.le_of_ble_eq_true rfl), (Nat.le_of_ble_eq_true rfl)⟩ dL_law_17 ?_
    refine hz_b_st (st1 := [.ref (hz_ad w 193)]) (by rw [e2, List.length_nil, Nat.add_zero]) ?_
    refine hz_b_z (z1 := ((601024, 7293034), (194, 7144))) rfl ?_
    refine hz_b_toG (N := 194) (M := hz_m2 M1) (hz_m2_wl w M1) ?_
    refine hz_astore_n (ls1 := [(3, .ref (hz_ad w 193)), (2, .ref (hz_ad w 178)), (1, .ref (hz_ad w 0)), (0, .ref b)]) hO dL_law_19 rfl (Nat.le_of_ble_eq_true rfl) rfl ?_
    refine hz_iconst (v := (0 : Int32)) hO dL_law_20 (by decide) ?_
    refine hz_istore (ls1 := [(4, .int 0), (3, .ref (hz_ad w 193)), (2, .ref (hz_ad w 178)), (1, .ref (hz_ad w 0)), (0, .ref b)]) hO dL_law_21 (Nat.le_of_ble_eq_true rfl) rfl ?_
    refine hz_ls (ls1 := [(4, .int (nI 0)), (0, .ref b), (1, .ref (hz_ad w 0)), (2, .ref (hz_ad w 178)), (3, .ref (hz_ad w 193))]) [0, 4, 3, 2, 1] rfl ?_
    exact g_loop hl hO hT hL hsz 600 0 194 7144 _ _ _ (by omega) (by omega) (by omega) h2
  exact key ⟨Nat.zero_le _, Nat.zero_le _⟩ s.heap [] _ ⟨⟨(fun k q h => by simp [hz_bw] at h), hK, ⟨(fun i j p q h => by simp [hz_bw] at h), (fun k q h => by simp [hz_bw] at h)⟩, (by rw [hsz]; rfl), had⟩, rfl⟩ va_S.rf hl9
