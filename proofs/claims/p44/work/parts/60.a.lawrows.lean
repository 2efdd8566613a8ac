/-! THE CLAIM OUT OF ONE WALK OF THE LAW'S BODY. Your part is whole_start (and what it stands on); all else here is the same for every law, but numbers. -/
def R_law : String := "HotStepsLaw"
def lw_P (b : Addr) (xs : List Int32) (args : Array Value) (s : State) : Prop := args = #[.ref b] ∧ s.IntsAt b xs ∧ xs.length ≤ 260 ∧ (Jvm.Cond.and given_1 narrow_1).before args s = true
/-- what a walk over the start with the record d0 says of its end, said of the start itself -/
theorem lw_closed {s t : State} {o : Outcome} {d0 : Drawn} {L : List Loc} {k n : Nat} (hd0 : s.drawn.sameBut d0 lw_cs) (hv : ∃ v, o = .returned v) (hW : (s.setDrawn d0).WarmedH t.vm) (hs : (s.setDrawn d0).sameButNew ({ t with vm := s.vm } : State) L k n) : State.butDraws s t lw_cs (fun t1 => Framed s o t1 L k n) := by
  have h2 : t.drawn = d0 := congrArg State.drawn hs.1
  refine ⟨⟨hv, hW, State.sameButNew.setDrawn hs s.drawn⟩, ?_, by decide⟩
  rw [h2]
  exact hd0
def lw_Q (_ : Array Value) (s : State) (o : Outcome) (t : State) : Prop := o = .returned (some (.int 1)) ∧ State.butDraws s t lw_cs (fun t1 => Framed s o t1 [] 600086 7301442)
def lw_Z (below : List Frame) (a : Array Value) (s : State) : State → Prop := fun t => ∃ o, t.status = .running ∧ Ended t below o ∧ lw_Q a s o t
/-- the law's own end, with 1 on the stack, nothing written that was there before, its room as the claim has it; d0: the record of draws at this point (at the entry s.drawn: begin with 'refine W.base ?_' and 'have hd0 := Drawn.sameBut.refl s.drawn lw_cs') -/
theorem lw_ret {p : Program} {l : Launch} {e : Env} {s : State} {m : MethodId} {below : List Frame} {meth : Method} {c : Code} {b : Nat} {d0 : Drawn} (hd0 : s.drawn.sameBut d0 lw_cs) (hx : p.tables.exec = Jvm.exec) (hb : c.code = code) (hr : meth.sig.returnType = ret) (hlocks : meth.locks = false) {pc : Nat} {H : Heap} {ls : Array Slot} (hdg : decode code pc = .ok (.ireturn, 1)) : W p l e room_1 (s.setDrawn d0) m #[Value.ref b] below meth c H [] 600086 7301442 (lw_Z below #[Value.ref b] s) (F0 m pc ls [.int 1]) := by
  intro T hT X
  obtain ⟨fs, hret, hrun, hended, hW, hframe⟩ := X.leave (v := some (.int 1)) (hlocks := hlocks) (fun h => by rw [hr] at h; cases h)
  have hmeth' : T.vm.method? m = some meth := X.method'
  refine ⟨T.setFrames fs, ?_, .returned (some (.int 1)), hrun, hended, rfl, lw_closed hd0 ⟨_, rfl⟩ hW hframe⟩
  jvm_step X.here [X.here.top, hx, hb, hdg, hmeth', hr, ret, narrow_b1]
  (try refine ⟨rfl, ?_⟩); (try refine ⟨rfl, ?_⟩)
  first | (intro acts; rw [hret _ acts rfl rfl rfl]) | rw [hret _ _ rfl rfl rfl]
  exact Steps.refl _
/-- what holds at the law's entry: the machine, the code, the tables' words (any of lw_tbl by 'hts w (by decide +kernel)'), the script of L ints xs at the cell b, what the Statement gives of the start (any of its parts by flat_of_before) -/
def lw_At (p : Program) (s : State) (m : MethodId) (meth : Method) (c : Code) (b L : Nat) (xs : Nat → Int32) : Prop :=
  p.tables.exec = Jvm.exec ∧ c.code = code ∧ meth.sig.returnType = ret ∧ c.maxLocals = 10 ∧ s.vm.findClass R_law = some m.cls ∧ (∀ w ∈ lw_tbl, w.before #[Value.ref b] s = true) ∧ va_X b L xs s s.heap ∧ b < s.heap.size ∧ meth.locks = false ∧ (Jvm.Cond.and given_1 narrow_1).before #[Value.ref b] s = true
section HZL
variable {p : Program} {l : Launch} {e : Env} {h : Nat} {z : hz_Z} {s : State} {m : MethodId} {args : Array Value} {below : List Frame} {meth : Method} {c : Code} {w : hz_C} {N nL : Nat} {Q : State → Prop} {L0 S : List va_E} {pc : Nat} {ls : List (Nat × Value)} {st : List Value} {cc : ByteArray} {own : String} {ret : Option FieldType} {M : hz_M}
theorem hz_b_callG (hO : hz_Ok p s m args meth c w cc nL own ret) {idx n nLy hc mc ms x : Nat} {C : String} {y : MethodName} {b : ByteArray} {as rest : List Value} {M1 : hz_M} (hC : hz_CI l y b nLy hc mc ms w (.ref x :: as) (L0 ++ S) (hz_Qv w N M1)) (hcal : hz_CalI C y b nLy n) (hlink : Cond.methodLink own idx y ∈ hz_TB) (hh : hc + 1 ≤ h) (hn : as.length = n) (hst : st = as.reverse ++ .ref x :: rest) (hcat : (rest.map fun v => v.category).sum ≤ 8) (hz1 : z.2.1 + mc ≤ z.1.1 ∧ z.2.2 + ms ≤ z.1.2) (hdg : decode cc pc = .ok (.invokespecial idx, 3))
    (kk : hz_G p l e h (hz_zn z mc ms) s m args below meth c w N nL Q M1 (pc + 3) ls rest) : hz_B p l e h z s m args below meth c w nL Q L0 S pc ls st := by
  intro hzk H locs la hW hS hL
  have hts := hO.1.2.2.2.2
  have cw : CallB (hz_rm h z) s args own idx y b nLy none (Cond.code y b nLy none :: hz_TB) (hz_rm hc ((mc, ms), (0, 0))) mc ms n ∧ y.name = "<init>" ∧ (Cond.instanceMethod y).before args s = true := by
    refine ⟨callB_of n hts (hz_goodC hcal.1.1) rfl rfl rfl ?_ (hts _ hlink) hcal.1.2.2.1.2 (hz_b_fit hh hcal.1.2.2.2), hcal.2.2, hts _ hcal.2.1⟩
    rw [hcal.1.2.2.1.1]
    exact hts _ hcal.1.2.1
  refine va_callv (va_runI (As := as) (rest := rest) hO.1 hC cw ⟨hz_B_blind, hz_b_pre hO hW.1 hS⟩ rfl hn hL.1 hst (lv_room hcat) hdg hz1) hS (fun q _ z => z) (fun q z => z) (fun u t H1 locs1 ht hvm hr hB hsz hk1 hS1 => ?_)
  exact kk hz1 H1 locs1 la (hz_back ht hvm hB) hS1 hL
/-- a whole world, nothing lying behind its last place -/
theorem hz_g_toB (had : ∀ i, hz_ad w i = s.heap.size + i) {N1 : Nat} {sh : hz_S} (hN1 : N = N1 + 1) (hsh : hz_SH[N1]? = some sh) (hN9 : N ≤ 767) (hzN : z.2.1 = N) (kk : hz_B p l e h z s m args below meth c w nL Q (hz_wl w N M) [] pc ls st) : hz_G p l e h z s m args below meth c w N nL Q M pc ls st := by
  intro hzk H locs la hW hS hL
  refine hz_szW (fun hup => ?_)
  have hlo : hz_ad w N1 < H.size := vx_lt hW.1 (hz_ws_at (M := M) hsh (by omega))
  rw [had] at hlo
  have e1 : H.size = s.heap.size + z.2.1 := by omega
  refine kk hzk H locs la ⟨?_, e1⟩ hS hL
  rw [List.append_nil]
  refine hz_al_B hN9 hW (fun i => ?_)
  rw [had, e1, hzN]
  omega
theorem hz_h_toB (hN9 : N ≤ 767) (kk : hz_B p l e h z s m args below meth c w nL Q (hz_wl w N M) [] pc ls st) : hz_H p l e h z s m args below meth c w N nL Q M pc ls st := by
  intro hzk H locs la hW hS hL
  refine kk hzk H locs la ⟨?_, hW.2.1⟩ hS hL
  rw [List.append_nil]
  exact hz_al_B hN9 hW.1 hW.2.2
theorem hz_b_toH (hN9 : N ≤ 767) (hLS : L0 ++ S = hz_wl w N M) (kk : hz_H p l e h z s m args below meth c w N nL Q M pc ls st) : hz_B p l e h z s m args below meth c w nL Q L0 S pc ls st := by
  intro hzk H locs la hW hS hL2
  have hn := hW.1.2.2.2.2
  rw [hLS, hz_wl_len hN9] at hn
  refine kk hzk H locs la ⟨⟨?_, hW.1.2.1, ?_, hW.1.2.2.2.1⟩, hW.2, hn⟩ hS hL2
  · rw [hz_ws_wl, ← hLS]
    exact hW.1.1
  · rw [hz_ws_wl, ← hLS]
    exact hW.1.2.2.1
theorem hz_b_newq6 (hO : hz_Ok p s m args meth c w cc nL own ret) {C : String} {t n idx : Nat} {x : Int32} (ht : t < 6) (hnm : "[" ++ (FieldType.object C).toString = hz_tn t) (hao : va_AO C s) (hcl : Cond.classLink own idx C ∈ hz_TB) (hn : ¬ x < 0) (hN : x.toNatClampNeg = n) (hbytes : n * 4 ≤ 536870912) (hz1 : z.2.1 + 1 ≤ z.1.1 ∧ z.2.2 + n ≤ z.1.2) (hdg : decode cc pc = .ok (.anewarray idx, 3))
    (kk : hz_B p l e h (hz_zn z 1 n) s m args below meth c w nL Q L0 (S ++ [.inl (hz_tc w t, n, .inr (.inr (.inr (.inr (fun _ => none)))))]) (pc + 3) ls (.ref (hz_ad w (L0.length + S.length)) :: st)) : hz_B p l e h z s m args below meth c w nL Q L0 S pc ls (.int x :: st) := by
  subst hN
  intro hzk H locs la hWz hS hL
  obtain ⟨hW, hWs⟩ := hWz
  have hlen : H.size = hz_ad w (L0.length + S.length) := by
    have h0 := hW.2.2.2.2 0
    rw [List.length_append] at h0
    simpa using h0.symm
  refine W.anew hO.1.1 hO.1.2.1 hO.1.2.2.2.1 (hO.1.2.2.2.2 _ hcl) (va_AO.use hao) rfl hdg rfl hn hbytes hz1.1 hz1.2 fun cA kA comp f1 f2 f3 f4 => ?_
  generalize hH1 : H.push ({ cls := cA, slots := Array.replicate x.toNatClampNeg .null, vm := .none } : Cell) = H1
  have z1 : H1.size = H.size + 1 := by rw [← hH1, Array.size_push]
  have e1 : H1[H.size]? = some (arrV cA x.toNatClampNeg (fun _ => .null)) := by rw [← hH1, Array.getElem?_push_size, ← arrV_new]
  have o1 : ∀ q : Nat, q < H.size → H1[q]? = H[q]? := fun q hq => by rw [← hH1, Array.getElem?_push, if_neg (Nat.ne_of_lt hq)]
  have hc : cA = hz_tc w t := by
    have h1 := hO.2.2.2.1.2.2.2.2.2.2.2.2.2.1 t (by omega)
    rw [← hnm, f1] at h1
    exact Option.some.inj h1
  subst hc
  have hk : ∀ (k : Nat) (x : Nat × va_E), (hz_bw w (L0 ++ S))[k]? = some x → H1[x.1]? = H[x.1]? := fun k x hx => o1 x.1 (hW.1 k x hx).lt
  rw [hlen]
  refine kk hz1 H1 locs la ⟨⟨?_, hW.2.1, ?_, hW.2.2.2.1.le (by omega), hz_next hW.2.2.2.2 (by omega)⟩, ?_⟩ ⟨Nat.le_trans hS.1 (by omega), fun x h1 h2 => (o1 x (Nat.lt_of_lt_of_le h1 hS.1)).trans (hS.2.1 x h1 h2), hS.2.2⟩ hL
  · rw [← List.append_assoc, hz_bw_push, List.length_append]
    refine (hW.1.kept hk).app (fun k x hx => ?_)
    have hz : k < 1 := (List.getElem?_eq_some_iff.mp hx).1
    rw [show k = 0 by omega] at hx
    cases hx
    show H1[_]? = some (vp_cell _ _)
    rw [← hlen, e1]
    rfl
  · rw [← List.append_assoc, hz_bw_push, List.length_append]
    exact hW.2.2.1.push hW.1 hlen.symm (hz_b_in hO _ (by rw [← hlen]; exact hS.1))
  · show _ = s.heap.size + (z.2.1 + 1)
    omega
/-- a static member that makes cells of its own -/
theorem hz_callSiM (hO : hz_Ok p s m args meth c w cc nL own ret) {idx n nLy hc mc ms : Nat} {y : MethodName} {b : ByteArray} {rt : Option FieldType} {as rest : List Value} {r : Int32} {M1 : hz_M} (hC : Met l y (Cond.code y b nLy rt :: hz_TB) (hz_rm hc ((mc, ms), (0, 0))) (hz_Pre w N as M) (hz_Qi w N r M1) mc ms (hz_A w)) (hcal : hz_CalS "HotStepsLaw" y b nLy rt n) (hlink : Cond.methodLink own idx y ∈ hz_TB) (hh : hc + 1 ≤ h) (hn : as.length = n) (hst : st = as.reverse ++ rest) (hcat : (rest.map fun v => v.category).sum ≤ 8) (hz1 : z.2.1 + mc ≤ z.1.1 ∧ z.2.2 + ms ≤ z.1.2) (hdg : decode cc pc = .ok (.invokestatic idx, 3))
    (kk : hz_G p l e h (hz_zn z mc ms) s m args below meth c w N nL Q M1 (pc + 3) ls (.int r :: rest)) : hz_G p l e h z s m args below meth c w N nL Q M pc ls st := by
  intro hzk H locs la hW hS hL
  have hts := hO.1.2.2.2.2
  have cw : CallB (hz_rm h z) s args own idx y b nLy rt (Cond.code y b nLy rt :: hz_TB) (hz_rm hc ((mc, ms), (0, 0))) mc ms n ∧ (Cond.static y).before args s = true := by
    refine ⟨callB_of n hts (hz_goodC hcal.1.1) rfl rfl rfl ?_ (hts _ hlink) hcal.1.2.2.1.2 (hz_b_fit hh hcal.1.2.2.2), hts _ hcal.2⟩
    rw [hcal.1.2.2.1.1]
    exact hts _ hcal.1.2.1
  refine va_calli (va_runS (As := as) (rest := rest) hO.1 hC cw ⟨hz_blind, hz_pre hO hW hS⟩ rfl hn hL.1 hst (lv_room hcat) hdg hz1) hS (fun q _ z => z) (fun q z => z) (fun r1 u t H1 locs1 ht hvm hr hB hsz hk1 hS1 => ?_)
  subst hr
  exact kk hz1 H1 locs1 la (hz_back ht hvm hB) hS1 hL
theorem hz_h_fore (hO : hz_Ok p s m args meth c w cc nL own ret) {idx n nLy hc mc ms d : Nat} {y : MethodName} {b : ByteArray} {rt : Option FieldType} {as rest : List Value} {r : Int32} {M1 : hz_M} {sh : hz_S} (hmc : mc = d + 1) (hlast : hz_SH[N + d]? = some sh) (hC : hz_CtA l y b nLy rt hc mc ms w N as M (hz_Qi w (N + mc) r M1)) (hcal : hz_CalS "HotStepsLaw" y b nLy rt n) (hlink : Cond.methodLink own idx y ∈ hz_TB) (hh : hc + 1 ≤ h) (hn : as.length = n) (hst : st = as.reverse ++ rest) (hcat : (rest.map fun v => v.category).sum ≤ 8) (hz1 : z.2.1 + mc ≤ z.1.1 ∧ z.2.2 + ms ≤ z.1.2) (hdg : decode cc pc = .ok (.invokestatic idx, 3))
    (kk : hz_H p l e h (hz_zn z mc ms) s m args below meth c w (N + mc) nL Q M1 (pc + 3) ls (.int r :: rest)) : hz_H p l e h z s m args below meth c w N nL Q M pc ls st := by
  subst hmc
  intro hzk H locs la hW hS hL
  have hts := hO.1.2.2.2.2
  have cw : CallB (hz_rm h z) s args own idx y b nLy rt (Cond.code y b nLy rt :: hz_TB) (hz_rm hc ((d + 1, ms), (0, 0))) (d + 1) ms n ∧ (Cond.static y).before args s = true := by
    refine ⟨callB_of n hts (hz_goodC hcal.1.1) rfl rfl rfl ?_ (hts _ hlink) hcal.1.2.2.1.2 (hz_b_fit hh hcal.1.2.2.2), hts _ hcal.2⟩
    rw [hcal.1.2.2.1.1]
    exact hts _ hcal.1.2.1
  refine va_calli (va_runS (As := as) (rest := rest) hO.1 hC cw ⟨hz_A_blind, hz_A_pre hO hW.1 hW.2.2 hS⟩ rfl hn hL.1 hst (lv_room hcat) hdg hz1) hS (fun q _ z => z) (fun q z => z) (fun r1 u t H1 locs1 ht hvm hr hB hsz hk1 hS1 => ?_)
  subst hr
  refine hz_szW (fun hup => ?_)
  have hWb := hz_back ht hvm hB
  have hlo : hz_ad w (N + d) < H1.size := vx_lt hWb.1 (hz_ws_at (M := M1) hlast (by omega))
  have e1 : H1.size = H.size + (d + 1) := by
    have h1 := hW.2.1
    have h2 := hW.2.2 d
    omega
  refine kk hz1 H1 locs1 la ⟨hWb, ?_, ?_⟩ hS1 hL
  · show H1.size = s.heap.size + (z.2.1 + (d + 1))
    have h1 := hW.2.1
    omega
  · intro i
    have h1 := hW.2.2 (d + 1 + i)
    rw [← Nat.add_assoc] at h1
    rw [h1, e1]
    omega
/-- the past: bathhouses by their places' numbers -/
theorem hz_h_past (hO : hz_Ok p s m args meth c w cc nL own ret) {x : Int32} {q : Nat} (hN : 190 < N) (hN9 : N ≤ 767) (hB : hz_Own N q) (hin : hz_in x 40 = true) (hdg : decode cc pc = .ok (.aastore, 1))
    (kk : hz_H p l e h z s m args below meth c w N nL Q (hz_set M 190 x.toNatClampNeg (nI (q + 1))) (pc + 1) ls st) : hz_H p l e h z s m args below meth c w N nL Q M pc ls (.ref (hz_ad w q) :: .int x :: .ref (hz_ad w 190) :: st) := by
  intro hzk H locs la hW hS hL
  have hq : q < 767 := Nat.lt_of_lt_of_le hB.2.1 hN9
  have hsh : hz_SH[190]? = some (.inr (.inr (.inr (.inr 40)))) := hz_sh_190
  have ez : hz_eo (nI (q + 1)) = some q := by
    unfold hz_eo
    rw [if_neg (nI_ne0 (by omega) (by omega)), nI_clamp (by omega), Nat.add_sub_cancel]
  have e : hz_ws w N (hz_set M 190 x.toNatClampNeg (nI (q + 1))) = (hz_ws w N M).set 190 (hz_ad w 190, .inl (hz_tc w 4, 40, .inr (.inr (.inr (.inr (va_up (fun j => (hz_eo (M 190 j)).map (hz_ad w)) x.toNatClampNeg (some (hz_ad w q)))))))) := by
    rw [hz_ws_set (M := M) hsh hz_set_off, hz_set_row]
    have e3 : (fun j => (hz_eo ((upd (M 190) x.toNatClampNeg (nI (q + 1))) j)).map (hz_ad w)) = va_up (fun j => (hz_eo (M 190 j)).map (hz_ad w)) x.toNatClampNeg (some (hz_ad w q)) := by
      funext j
      by_cases hj : j = x.toNatClampNeg
      · simp [upd, va_up, hj, ez]
      · simp [upd, va_up, hj]
    show _ = (hz_ws w N M).set 190 _
    rw [← e3]
    rfl
  obtain ⟨cell, g1, g2, g3⟩ := va_recv hW.1.2.1 hW.1.1 (ci := 11) (q0 := q) hz_K_11.1 (hz_ws_at hB.1 hB.2.1)
  obtain ⟨kC, hkC, -⟩ := Vm.findClass_spec g3
  have hat : (hz_ws w N M)[190]? = some (hz_ad w 190, .inl (hz_tc w 4, 40, .inr (.inr (.inr (.inr (fun j => (hz_eo (M 190 j)).map (hz_ad w))))))) := hz_ws_at hsh hN
  have hcl0 : H[hz_ad w 190]? = some (vp_cell (hz_tc w 4) (40, .inr (.inr (.inr (.inr (fun j => (hz_eo (M 190 j)).map (hz_ad w))))))) := hW.1.1 190 _ hat
  have hcl : H[hz_ad w 190]? = some (arrV (hz_tc w 4) 40 (fun j => va_rf ((hz_eo (M 190 j)).map (hz_ad w)))) := by
    rw [hcl0, vp_cell_q]
  obtain ⟨kA, comp, k1, k2, k3, -⟩ := (hW.1.2.1.2 4 _ rfl).2
  obtain ⟨kE, hkE, -⟩ := Vm.findClass_spec k3
  have hi := hz_in_e hin
  have hlt : x.toNatClampNeg < 40 := Nat.not_le.mp fun q => hi (Or.inr q)
  refine W.aast hO.1.1 hO.1.2.1 hcl (fun q h => by cases h) (fun h => by cases h) k1 k2 rfl hkE ⟨fun q => hi (Or.inl q), by rw [arrV_size]; exact hlt⟩ g1 (fun q h => by rw [h] at g2; cases g2) hkC (vb_asgS comp _ k3 g3) rfl rfl hdg fun H1 e1 z1 oq => ?_
  have hP : va_P (hz_D w) vwCl (hz_ws w N (hz_set M 190 x.toNatClampNeg (nI (q + 1)))) H1 := by
    rw [e]
    refine hW.1.1.set hW.1.2.2.1 hat ?_ oq
    show H1[_]? = some (vp_cell _ _)
    rw [e1, vp_cell_q, arrV_store]
    congr 2
    funext q1
    by_cases hq1 : q1 = x.toNatClampNeg
    · subst hq1
      simp [updV, va_up, va_rf]
    · simp [updV, va_up, hq1]
  refine kk hzk H1 _ la ⟨⟨hP, hW.1.2.1, ?_, hW.1.2.2.2.le (by omega)⟩, by rw [z1]; exact hW.2.1, by rw [z1]; exact hW.2.2⟩ (hS.put z1 oq (hW.1.2.2.1.2 190 _ hat)) hL
  rw [e]
  exact hW.1.2.2.1.set hat
def hz_pl (x : Int32) : Nat := x.toNatClampNeg - 1
def hz_bo (x : Int32) : Bool := !(x == 0) && (hz_pl x == 178 || (decide (191 ≤ hz_pl x) && decide (hz_pl x < 767) && (hz_pl x - 191) % 12 == 0))
theorem hz_own_n {N b : Nat} (j : Nat) (hj : j < 48) (hb : b = 191 + 12 * j) (h : b + 12 ≤ N) : hz_Own N b := by
  subst hb
  exact hz_own_s hj h
theorem hz_bo_e {x : Int32} (h : hz_bo x = true) : hz_eo x = some (hz_pl x) ∧ hz_Own 767 (hz_pl x) := by
  simp only [hz_bo, Bool.and_eq_true, Bool.or_eq_true, Bool.not_eq_true', beq_eq_false_iff_ne, beq_iff_eq, decide_eq_true_eq, ne_eq] at h
  refine ⟨if_neg h.1, ?_⟩
  rcases h.2 with h2 | h2
  · rw [h2]
    exact hz_own_0 (by decide)
  · exact hz_own_n ((hz_pl x - 191) / 12) (by omega) (by omega) (by omega)
theorem hz_paald (hO : hz_Ok p s m args meth c w cc nL own ret) {x : Int32} (hN : 190 < N) (hin : hz_in x 40 = true) (hv : hz_bo (M 190 x.toNatClampNeg) = true) (hdg : decode cc pc = .ok (.aaload, 1))
    (kk : hz_G p l e h z s m args below meth c w N nL Q M (pc + 1) ls (.ref (hz_ad w (hz_pl (M 190 x.toNatClampNeg))) :: st)) : hz_G p l e h z s m args below meth c w N nL Q M pc ls (.int x :: .ref (hz_ad w 190) :: st) := by
  intro hzk H locs la hW hS hL
  have hsh : hz_SH[190]? = some (.inr (.inr (.inr (.inr 40)))) := hz_sh_190
  have h1 := va_aldq (D := hz_D w) hO.1.1 hO.1.2.1 hW.2.1 hW.1 190 4 (hz_ws_at hsh hN) rfl (hz_in_e hin) hdg (p := p) (l := l) (e := e) (R := hz_rm h z) (s := s) (m := m) (args := args) (below := below) (meth := meth) (c := c) (H := H) (locs := locs) (cells := z.2.1) (slots := z.2.2) (Q := Q) (pc := pc) (ls := la) (rest := st)
  refine h1 ?_
  rw [(hz_bo_e hv).1]
  exact kk hzk H locs la hW hS hL
/-- the addresses told anew: what lies behind the last place is next -/
def hz_wA (w : hz_C) (ad : Nat → Nat) : hz_C := (w.1, w.2.1, ad, w.2.2.2)
def hz_rf (n : Nat) : hz_S → Bool
  | .inl o => o.2.all fun f => match f with | none => true | some j => decide (j < n)
  | .inr (.inr (.inl a)) => a.2.all fun j => decide (j < n)
  | .inr (.inr (.inr (.inr _))) => false
  | _ => true
theorem hz_cell_wA {ad : Nat → Nat} {n : Nat} (had : ∀ i, i < n → ad i = hz_ad w i) {sh : hz_S} (h : hz_rf n sh = true) {r : Nat → Int32} : hz_cell (hz_wA w ad) r sh = hz_cell w r sh := by
  match sh, h with
  | .inl (ci, fs), h =>
    have h2 : ∀ f ∈ fs, ∀ k, hz_fv (hz_wA w ad) r k f = hz_fv w r k f := by
      intro f hf k
      cases f with
      | none => rfl
      | some j =>
        have h3 := List.all_eq_true.mp h (some j) hf
        show Value.ref (ad j) = Value.ref (hz_ad w j)
        rw [had j (of_decide_eq_true h3)]
    show (Sum.inr (ci, fs.mapIdx (fun k f => hz_fv (hz_wA w ad) r k f)) : va_E) = Sum.inr (ci, fs.mapIdx (fun k f => hz_fv w r k f))
    congr 2
    apply List.ext_getElem?
    intro k
    simp only [List.getElem?_mapIdx]
    cases hk : fs[k]? with
    | none => rfl
    | some f =>
      exact congrArg some (h2 f (List.mem_of_getElem? hk) k)
  | .inr (.inl a), h => rfl
  | .inr (.inr (.inl (t, is))), h =>
    show (Sum.inl (hz_tc w t, is.length, Sum.inr (Sum.inr (Sum.inr (Sum.inr (fun j : Nat => is[j]?.map ad))))) : va_E) = Sum.inl (hz_tc w t, is.length, Sum.inr (Sum.inr (Sum.inr (Sum.inr (fun j : Nat => is[j]?.map (hz_ad w))))))
    have h2 : (fun j : Nat => is[j]?.map ad) = (fun j : Nat => is[j]?.map (hz_ad w)) := by
      funext j
      cases hk : is[j]? with
      | none => rfl
      | some q =>
        have h3 := List.all_eq_true.mp h q (List.mem_of_getElem? hk)
        show some _ = some _
        rw [had q (of_decide_eq_true h3)]
    rw [h2]
  | .inr (.inr (.inr (.inl n))), h => rfl
  | .inr (.inr (.inr (.inr n))), h => cases h
theorem hz_rf190 : (hz_SHc.take 190).all (hz_rf 190) = true := by decide +kernel
theorem hz_ws_wA {ad : Nat → Nat} (had : ∀ i, i < 190 → ad i = hz_ad w i) : hz_ws (hz_wA w ad) 190 M = hz_ws w 190 M := by
  have e0 : hz_SH.take 190 = hz_SHc.take 190 := by
    rw [hz_SH, List.take_append_of_le_length (by rw [hz_SHc_len]; decide)]
  apply List.ext_getElem?
  intro j
  simp only [hz_ws, List.getElem?_mapIdx]
  rw [e0]
  cases hj : (hz_SHc.take 190)[j]? with
  | none => rfl
  | some sh =>
    have h1 := List.all_eq_true.mp hz_rf190 sh (List.mem_of_getElem? hj)
    have h2 : j < 190 := by
      have h3 := (List.getElem?_eq_some_iff.mp hj).1
      rw [List.length_take] at h3
      omega
    show some (ad j, hz_cell (hz_wA w ad) (M j) sh) = some (hz_ad w j, hz_cell w (M j) sh)
    rw [had j h2, hz_cell_wA had h1]
theorem hz_retell (hO : hz_Ok p s m args meth c w cc nL own ret) (kk : ∀ (w1 : hz_C) (k : Nat), k ≤ z.2.1 → hz_Ok p s m args meth c w1 cc nL own ret → (hz_scx w1 = hz_scx w ∧ hz_scl w1 = hz_scl w ∧ hz_scb w1 = hz_scb w ∧ hz_A w1 = hz_A w) → (∀ i, i < 190 → hz_ad w1 i = hz_ad w i) → hz_H p l e h (z.1, (k, z.2.2)) s m args below meth c w1 190 nL Q M pc ls st) : hz_G p l e h z s m args below meth c w 190 nL Q M pc ls st := by
  intro hzk H locs la hW hS hL T hT X
  have hup : H.size ≤ s.heap.size + z.2.1 := by
    rw [← hT]
    exact X.same.2.2.1
  have hlo : s.heap.size ≤ H.size := hS.1
  have had : ∀ i, i < 190 → (fun i => if i < 190 then hz_ad w i else H.size + (i - 190)) i = hz_ad w i := fun i hi => if_pos hi
  have hk := kk (hz_wA w (fun i => if i < 190 then hz_ad w i else H.size + (i - 190))) (H.size - s.heap.size) (by omega) ⟨hO.1, hO.2.1, hO.2.2.1, hO.2.2.2.1, hO.2.2.2.2⟩ ⟨rfl, rfl, rfl, rfl⟩ had
  refine hk ⟨by show H.size - s.heap.size ≤ z.1.1; have := hzk.1; omega, hzk.2⟩ H locs la ⟨⟨?_, hW.2.1, ?_, hW.2.2.2⟩, by show H.size = s.heap.size + (H.size - s.heap.size); omega, fun i => ?_⟩ hS hL T hT { X with same := ⟨X.same.1, X.same.2.1, by show T.heap.size ≤ s.heap.size + (H.size - s.heap.size); rw [hT]; omega, X.same.2.2.2⟩ }
  · rw [hz_ws_wA had]
    exact hW.1
  · rw [hz_ws_wA had]
    exact hW.2.2.1
  · show (if 190 + i < 190 then _ else H.size + (190 + i - 190)) = H.size + i
    rw [if_neg (by omega), Nat.add_sub_cancel_left]
/-- the law's end -/
theorem hz_lret {b : Nat} (hO : hz_Ok p s m #[Value.ref b] meth c w code 10 own (some .boolean)) (hA : ∀ q, hz_A w q → s.heap.size ≤ q) (hz9 : z.2.1 ≤ 600086 ∧ z.2.2 ≤ 7301442) (hdg : decode code pc = .ok (.ireturn, 1)) : hz_G p l e h z s m #[Value.ref b] below meth c w N 10 (lw_Z below #[Value.ref b] s) M pc ls [.int 1] := by
  intro hzk H locs la hW hS hL
  refine va_forget (fun q hq => hA _ (hS.2.2 q hq)) (W.widen hz9.1 hz9.2 ?_)
  intro T hT X
  have hx := hO.1.1
  have hb := hO.1.2.1
  have hr := hO.2.1
  have hlocks := hO.2.2.1
  obtain ⟨fs, hret, hrun, hended, hW9, hframe⟩ := X.leave (v := some (.int 1)) (hlocks := hlocks) (fun h => by rw [hr] at h; cases h)
  have hmeth' : T.vm.method? m = some meth := X.method'
  refine ⟨T.setFrames fs, ?_, .returned (some (.int 1)), hrun, hended, rfl, lw_closed (s := s) (d0 := s.drawn) (Drawn.sameBut.refl s.drawn lw_cs) ⟨_, rfl⟩ hW9 hframe⟩
  jvm_step X.here [X.here.top, hx, hb, hdg, hmeth', hr, narrow_b1]
  (try refine ⟨rfl, ?_⟩); (try refine ⟨rfl, ?_⟩)
  first | (intro acts; rw [hret _ acts rfl rfl rfl]) | rw [hret _ _ rfl rfl rfl]
  exact Steps.refl _
end HZL
