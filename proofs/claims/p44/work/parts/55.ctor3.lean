def hz_wl (w : hz_C) (N : Nat) (M : hz_M) : List va_E := (hz_SH.take N).mapIdx (fun i sh => hz_cell w (M i) sh)
theorem hz_ws_wl {w : hz_C} {N : Nat} {M : hz_M} : hz_ws w N M = hz_bw w (hz_wl w N M) := by
  apply List.ext_getElem?
  intro j
  simp only [hz_ws, hz_bw, hz_wl, List.getElem?_mapIdx, Option.map_map]
  rfl
theorem hz_wl_0 {w : hz_C} {N : Nat} : hz_wl w N (fun _ _ => 0) = hz_cs w (hz_SH.take N) := by
  apply List.ext_getElem?
  intro j
  simp only [hz_wl, hz_cs, List.getElem?_mapIdx, List.getElem?_map]
def hz_cw (w : hz_C) (k : Nat) : List va_E := hz_cs w ((hz_SH.drop 1).take k)
theorem hz_cw_len {w : hz_C} {k : Nat} (h : ((hz_SH.drop 1).take k).length = k) : (hz_cw w k).length = k := (List.length_map _).trans h
theorem hz_cw_app {w : hz_C} {k m : Nat} {blk : List hz_S} (h : (hz_SH.drop 1).take k ++ blk = (hz_SH.drop 1).take m) : hz_cw w k ++ hz_cs w blk = hz_cw w m := hz_cs_app h
def hz_CI (l : Launch) (y : MethodName) (b : ByteArray) (nL : Nat) (h mc ms : Nat) (w : hz_C) (as : List Value) (L : List va_E) (Qc : Array Value → State → Outcome → State → Prop) : Prop :=
  Met l y (Cond.code y b nL none :: hz_TB) (hz_rm h ((mc, ms), (0, 0))) (hz_PB w as L) Qc mc ms (hz_A w)
section HZC
variable {p : Program} {l : Launch} {e : Env} {h : Nat} {z : hz_Z} {s : State} {m : MethodId} {args : Array Value} {below : List Frame} {meth : Method} {c : Code} {w : hz_C} {N nL : Nat} {Q : State → Prop} {L0 S : List va_E} {pc : Nat} {ls : List (Nat × Value)} {st : List Value} {cc : ByteArray} {own : String} {ret : Option FieldType} {M : hz_M}
theorem hz_b_toG (hL : L0 ++ S = hz_wl w N M) (kk : hz_G p l e h z s m args below meth c w N nL Q M pc ls st) : hz_B p l e h z s m args below meth c w nL Q L0 S pc ls st := by
  intro hzk H locs la hW hS hL2
  refine kk hzk H locs la ⟨?_, hW.1.2.1, ?_, hW.1.2.2.2.1⟩ hS hL2
  · rw [hz_ws_wl, ← hL]
    exact hW.1.1
  · rw [hz_ws_wl, ← hL]
    exact hW.1.2.2.1
theorem hz_b_ofQ {y : MethodName} {as : List Value} {Qc : Array Value → State → Outcome → State → Prop} {mc ms : Nat} {C : String} (hy : plainName y.cls = true) (hC : y.cls = C) (hnm : y.name = "<init>") (hlen : (lg_sl as).length ≤ nL) (hcode : Cond.code y cc nL none ∈ hz_TB)
    (body : ∀ (p : Program) (e : Env) (s : State) (m : MethodId) (args : Array Value) (below : List Frame) (meth : Method) (c : Code), hz_Ok p s m args meth c w cc nL C none → meth.name = "<init>" → hz_B p l e h ((mc, ms), (0, 0)) s m args below meth c w nL (MQ below Qc args s mc ms (hz_A w)) L0 S 0 (lv_args 0 as) []) : hz_CI l y cc nL h mc ms w as (L0 ++ S) Qc := by
  refine Met.ofW (cc := cc) (maxL := nL) (ret := none) hy rfl ?_
  intro p e s m args below meth c s₁ B hml hv
  obtain ⟨rfl, hWd, hX⟩ := hv
  have hts0 := atoms_spec (ws := Cond.code y cc nL none :: hz_TB) B.pre
  have hown : s.vm.findClass C = some m.cls := hC ▸ findClass_of_methodNamed B.named
  have hin : meth.name = "<init>" := (name_of_methodNamed B.named B.method).1.trans hnm
  have hl := lv_entry as (n := nL) hlen
  rw [lg_entry_eq]
  exact body p e s m as.toArray below meth c ⟨⟨B.exec, B.bytes, hml, hown, fun q hq => hts0 q (List.mem_cons_of_mem _ hq)⟩, B.returns, B.notSynchronized, hX, hWd.2.2.2.1⟩ hin ⟨Nat.zero_le _, Nat.zero_le _⟩ s.heap [] _ ⟨hWd, rfl⟩ va_S.rf hl
end HZC
def f_X10_init (M : hz_M) : hz_O :=
  hz_lm (hz_set M 0 9 (-1 : Int32)) fun M1 =>
  hz_ct (f_X8_appendText 0 M1) fun r2 M3 =>
  hz_ct (f_X3_read 1 M3) fun r5 M6 =>
  hz_ct (f_X8_clear M6) fun r8 M9 =>
  hz_ct (f_X7_begin M9) fun r11 M12 =>
  some (0, M12)
theorem hz_cal_X10_init : hz_CalI RX10 yX10_init cX10_init 1 0 := ⟨⟨tw_1_35, tw_1_1, ⟨rfl, by decide, by decide, by decide +kernel⟩, Nat.le_of_ble_eq_true rfl⟩, tw_1_34, rfl⟩
set_option maxRecDepth 100000 in
set_option maxHeartbeats 8000000 in
theorem c_X10_init (l : Launch) (w : hz_C) {rE : Int32} {ME : hz_M} (h : f_X10_init (fun _ _ => 0) = some (rE, ME)) : hz_CI l yX10_init cX10_init 1 8 177 3554 w [.ref (hz_ad w 0)] [.inr (10, [.null, .null, .null, .null, .null, .null, .null, .null, .null, .int 0])] (hz_Qv w 178 ME) := by
  have hN : 178 ≤ 178 := Nat.le_refl _
  refine hz_b_ofQ (L0 := []) (S := [.inr (10, [.null, .null, .null, .null, .null, .null, .null, .null, .null, .int 0])]) (by decide) rfl rfl (Nat.le_of_ble_eq_true rfl) tw_1_35 ?_
  intro p e s m args below meth c hO hin
  have key : ∀ M : hz_M, f_X10_init M = some (rE, ME) → hz_G p l e 8 ((177, 3554), (177, 3554)) s m args below meth c w 178 1 (MQ below (hz_Qv w 178 ME) args s 177 3554 (hz_A w)) M 143 [(0, .ref (hz_ad w 0))] [] := by
    intro M h
    unfold f_X10_init at h
    refine hz_aload_n hO dX10_init_143 rfl 0 rfl ?_
    refine hz_iconst (v := (-1 : Int32)) hO dX10_init_144 (by decide) ?_
    obtain ⟨M1, h_M1, h⟩ := hz_lm_e h
    refine hz_putI (k := 9) (ty := .int) hO hz_K_10 tyX10_ok nmX10 hz_sh_0 (hz_lt_0 hN) rfl (Nat.le_of_ble_eq_true rfl) tw_3_37 rfl rfl rfl rfl rfl dX10_init_145 ?_
    refine hz_nameM h_M1 ?_
    refine hz_aload_n hO dX10_init_148 rfl 0 rfl ?_
    refine hz_getR (k := 2) hO 9 hz_K_10 hz_sh_0 (hz_lt_0 hN) rfl (Nat.le_of_ble_eq_true rfl) tw_3_30 rfl dX10_init_149 ?_
    refine hz_ldcS (i := 0) hO (List.mem_of_getElem? (i := 0) rfl) dX10_init_152 ?_
    obtain ⟨r2, M3, hq4, h⟩ := hz_ct_e h
    refine hz_callVv (as := [.ref (hz_sa w 0)]) (rest := []) hO (c_X8_appendText l w hN 0 hq4) hz_cal_X8_appendText hz_K_8 hz_sh_9 (hz_lt_9 hN) tw_2_111 (Nat.le_of_ble_eq_true rfl) rfl rfl (Nat.le_of_ble_eq_true rfl) dX10_init_154 ?_
    refine hz_aload_n hO dX10_init_157 rfl 0 rfl ?_
    refine hz_getR (k := 0) hO 1 hz_K_10 hz_sh_0 (hz_lt_0 hN) rfl (Nat.le_of_ble_eq_true rfl) tw_3_28 rfl dX10_init_158 ?_
    refine hz_aload_n hO dX10_init_161 rfl 0 rfl ?_
    refine hz_getR (k := 2) hO 9 hz_K_10 hz_sh_0 (hz_lt_0 hN) rfl (Nat.le_of_ble_eq_true rfl) tw_3_30 rfl dX10_init_162 ?_
    obtain ⟨r5, M6, hq7, h⟩ := hz_ct_e h
    refine hz_callVv (as := [.ref (hz_ad w 9)]) (rest := []) hO (c_X3_read l w hN (hz_ho_1 hN) hq7) hz_cal_X3_read hz_K_4 hz_sh_1 (hz_lt_1 hN) tw_2_167 (Nat.le_of_ble_eq_true rfl) rfl rfl (Nat.le_of_ble_eq_true rfl) dX10_init_165 ?_
    refine hz_aload_n hO dX10_init_168 rfl 0 rfl ?_
    refine hz_getR (k := 2) hO 9 hz_K_10 hz_sh_0 (hz_lt_0 hN) rfl (Nat.le_of_ble_eq_true rfl) tw_3_30 rfl dX10_init_169 ?_
    obtain ⟨r8, M9, hq10, h⟩ := hz_ct_e h
    refine hz_callVv (as := []) (rest := []) hO (c_X8_clear l w hN hq10) hz_cal_X8_clear hz_K_8 hz_sh_9 (hz_lt_9 hN) tw_3_13 (Nat.le_of_ble_eq_true rfl) rfl rfl (Nat.le_of_ble_eq_true rfl) dX10_init_172 ?_
    refine hz_aload_n hO dX10_init_175 rfl 0 rfl ?_
    refine hz_getR (k := 3) hO 11 hz_K_10 hz_sh_0 (hz_lt_0 hN) rfl (Nat.le_of_ble_eq_true rfl) tw_3_31 rfl dX10_init_176 ?_
    obtain ⟨r11, M12, hq13, h⟩ := hz_ct_e h
    refine hz_callVv (as := []) (rest := []) hO (c_X7_begin l w hN hq13) hz_cal_X7_begin hz_K_7 hz_sh_11 (hz_lt_11 hN) tw_3_17 (Nat.le_of_ble_eq_true rfl) rfl rfl (Nat.le_of_ble_eq_true rfl) dX10_init_179 ?_
    exact hz_nameM (hz_some_e h).2.symm (hz_vret hO dX10_init_182)
  show hz_B p l e 8 ((177, 3554), (0, 0)) s m args below meth c w 1 _ [] [.inr (10, [.null, .null, .null, .null, .null, .null, .null, .null, .null, .int 0])] 0 [(0, .ref (hz_ad w 0))] []
  refine hz_b_S (S1 := .inr (10, [.null, .null, .null, .null, .null, .null, .null, .null, .null, .int 0]) :: hz_cw w 0) rfl ?_
  refine hz_b_aload_n hO dX10_init_0 rfl 0 rfl ?_
  refine hz_b_obj hO tw_1_36 (Nat.le_of_ble_eq_true rfl) (Nat.le_of_ble_eq_true rfl) dX10_init_1 ?_
  refine hz_b_aload_n hO dX10_init_4 rfl 0 rfl ?_
  refine hz_b_new hO hz_K_4 tyX3 tyX3_ok tw_1_39 tw_1_40 tw_1_2 (fs := [.null, .null, .null, .int 0, .int 0, .int 0, .int 0, .int 0, .int 0, .int 0, .int 0, .int 0]) (by decide) ⟨(Nat.le_of_ble_eq_true rfl), (Nat.le_of_ble_eq_true rfl)⟩ dX10_init_5 ?_
  refine hz_b_S (S1 := .inr (10, [.null, .null, .null, .null, .null, .null, .null, .null, .null, .int 0]) :: (hz_cw w 0 ++ [.inr (4, [.null, .null, .null, .int 0, .int 0, .int 0, .int 0, .int 0, .int 0, .int 0, .int 0, .int 0])])) rfl ?_
  refine hz_b_st (st1 := [.ref (hz_ad w 1), .ref (hz_ad w 0)]) (by rw [List.length_nil, Nat.zero_add, List.length_cons, hz_cw_len rfl]) ?_
  refine hz_b_dup hO dX10_init_8 rfl ?_
  refine hz_b_callN (mc := 3) (ms := 128) (hc := 1) (x := hz_ad w 1) (as := []) (rest := [.ref (hz_ad w 1), .ref (hz_ad w 0)]) (S1 := .inr (10, [.null, .null, .null, .null, .null, .null, .null, .null, .null, .int 0]) :: hz_cw w 4) hO ?_ hz_cal_X3_init (List.mem_of_getElem? (i := 1) rfl) (Nat.le_of_ble_eq_true rfl) rfl rfl (Nat.le_of_ble_eq_true rfl) ⟨(Nat.le_of_ble_eq_true rfl), (Nat.le_of_ble_eq_true rfl)⟩ (by rw [List.length_cons, List.length_cons, List.length_append, hz_cw_len rfl, hz_cw_len rfl]; rfl) dX10_init_9 ?_
  · have hC := c_X3_init l w (.inr (10, [.null, .null, .null, .null, .null, .null, .null, .null, .null, .int 0]) :: hz_cw w 0) (by rw [List.length_cons, hz_cw_len rfl])
    exact hz_CBto hC rfl (congrArg (fun z => _ :: z) (hz_cw_app (w := w) (k := 0) (m := 4) rfl))
  refine hz_b_put (j := 0) (k := 0) hO hin hz_K_10 tyX10_ok nmX10 rfl (Nat.le_of_ble_eq_true rfl) tw_3_28 rfl rfl rfl rfl rfl (Nat.le_of_ble_eq_true rfl) dX10_init_12 ?_
  refine hz_b_S (S1 := .inr (10, [.ref (hz_ad w 1), .null, .null, .null, .null, .null, .null, .null, .null, .int 0]) :: hz_cw w 4) rfl ?_
  refine hz_b_aload_n hO dX10_init_15 rfl 0 rfl ?_
  refine hz_b_new hO hz_K_4 tyX3 tyX3_ok tw_1_39 tw_1_40 tw_1_2 (fs := [.null, .null, .null, .int 0, .int 0, .int 0, .int 0, .int 0, .int 0, .int 0, .int 0, .int 0]) (by decide) ⟨(Nat.le_of_ble_eq_true rfl), (Nat.le_of_ble_eq_true rfl)⟩ dX10_init_16 ?_
  refine hz_b_S (S1 := .inr (10, [.ref (hz_ad w 1), .null, .null, .null, .null, .null, .null, .null, .null, .int 0]) :: (hz_cw w 4 ++ [.inr (4, [.null, .null, .null, .int 0, .int 0, .int 0, .int 0, .int 0, .int 0, .int 0, .int 0, .int 0])])) rfl ?_
  refine hz_b_st (st1 := [.ref (hz_ad w 5), .ref (hz_ad w 0)]) (by rw [List.length_nil, Nat.zero_add, List.length_cons, hz_cw_len rfl]) ?_
  refine hz_b_dup hO dX10_init_19 rfl ?_
  refine hz_b_callN (mc := 3) (ms := 128) (hc := 1) (x := hz_ad w 5) (as := []) (rest := [.ref (hz_ad w 5), .ref (hz_ad w 0)]) (S1 := .inr (10, [.ref (hz_ad w 1), .null, .null, .null, .null, .null, .null, .null, .null, .int 0]) :: hz_cw w 8) hO ?_ hz_cal_X3_init (List.mem_of_getElem? (i := 1) rfl) (Nat.le_of_ble_eq_true rfl) rfl rfl (Nat.le_of_ble_eq_true rfl) ⟨(Nat.le_of_ble_eq_true rfl), (Nat.le_of_ble_eq_true rfl)⟩ (by rw [List.length_cons, List.length_cons, List.length_append, hz_cw_len rfl, hz_cw_len rfl]; rfl) dX10_init_20 ?_
  · have hC := c_X3_init l w (.inr (10, [.ref (hz_ad w 1), .null, .null, .null, .null, .null, .null, .null, .null, .int 0]) :: hz_cw w 4) (by rw [List.length_cons, hz_cw_len rfl])
    exact hz_CBto hC rfl (congrArg (fun z => _ :: z) (hz_cw_app (w := w) (k := 4) (m := 8) rfl))
  refine hz_b_put (j := 0) (k := 1) hO hin hz_K_10 tyX10_ok nmX10 rfl (Nat.le_of_ble_eq_true rfl) tw_3_29 rfl rfl rfl rfl rfl (Nat.le_of_ble_eq_true rfl) dX10_init_23 ?_
  refine hz_b_S (S1 := .inr (10, [.ref (hz_ad w 1), .ref (hz_ad w 5), .null, .null, .null, .null, .null, .null, .null, .int 0]) :: hz_cw w 8) rfl ?_
  refine hz_b_aload_n hO dX10_init_26 rfl 0 rfl ?_
  refine hz_b_new hO hz_K_8 tyX8 tyX8_ok tw_1_102 tw_1_103 tw_1_3 (fs := [.null, .int 0, .int 0, .int 0, .int 0, .int 0, .int 0, .int 0]) (by decide) ⟨(Nat.le_of_ble_eq_true rfl), (Nat.le_of_ble_eq_true rfl)⟩ dX10_init_27 ?_
  refine hz_b_S (S1 := .inr (10, [.ref (hz_ad w 1), .ref (hz_ad w 5), .null, .null, .null, .null, .null, .null, .null, .int 0]) :: (hz_cw w 8 ++ [.inr (8, [.null, .int 0, .int 0, .int 0, .int 0, .int 0, .int 0, .int 0])])) rfl ?_
  refine hz_b_st (st1 := [.ref (hz_ad w 9), .ref (hz_ad w 0)]) (by rw [List.length_nil, Nat.zero_add, List.length_cons, hz_cw_len rfl]) ?_
  refine hz_b_dup hO dX10_init_30 rfl ?_
  refine hz_b_callN (mc := 1) (ms := 600) (hc := 1) (x := hz_ad w 9) (as := []) (rest := [.ref (hz_ad w 9), .ref (hz_ad w 0)]) (S1 := .inr (10, [.ref (hz_ad w 1), .ref (hz_ad w 5), .null, .null, .null, .null, .null, .null, .null, .int 0]) :: hz_cw w 10) hO ?_ hz_cal_X8_init (List.mem_of_getElem? (i := 0) rfl) (Nat.le_of_ble_eq_true rfl) rfl rfl (Nat.le_of_ble_eq_true rfl) ⟨(Nat.le_of_ble_eq_true rfl), (Nat.le_of_ble_eq_true rfl)⟩ (by rw [List.length_cons, List.length_cons, List.length_append, hz_cw_len rfl, hz_cw_len rfl]; rfl) dX10_init_31 ?_
  · have hC := c_X8_init l w (.inr (10, [.ref (hz_ad w 1), .ref (hz_ad w 5), .null, .null, .null, .null, .null, .null, .null, .int 0]) :: hz_cw w 8) (by rw [List.length_cons, hz_cw_len rfl])
    exact hz_CBto hC rfl (congrArg (fun z => _ :: z) (hz_cw_app (w := w) (k := 8) (m := 10) rfl))
  refine hz_b_put (j := 0) (k := 2) hO hin hz_K_10 tyX10_ok nmX10 rfl (Nat.le_of_ble_eq_true rfl) tw_3_30 rfl rfl rfl rfl rfl (Nat.le_of_ble_eq_true rfl) dX10_init_34 ?_
  refine hz_b_S (S1 := .inr (10, [.ref (hz_ad w 1), .ref (hz_ad w 5), .ref (hz_ad w 9), .null, .null, .null, .null, .null, .null, .int 0]) :: hz_cw w 10) rfl ?_
  refine hz_b_aload_n hO dX10_init_37 rfl 0 rfl ?_
  refine hz_b_new hO hz_K_7 tyX7 tyX7_ok tw_1_140 tw_1_141 tw_1_4 (fs := [.null, .null, .null, .null, .null, .null, .null, .null, .null, .null, .null, .null, .null, .null, .int 0, .int 0, .int 0, .int 0, .int 0, .int 0]) (by decide) ⟨(Nat.le_of_ble_eq_true rfl), (Nat.le_of_ble_eq_true rfl)⟩ dX10_init_38 ?_
  refine hz_b_S (S1 := .inr (10, [.ref (hz_ad w 1), .ref (hz_ad w 5), .ref (hz_ad w 9), .null, .null, .null, .null, .null, .null, .int 0]) :: (hz_cw w 10 ++ [.inr (7, [.null, .null, .null, .null, .null, .null, .null, .null, .null, .null, .null, .null, .null, .null, .int 0, .int 0, .int 0, .int 0, .int 0, .int 0])])) rfl ?_
  refine hz_b_st (st1 := [.ref (hz_ad w 11), .ref (hz_ad w 0)]) (by rw [List.length_nil, Nat.zero_add, List.length_cons, hz_cw_len rfl]) ?_
  refine hz_b_dup hO dX10_init_41 rfl ?_
  refine hz_b_aload_n hO dX10_init_42 rfl 0 rfl ?_
  refine hz_b_get (j := 0) (k := 0) hO hz_K_10 rfl rfl (Nat.le_of_ble_eq_true rfl) tw_3_28 rfl dX10_init_43 ?_
  refine hz_b_call (mc := 13) (ms := 185) (hc := 1) (x := hz_ad w 11) (as := [.ref (hz_ad w 1)]) (rest := [.ref (hz_ad w 11), .ref (hz_ad w 0)]) (S1 := .inr (10, [.ref (hz_ad w 1), .ref (hz_ad w 5), .ref (hz_ad w 9), .null, .null, .null, .null, .null, .null, .int 0]) :: hz_cw w 24) hO ?_ hz_cal_X7_init tw_1_142 (Nat.le_of_ble_eq_true rfl) rfl rfl (Nat.le_of_ble_eq_true rfl) ⟨(Nat.le_of_ble_eq_true rfl), (Nat.le_of_ble_eq_true rfl)⟩ (by rw [List.length_cons, List.length_cons, List.length_append, hz_cw_len rfl, hz_cw_len rfl]; rfl) dX10_init_46 ?_
  · have hC := c_X7_init l w (.inr (10, [.ref (hz_ad w 1), .ref (hz_ad w 5), .ref (hz_ad w 9), .null, .null, .null, .null, .null, .null, .int 0]) :: hz_cw w 10) (by rw [List.length_cons, hz_cw_len rfl])
    exact hz_CBto hC rfl (congrArg (fun z => _ :: z) (hz_cw_app (w := w) (k := 10) (m := 24) rfl))
  refine hz_b_put (j := 0) (k := 3) hO hin hz_K_10 tyX10_ok nmX10 rfl (Nat.le_of_ble_eq_true rfl) tw_3_31 rfl rfl rfl rfl rfl (Nat.le_of_ble_eq_true rfl) dX10_init_49 ?_
  refine hz_b_S (S1 := .inr (10, [.ref (hz_ad w 1), .ref (hz_ad w 5), .ref (hz_ad w 9), .ref (hz_ad w 11), .null, .null, .null, .null, .null, .int 0]) :: hz_cw w 24) rfl ?_
  refine hz_b_aload_n hO dX10_init_52 rfl 0 rfl ?_
  refine hz_b_new hO hz_K_9 tyX9 tyX9_ok tw_2_3 tw_2_4 tw_1_5 (fs := [.null, .null]) (by decide) ⟨(Nat.le_of_ble_eq_true rfl), (Nat.le_of_ble_eq_true rfl)⟩ dX10_init_53 ?_
  refine hz_b_S (S1 := .inr (10, [.ref (hz_ad w 1), .ref (hz_ad w 5), .ref (hz_ad w 9), .ref (hz_ad w 11), .null, .null, .null, .null, .null, .int 0]) :: (hz_cw w 24 ++ [.inr (9, [.null, .null])])) rfl ?_
  refine hz_b_st (st1 := [.ref (hz_ad w 25), .ref (hz_ad w 0)]) (by rw [List.length_nil, Nat.zero_add, List.length_cons, hz_cw_len rfl]) ?_
  refine hz_b_dup hO dX10_init_56 rfl ?_
  refine hz_b_aload_n hO dX10_init_57 rfl 0 rfl ?_
  refine hz_b_get (j := 0) (k := 0) hO hz_K_10 rfl rfl (Nat.le_of_ble_eq_true rfl) tw_3_28 rfl dX10_init_58 ?_
  refine hz_b_aload_n hO dX10_init_61 rfl 0 rfl ?_
  refine hz_b_get (j := 0) (k := 3) hO hz_K_10 rfl rfl (Nat.le_of_ble_eq_true rfl) tw_3_31 rfl dX10_init_62 ?_
  refine hz_b_call (mc := 0) (ms := 0) (hc := 1) (x := hz_ad w 25) (as := [.ref (hz_ad w 1), .ref (hz_ad w 11)]) (rest := [.ref (hz_ad w 25), .ref (hz_ad w 0)]) (S1 := .inr (10, [.ref (hz_ad w 1), .ref (hz_ad w 5), .ref (hz_ad w 9), .ref (hz_ad w 11), .null, .null, .null, .null, .null, .int 0]) :: hz_cw w 25) hO ?_ hz_cal_X9_init tw_2_5 (Nat.le_of_ble_eq_true rfl) rfl rfl (Nat.le_of_ble_eq_true rfl) ⟨(Nat.le_of_ble_eq_true rfl), (Nat.le_of_ble_eq_true rfl)⟩ (by rw [List.length_cons, List.length_cons, List.length_append, hz_cw_len rfl, hz_cw_len rfl]; rfl) dX10_init_65 ?_
  · have hC := c_X9_init l w (.inr (10, [.ref (hz_ad w 1), .ref (hz_ad w 5), .ref (hz_ad w 9), .ref (hz_ad w 11), .null, .null, .null, .null, .null, .int 0]) :: hz_cw w 24) (by rw [List.length_cons, hz_cw_len rfl])
    exact hz_CBto hC rfl (congrArg (fun z => _ :: z) (hz_cw_app (w := w) (k := 24) (m := 25) rfl))
  refine hz_b_put (j := 0) (k := 4) hO hin hz_K_10 tyX10_ok nmX10 rfl (Nat.le_of_ble_eq_true rfl) tw_3_32 rfl rfl rfl rfl rfl (Nat.le_of_ble_eq_true rfl) dX10_init_68 ?_
  refine hz_b_S (S1 := .inr (10, [.ref (hz_ad w 1), .ref (hz_ad w 5), .ref (hz_ad w 9), .ref (hz_ad w 11), .ref (hz_ad w 25), .null, .null, .null, .null, .int 0]) :: hz_cw w 25) rfl ?_
  refine hz_b_aload_n hO dX10_init_71 rfl 0 rfl ?_
  refine hz_b_new hO hz_K_2 tyX1 tyX1_ok tw_2_16 tw_2_17 tw_1_6 (fs := [.null, .null, .null, .int 0]) (by decide) ⟨(Nat.le_of_ble_eq_true rfl), (Nat.le_of_ble_eq_true rfl)⟩ dX10_init_72 ?_
  refine hz_b_S (S1 := .inr (10, [.ref (hz_ad w 1), .ref (hz_ad w 5), .ref (hz_ad w 9), .ref (hz_ad w 11), .ref (hz_ad w 25), .null, .null, .null, .null, .int 0]) :: (hz_cw w 25 ++ [.inr (2, [.null, .null, .null, .int 0])])) rfl ?_
  refine hz_b_st (st1 := [.ref (hz_ad w 26), .ref (hz_ad w 0)]) (by rw [List.length_nil, Nat.zero_add, List.length_cons, hz_cw_len rfl]) ?_
  refine hz_b_dup hO dX10_init_75 rfl ?_
  refine hz_b_aload_n hO dX10_init_76 rfl 0 rfl ?_
  refine hz_b_get (j := 0) (k := 0) hO hz_K_10 rfl rfl (Nat.le_of_ble_eq_true rfl) tw_3_28 rfl dX10_init_77 ?_
  refine hz_b_aload_n hO dX10_init_80 rfl 0 rfl ?_
  refine hz_b_get (j := 0) (k := 3) hO hz_K_10 rfl rfl (Nat.le_of_ble_eq_true rfl) tw_3_31 rfl dX10_init_81 ?_
  refine hz_b_aload_n hO dX10_init_84 rfl 0 rfl ?_
  refine hz_b_get (j := 0) (k := 4) hO hz_K_10 rfl rfl (Nat.le_of_ble_eq_true rfl) tw_3_32 rfl dX10_init_85 ?_
  refine hz_b_call (mc := 0) (ms := 0) (hc := 1) (x := hz_ad w 26) (as := [.ref (hz_ad w 1), .ref (hz_ad w 11), .ref (hz_ad w 25)]) (rest := [.ref (hz_ad w 26), .ref (hz_ad w 0)]) (S1 := .inr (10, [.ref (hz_ad w 1), .ref (hz_ad w 5), .ref (hz_ad w 9), .ref (hz_ad w 11), .ref (hz_ad w 25), .null, .null, .null, .null, .int 0]) :: hz_cw w 26) hO ?_ hz_cal_X1_init tw_2_18 (Nat.le_of_ble_eq_true rfl) rfl rfl (Nat.le_of_ble_eq_true rfl) ⟨(Nat.le_of_ble_eq_true rfl), (Nat.le_of_ble_eq_true rfl)⟩ (by rw [List.length_cons, List.length_cons, List.length_append, hz_cw_len rfl, hz_cw_len rfl]; rfl) dX10_init_88 ?_
  · have hC := c_X1_init l w (.inr (10, [.ref (hz_ad w 1), .ref (hz_ad w 5), .ref (hz_ad w 9), .ref (hz_ad w 11), .ref (hz_ad w 25), .null, .null, .null, .null, .int 0]) :: hz_cw w 25) (by rw [List.length_cons, hz_cw_len rfl])
    exact hz_CBto hC rfl (congrArg (fun z => _ :: z) (hz_cw_app (w := w) (k := 25) (m := 26) rfl))
  refine hz_b_put (j := 0) (k := 5) hO hin hz_K_10 tyX10_ok nmX10 rfl (Nat.le_of_ble_eq_true rfl) tw_3_33 rfl rfl rfl rfl rfl (Nat.le_of_ble_eq_true rfl) dX10_init_91 ?_
  refine hz_b_S (S1 := .inr (10, [.ref (hz_ad w 1), .ref (hz_ad w 5), .ref (hz_ad w 9), .ref (hz_ad w 11), .ref (hz_ad w 25), .ref (hz_ad w 26), .null, .null, .null, .int 0]) :: hz_cw w 26) rfl ?_
  refine hz_b_aload_n hO dX10_init_94 rfl 0 rfl ?_
  refine hz_b_new hO hz_K_6 tyX6 tyX6_ok tw_2_35 tw_2_36 tw_1_7 (fs := [.null, .null, .null, .null, .null, .null, .int 0, .int 0, .int 0]) (by decide) ⟨(Nat.le_of_ble_eq_true rfl), (Nat.le_of_ble_eq_true rfl)⟩ dX10_init_95 ?_
  refine hz_b_S (S1 := .inr (10, [.ref (hz_ad w 1), .ref (hz_ad w 5), .ref (hz_ad w 9), .ref (hz_ad w 11), .ref (hz_ad w 25), .ref (hz_ad w 26), .null, .null, .null, .int 0]) :: (hz_cw w 26 ++ [.inr (6, [.null, .null, .null, .null, .null, .null, .int 0, .int 0, .int 0])])) rfl ?_
  refine hz_b_st (st1 := [.ref (hz_ad w 27), .ref (hz_ad w 0)]) (by rw [List.length_nil, Nat.zero_add, List.length_cons, hz_cw_len rfl]) ?_
  refine hz_b_dup hO dX10_init_98 rfl ?_
  refine hz_b_aload_n hO dX10_init_99 rfl 0 rfl ?_
  refine hz_b_get (j := 0) (k := 0) hO hz_K_10 rfl rfl (Nat.le_of_ble_eq_true rfl) tw_3_28 rfl dX10_init_100 ?_
  refine hz_b_aload_n hO dX10_init_103 rfl 0 rfl ?_
  refine hz_b_get (j := 0) (k := 5) hO hz_K_10 rfl rfl (Nat.le_of_ble_eq_true rfl) tw_3_33 rfl dX10_init_104 ?_
  refine hz_b_call (mc := 4) (ms := 120) (hc := 1) (x := hz_ad w 27) (as := [.ref (hz_ad w 1), .ref (hz_ad w 26)]) (rest := [.ref (hz_ad w 27), .ref (hz_ad w 0)]) (S1 := .inr (10, [.ref (hz_ad w 1), .ref (hz_ad w 5), .ref (hz_ad w 9), .ref (hz_ad w 11), .ref (hz_ad w 25), .ref (hz_ad w 26), .null, .null, .null, .int 0]) :: hz_cw w 31) hO ?_ hz_cal_X6_init tw_2_37 (Nat.le_of_ble_eq_true rfl) rfl rfl (Nat.le_of_ble_eq_true rfl) ⟨(Nat.le_of_ble_eq_true rfl), (Nat.le_of_ble_eq_true rfl)⟩ (by rw [List.length_cons, List.length_cons, List.length_append, hz_cw_len rfl, hz_cw_len rfl]; rfl) dX10_init_107 ?_
  · have hC := c_X6_init l w (.inr (10, [.ref (hz_ad w 1), .ref (hz_ad w 5), .ref (hz_ad w 9), .ref (hz_ad w 11), .ref (hz_ad w 25), .ref (hz_ad w 26), .null, .null, .null, .int 0]) :: hz_cw w 26) (by rw [List.length_cons, hz_cw_len rfl])
    exact hz_CBto hC rfl (congrArg (fun z => _ :: z) (hz_cw_app (w := w) (k := 26) (m := 31) rfl))
  refine hz_b_put (j := 0) (k := 6) hO hin hz_K_10 tyX10_ok nmX10 rfl (Nat.le_of_ble_eq_true rfl) tw_3_34 rfl rfl rfl rfl rfl (Nat.le_of_ble_eq_true rfl) dX10_init_110 ?_
  refine hz_b_S (S1 := .inr (10, [.ref (hz_ad w 1), .ref (hz_ad w 5), .ref (hz_ad w 9), .ref (hz_ad w 11), .ref (hz_ad w 25), .ref (hz_ad w 26), .ref (hz_ad w 27), .null, .null, .int 0]) :: hz_cw w 31) rfl ?_
  refine hz_b_aload_n hO dX10_init_113 rfl 0 rfl ?_
  refine hz_b_new hO hz_K_3 tyX2 tyX2_ok tw_2_68 tw_2_69 tw_1_8 (fs := [.null, .null, .null, .int 0, .int 0]) (by decide) ⟨(Nat.le_of_ble_eq_true rfl), (Nat.le_of_ble_eq_true rfl)⟩ dX10_init_114 ?_
  refine hz_b_S (S1 := .inr (10, [.ref (hz_ad w 1), .ref (hz_ad w 5), .ref (hz_ad w 9), .ref (hz_ad w 11), .ref (hz_ad w 25), .ref (hz_ad w 26), .ref (hz_ad w 27), .null, .null, .int 0]) :: (hz_cw w 31 ++ [.inr (3, [.null, .null, .null, .int 0, .int 0])])) rfl ?_
  refine hz_b_st (st1 := [.ref (hz_ad w 32), .ref (hz_ad w 0)]) (by rw [List.length_nil, Nat.zero_add, List.length_cons, hz_cw_len rfl]) ?_
  refine hz_b_dup hO dX10_init_117 rfl ?_
  refine hz_b_aload_n hO dX10_init_118 rfl 0 rfl ?_
  refine hz_b_get (j := 0) (k := 0) hO hz_K_10 rfl rfl (Nat.le_of_ble_eq_true rfl) tw_3_28 rfl dX10_init_119 ?_
  refine hz_b_call (mc := 143) (ms := 2062) (hc := 2) (x := hz_ad w 32) (as := [.ref (hz_ad w 1)]) (rest := [.ref (hz_ad w 32), .ref (hz_ad w 0)]) (S1 := .inr (10, [.ref (hz_ad w 1), .ref (hz_ad w 5), .ref (hz_ad w 9), .ref (hz_ad w 11), .ref (hz_ad w 25), .ref (hz_ad w 26), .ref (hz_ad w 27), .null, .null, .int 0]) :: hz_cw w 175) hO ?_ hz_cal_X2_init tw_2_70 (Nat.le_of_ble_eq_true rfl) rfl rfl (Nat.le_of_ble_eq_true rfl) ⟨(Nat.le_of_ble_eq_true rfl), (Nat.le_of_ble_eq_true rfl)⟩ (by rw [List.length_cons, List.length_cons, List.length_append, hz_cw_len rfl, hz_cw_len rfl]; rfl) dX10_init_122 ?_
  · have hC := c_X2_init l w (.inr (10, [.ref (hz_ad w 1), .ref (hz_ad w 5), .ref (hz_ad w 9), .ref (hz_ad w 11), .ref (hz_ad w 25), .ref (hz_ad w 26), .ref (hz_ad w 27), .null, .null, .int 0]) :: hz_cw w 31) (by rw [List.length_cons, hz_cw_len rfl])
    rw [List.length_cons, hz_cw_len rfl] at hC
    exact hz_CBto hC rfl (congrArg (fun z => _ :: z) (hz_cw_app (w := w) (k := 31) (m := 175) rfl))
  refine hz_b_put (j := 0) (k := 7) hO hin hz_K_10 tyX10_ok nmX10 rfl (Nat.le_of_ble_eq_true rfl) tw_3_35 rfl rfl rfl rfl rfl (Nat.le_of_ble_eq_true rfl) dX10_init_125 ?_
  refine hz_b_S (S1 := .inr (10, [.ref (hz_ad w 1), .ref (hz_ad w 5), .ref (hz_ad w 9), .ref (hz_ad w 11), .ref (hz_ad w 25), .ref (hz_ad w 26), .ref (hz_ad w 27), .ref (hz_ad w 32), .null, .int 0]) :: hz_cw w 175) rfl ?_
  refine hz_b_aload_n hO dX10_init_128 rfl 0 rfl ?_
  refine hz_b_new hO hz_K_5 tyX5 tyX5_ok tw_2_95 tw_2_96 tw_1_9 (fs := [.null, .null, .int 0]) (by decide) ⟨(Nat.le_of_ble_eq_true rfl), (Nat.le_of_ble_eq_true rfl)⟩ dX10_init_129 ?_
  refine hz_b_S (S1 := .inr (10, [.ref (hz_ad w 1), .ref (hz_ad w 5), .ref (hz_ad w 9), .ref (hz_ad w 11), .ref (hz_ad w 25), .ref (hz_ad w 26), .ref (hz_ad w 27), .ref (hz_ad w 32), .null, .int 0]) :: (hz_cw w 175 ++ [.inr (5, [.null, .null, .int 0])])) rfl ?_
  refine hz_b_st (st1 := [.ref (hz_ad w 176), .ref (hz_ad w 0)]) (by rw [List.length_nil, Nat.zero_add, List.length_cons, hz_cw_len rfl]) ?_
  refine hz_b_dup hO dX10_init_132 rfl ?_
  refine hz_b_aload_n hO dX10_init_133 rfl 0 rfl ?_
  refine hz_b_get (j := 0) (k := 0) hO hz_K_10 rfl rfl (Nat.le_of_ble_eq_true rfl) tw_3_28 rfl dX10_init_134 ?_
  refine hz_b_call (mc := 1) (ms := 256) (hc := 1) (x := hz_ad w 176) (as := [.ref (hz_ad w 1)]) (rest := [.ref (hz_ad w 176), .ref (hz_ad w 0)]) (S1 := .inr (10, [.ref (hz_ad w 1), .ref (hz_ad w 5), .ref (hz_ad w 9), .ref (hz_ad w 11), .ref (hz_ad w 25), .ref (hz_ad w 26), .ref (hz_ad w 27), .ref (hz_ad w 32), .null, .int 0]) :: hz_cw w 177) hO ?_ hz_cal_X5_init tw_2_97 (Nat.le_of_ble_eq_true rfl) rfl rfl (Nat.le_of_ble_eq_true rfl) ⟨(Nat.le_of_ble_eq_true rfl), (Nat.le_of_ble_eq_true rfl)⟩ (by rw [List.length_cons, List.length_cons, List.length_append, hz_cw_len rfl, hz_cw_len rfl]; rfl) dX10_init_137 ?_
  · have hC := c_X5_init l w (.inr (10, [.ref (hz_ad w 1), .ref (hz_ad w 5), .ref (hz_ad w 9), .ref (hz_ad w 11), .ref (hz_ad w 25), .ref (hz_ad w 26), .ref (hz_ad w 27), .ref (hz_ad w 32), .null, .int 0]) :: hz_cw w 175) (by rw [List.length_cons, hz_cw_len rfl])
    exact hz_CBto hC rfl (congrArg (fun z => _ :: z) (hz_cw_app (w := w) (k := 175) (m := 177) rfl))
  refine hz_b_put (j := 0) (k := 8) hO hin hz_K_10 tyX10_ok nmX10 rfl (Nat.le_of_ble_eq_true rfl) tw_3_36 rfl rfl rfl rfl rfl (Nat.le_of_ble_eq_true rfl) dX10_init_140 ?_
  refine hz_b_S (S1 := .inr (10, [.ref (hz_ad w 1), .ref (hz_ad w 5), .ref (hz_ad w 9), .ref (hz_ad w 11), .ref (hz_ad w 25), .ref (hz_ad w 26), .ref (hz_ad w 27), .ref (hz_ad w 32), .ref (hz_ad w 176), .int 0]) :: hz_cw w 177) rfl ?_
  refine hz_b_z (z1 := ((177, 3554), (177, 3554))) rfl ?_
  refine hz_b_toG (N := 178) (M := fun _ _ => 0) (by rw [hz_wl_0]; rfl) ?_
  exact key _ h
