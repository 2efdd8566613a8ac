theorem tw_1_31 : (Jvm.Cond.instanceMethod ({ cls := "HotSteps", name := "<init>", desc := "()V" } : Jvm.MethodName)) ∈ hz_TB := hz_tb (hz_t1 _ (List.mem_of_getElem? (i := 31) rfl)) rfl
theorem tw_1_32 : (Jvm.Cond.code ({ cls := "HotSteps", name := "<init>", desc := "()V" } : Jvm.MethodName) prog_1_method_1_code (1 : Nat) (Option.none : Option Jvm.ClassFile.FieldType)) ∈ hz_TB := hz_tb (hz_t1 _ (List.mem_of_getElem? (i := 32) rfl)) rfl
theorem tw_1_33 : (Jvm.Cond.methodLink "HotSteps" (1 : Nat) ({ cls := "java/lang/Object", name := "<init>", desc := "()V" } : Jvm.MethodName)) ∈ hz_TB := hz_tb (hz_t1 _ (List.mem_of_getElem? (i := 33) rfl)) rfl
theorem tw_1_36 : (Jvm.Cond.classLink "HotSteps" (7 : Nat) "HotSteps$House") ∈ hz_TB := hz_tb (hz_t1 _ (List.mem_of_getElem? (i := 36) rfl)) rfl
theorem tw_1_37 : (Jvm.Cond.instantiable "HotSteps$House" (12 : Nat)) ∈ hz_TB := hz_tb (hz_t1 _ (List.mem_of_getElem? (i := 37) rfl)) rfl
theorem tw_1_103 : (Jvm.Cond.classLink "HotSteps" (19 : Nat) "HotSteps$Text") ∈ hz_TB := hz_tb (hz_t1 _ (List.mem_of_getElem? (i := 103) rfl)) rfl
theorem tw_1_104 : (Jvm.Cond.instantiable "HotSteps$Text" (8 : Nat)) ∈ hz_TB := hz_tb (hz_t1 _ (List.mem_of_getElem? (i := 104) rfl)) rfl
theorem tw_1_145 : (Jvm.Cond.classLink "HotSteps" (26 : Nat) "HotSteps$State") ∈ hz_TB := hz_tb (hz_t1 _ (List.mem_of_getElem? (i := 145) rfl)) rfl
theorem tw_1_147 : (Jvm.Cond.methodLink "HotSteps" (28 : Nat) ({ cls := "HotSteps$State", name := "<init>", desc := "(LHotSteps$House;)V" } : Jvm.MethodName)) ∈ hz_TB := hz_tb (hz_t1 _ (List.mem_of_getElem? (i := 147) rfl)) rfl
theorem tw_2_10 : (Jvm.Cond.classLink "HotSteps" (35 : Nat) "HotSteps$Why") ∈ hz_TB := hz_tb (hz_t2 _ (List.mem_of_getElem? (i := 10) rfl)) rfl
theorem tw_2_11 : (Jvm.Cond.instantiable "HotSteps$Why" (2 : Nat)) ∈ hz_TB := hz_tb (hz_t2 _ (List.mem_of_getElem? (i := 11) rfl)) rfl
theorem tw_2_12 : (Jvm.Cond.methodLink "HotSteps" (37 : Nat) ({ cls := "HotSteps$Why", name := "<init>", desc := "(LHotSteps$House;LHotSteps$State;)V" } : Jvm.MethodName)) ∈ hz_TB := hz_tb (hz_t2 _ (List.mem_of_getElem? (i := 12) rfl)) rfl
theorem tw_2_23 : (Jvm.Cond.classLink "HotSteps" (44 : Nat) "HotSteps$Deeds") ∈ hz_TB := hz_tb (hz_t2 _ (List.mem_of_getElem? (i := 23) rfl)) rfl
theorem tw_2_24 : (Jvm.Cond.instantiable "HotSteps$Deeds" (4 : Nat)) ∈ hz_TB := hz_tb (hz_t2 _ (List.mem_of_getElem? (i := 24) rfl)) rfl
theorem tw_2_25 : (Jvm.Cond.methodLink "HotSteps" (46 : Nat) ({ cls := "HotSteps$Deeds", name := "<init>", desc := "(LHotSteps$House;LHotSteps$State;LHotSteps$Why;)V" } : Jvm.MethodName)) ∈ hz_TB := hz_tb (hz_t2 _ (List.mem_of_getElem? (i := 25) rfl)) rfl
theorem tw_2_43 : (Jvm.Cond.classLink "HotSteps" (53 : Nat) "HotSteps$Script") ∈ hz_TB := hz_tb (hz_t2 _ (List.mem_of_getElem? (i := 43) rfl)) rfl
theorem tw_2_44 : (Jvm.Cond.instantiable "HotSteps$Script" (9 : Nat)) ∈ hz_TB := hz_tb (hz_t2 _ (List.mem_of_getElem? (i := 44) rfl)) rfl
theorem tw_2_45 : (Jvm.Cond.methodLink "HotSteps" (55 : Nat) ({ cls := "HotSteps$Script", name := "<init>", desc := "(LHotSteps$House;LHotSteps$Deeds;)V" } : Jvm.MethodName)) ∈ hz_TB := hz_tb (hz_t2 _ (List.mem_of_getElem? (i := 45) rfl)) rfl
theorem tw_2_81 : (Jvm.Cond.classLink "HotSteps" (62 : Nat) "HotSteps$History") ∈ hz_TB := hz_tb (hz_t2 _ (List.mem_of_getElem? (i := 81) rfl)) rfl
theorem tw_2_82 : (Jvm.Cond.instantiable "HotSteps$History" (5 : Nat)) ∈ hz_TB := hz_tb (hz_t2 _ (List.mem_of_getElem? (i := 82) rfl)) rfl
theorem tw_2_83 : (Jvm.Cond.methodLink "HotSteps" (64 : Nat) ({ cls := "HotSteps$History", name := "<init>", desc := "(LHotSteps$House;)V" } : Jvm.MethodName)) ∈ hz_TB := hz_tb (hz_t2 _ (List.mem_of_getElem? (i := 83) rfl)) rfl
theorem tw_2_108 : (Jvm.Cond.classLink "HotSteps" (69 : Nat) "HotSteps$Report") ∈ hz_TB := hz_tb (hz_t2 _ (List.mem_of_getElem? (i := 108) rfl)) rfl
theorem tw_2_109 : (Jvm.Cond.instantiable "HotSteps$Report" (3 : Nat)) ∈ hz_TB := hz_tb (hz_t2 _ (List.mem_of_getElem? (i := 109) rfl)) rfl
theorem tw_2_110 : (Jvm.Cond.methodLink "HotSteps" (71 : Nat) ({ cls := "HotSteps$Report", name := "<init>", desc := "(LHotSteps$House;)V" } : Jvm.MethodName)) ∈ hz_TB := hz_tb (hz_t2 _ (List.mem_of_getElem? (i := 110) rfl)) rfl
theorem tw_2_126 : (Jvm.Cond.methodLink "HotSteps" (82 : Nat) ({ cls := "HotSteps$Text", name := "appendText", desc := "(Ljava/lang/String;)V" } : Jvm.MethodName)) ∈ hz_TB := hz_tb (hz_t2 _ (List.mem_of_getElem? (i := 126) rfl)) rfl
theorem tw_6_149 : (Jvm.Cond.instanceMethod ({ cls := "HotStepsModel", name := "<init>", desc := "()V" } : Jvm.MethodName)) ∈ hz_TB := hz_tb (hz_t6 _ (List.mem_of_getElem? (i := 149) rfl)) rfl
theorem tw_6_150 : (Jvm.Cond.code ({ cls := "HotStepsModel", name := "<init>", desc := "()V" } : Jvm.MethodName) prog_13_method_1_code (1 : Nat) (Option.none : Option Jvm.ClassFile.FieldType)) ∈ hz_TB := hz_tb (hz_t6 _ (List.mem_of_getElem? (i := 150) rfl)) rfl
theorem tw_6_151 : (Jvm.Cond.methodLink "HotStepsModel" (1 : Nat) ({ cls := "java/lang/Object", name := "<init>", desc := "()V" } : Jvm.MethodName)) ∈ hz_TB := hz_tb (hz_t6 _ (List.mem_of_getElem? (i := 151) rfl)) rfl
theorem tw_6_153 : (Jvm.Cond.methodLink "HotStepsModel" (59 : Nat) ({ cls := "HotStepsModel", name := "takesText", desc := "(Ljava/lang/String;)V" } : Jvm.MethodName)) ∈ hz_TB := hz_tb (hz_t6 _ (List.mem_of_getElem? (i := 153) rfl)) rfl
def hz_wl (w : hz_C) (N : Nat) (M : hz_M) : List va_E := (hz_SH.take N).mapIdx (fun i sh => hz_cell w (M i) sh)
theorem hz_ws_wl {w : hz_C} {N : Nat} {M : hz_M} : hz_ws w N M = hz_bw w (hz_wl w N M) := by
  apply List.ext_getElem?
  intro j
  simp only [hz_ws, hz_bw, hz_wl, List.getElem?_mapIdx, Option.map_map]
  rfl
theorem hz_wl_0 {w : hz_C} {N : Nat} : hz_wl w N (fun _ _ => 0) = hz_cs w (hz_SH.take N) := by
  apply List.ext_getElem?
  intro j
  simp only [hz_wl, hz_cs, List.getElem?_mapIdx, List.getElem?_map]
def hz_cw (w : hz_C) (k : Nat) : List va_E := hz_cs w ((hz_SH.drop 1).take k)
theorem hz_cw_len {w : hz_C} {k : Nat} (h : ((hz_SH.drop 1).take k).length = k) : (hz_cw w k).length = k := (List.length_map _).trans h
theorem hz_cw_app {w : hz_C} {k m : Nat} {blk : List hz_S} (h : (hz_SH.drop 1).take k ++ blk = (hz_SH.drop 1).take m) : hz_cw w k ++ hz_cs w blk = hz_cw w m := hz_cs_app h
def hz_CI (l : Launch) (y : MethodName) (b : ByteArray) (nL : Nat) (h mc ms : Nat) (w : hz_C) (as : List Value) (L : List va_E) (Qc : Array Value → State → Outcome → State → Prop) : Prop :=
  Met l y (Cond.code y b nL none :: hz_TB) (hz_rm h ((mc, ms), (0, 0))) (hz_PB w as L) Qc mc ms (hz_A w)
section HZC
variable {p : Program} {l : Launch} {e : Env} {h : Nat} {z : hz_Z} {s : State} {m : MethodId} {args : Array Value} {below : List Frame} {meth : Method} {c : Code} {w : hz_C} {N nL : Nat} {Q : State → Prop} {L0 S : List va_E} {pc : Nat} {ls : List (Nat × Value)} {st : List Value} {cc : ByteArray} {own : String} {ret : Option FieldType} {M : hz_M}
theorem hz_b_toG (hL : L0 ++ S = hz_wl w N M) (kk : hz_G p l e h z s m args below meth c w N nL Q M pc ls st) : hz_B p l e h z s m args below meth c w nL Q L0 S pc ls st := by
  intro hzk H locs la hW hS hL2
  refine kk hzk H locs la ⟨?_, hW.1.2.1, ?_, ?_⟩ hS hL2
  · rw [hz_ws_wl, ← hL]
    exact hW.1.1
  · rw [hz_ws_wl, ← hL]
    exact hW.1.2.2.1
  · rw [hW.1.2.2.2.1]
    omega
theorem hz_b_ofQ {y : MethodName} {as : List Value} {Qc : Array Value → State → Outcome → State → Prop} {mc ms : Nat} {C : String} (hy : plainName y.cls = true) (hC : y.cls = C) (hnm : y.name = "<init>") (hlen : (lg_sl as).length ≤ nL) (hcode : Cond.code y cc nL none ∈ hz_TB)
    (body : ∀ (p : Program) (e : Env) (s : State) (m : MethodId) (args : Array Value) (below : List Frame) (meth : Method) (c : Code), hz_Ok p s m args meth c w cc nL C none → meth.name = "<init>" → hz_B p l e h ((mc, ms), (0, 0)) s m args below meth c w nL (MQ below Qc args s mc ms (hz_A w)) L0 S 0 (lv_args 0 as) []) : hz_CI l y cc nL h mc ms w as (L0 ++ S) Qc := by
  refine Met.ofW (cc := cc) (maxL := nL) (ret := none) hy rfl ?_
  intro p e s m args below meth c s₁ B hml hv
  obtain ⟨rfl, hWd, hX⟩ := hv
  have hts0 := atoms_spec (ws := Cond.code y cc nL none :: hz_TB) B.pre
  have hown : s.vm.findClass C = some m.cls := hC ▸ findClass_of_methodNamed B.named
  have hin : meth.name = "<init>" := (name_of_methodNamed B.named B.method).1.trans hnm
  have hl := lv_entry as (n := nL) hlen
  rw [lg_entry_eq]
  exact body p e s m as.toArray below meth c ⟨⟨B.exec, B.bytes, hml, hown, fun q hq => hts0 q (List.mem_cons_of_mem _ hq)⟩, B.returns, B.notSynchronized, hX, by rw [hWd.2.2.2.1]; omega⟩ hin ⟨Nat.zero_le _, Nat.zero_le _⟩ s.heap [] _ ⟨hWd, rfl⟩ va_S.rf hl
end HZC
def f_X10_init (M : hz_M) : hz_O :=
  hz_lm (hz_set M 0 9 (-1 : Int32)) fun M1 =>
  hz_ct (f_X8_appendText 0 M1) fun r2 M3 =>
  hz_ct (f_X3_read 1 M3) fun r5 M6 =>
  hz_ct (f_X8_clear M6) fun r8 M9 =>
  hz_ct (f_X7_begin M9) fun r11 M12 =>
  some (0, M12)
theorem hz_cal_X10_init : hz_CalI RX10 yX10_init cX10_init 1 0 := ⟨⟨tw_1_32, tw_1_1, ⟨rfl, by decide, by decide, by decide +kernel⟩, Nat.le_of_ble_eq_true rfl⟩, tw_1_31, rfl⟩
set_option maxRecDepth 100000 in
set_option maxHeartbeats 8000000 in
theorem c_X10_init (l : Launch) (w : hz_C) {rE : Int32} {ME : hz_M} (h : f_X10_init (fun _ _ => 0) = some (rE, ME)) : hz_CI l yX10_init cX10_init 1 12 177 3554 w [.ref (hz_ad w 0)] [.inr (8, [.null, .null, .null, .null, .null, .null, .null, .null, .null, .int 0])] (hz_Qv w 178 ME) := by
  have hN : 178 ≤ 178 := Nat.le_refl _
  refine hz_b_ofQ (L0 := []) (S := [.inr (8, [.null, .null, .null, .null, .null, .null, .null, .null, .null, .int 0])]) (by decide) rfl rfl (Nat.le_of_ble_eq_true rfl) tw_1_32 ?_
  intro p e s m args below meth c hO hin
  have key : ∀ M : hz_M, f_X10_init M = some (rE, ME) → hz_G p l e 12 ((177, 3554), (177, 3554)) s m args below meth c w 178 1 (MQ below (hz_Qv w 178 ME) args s 177 3554 (hz_A w)) M 143 [(0, .ref (hz_ad w 0))] [] := by
    intro M h
    unfold f_X10_init at h
    refine hz_aload_n hO dX10_init_143 rfl 0 rfl ?_
    refine hz_iconst (v := (-1 : Int32)) hO dX10_init_144 (by decide) ?_
    obtain ⟨M1, h_M1, h⟩ := hz_lm_e h
    refine hz_putI (k := 9) (ty := .int) hO hz_K_8 tyX10_ok nmX10 hz_sh_0 (hz_lt_0 hN) rfl (Nat.le_of_ble_eq_true rfl) tw_3_52 rfl rfl rfl rfl rfl dX10_init_145 ?_
    refine hz_nameM h_M1 ?_
    refine hz_aload_n hO dX10_init_148 rfl 0 rfl ?_
    refine hz_getR (k := 2) hO 9 hz_K_8 hz_sh_0 (hz_lt_0 hN) rfl (Nat.le_of_ble_eq_true rfl) tw_3_45 rfl dX10_init_149 ?_
    refine hz_ldcS (i := 0) hO (List.mem_of_getElem? (i := 6) rfl) dX10_init_152 ?_
    obtain ⟨r2, M3, hq4, h⟩ := hz_ct_e h
    refine hz_callVv (as := [.ref (hz_sa w 0)]) (rest := []) hO (c_X8_appendText l w hN 0 hq4) hz_cal_X8_appendText hz_K_6 hz_sh_9 (hz_lt_9 hN) tw_2_126 (Nat.le_of_ble_eq_true rfl) rfl rfl (Nat.le_of_ble_eq_true rfl) dX10_init_154 ?_
    refine hz_aload_n hO dX10_init_157 rfl 0 rfl ?_
    refine hz_getR (k := 0) hO 1 hz_K_8 hz_sh_0 (hz_lt_0 hN) rfl (Nat.le_of_ble_eq_true rfl) tw_3_43 rfl dX10_init_158 ?_
    refine hz_aload_n hO dX10_init_161 rfl 0 rfl ?_
    refine hz_getR (k := 2) hO 9 hz_K_8 hz_sh_0 (hz_lt_0 hN) rfl (Nat.le_of_ble_eq_true rfl) tw_3_45 rfl dX10_init_162 ?_
    obtain ⟨r5, M6, hq7, h⟩ := hz_ct_e h
    refine hz_callVv (as := [.ref (hz_ad w 9)]) (rest := []) hO (c_X3_read l w hN (hz_ho_1 hN) hq7) hz_cal_X3_read hz_K_2 hz_sh_1 (hz_lt_1 hN) tw_2_182 (Nat.le_of_ble_eq_true rfl) rfl rfl (Nat.le_of_ble_eq_true rfl) dX10_init_165 ?_
    refine hz_aload_n hO dX10_init_168 rfl 0 rfl ?_
    refine hz_getR (k := 2) hO 9 hz_K_8 hz_sh_0 (hz_lt_0 hN) rfl (Nat.le_of_ble_eq_true rfl) tw_3_45 rfl dX10_init_169 ?_
    obtain ⟨r8, M9, hq10, h⟩ := hz_ct_e h
    refine hz_callVv (as := []) (rest := []) hO (c_X8_clear l w hN hq10) hz_cal_X8_clear hz_K_6 hz_sh_9 (hz_lt_9 hN) tw_3_28 (Nat.le_of_ble_eq_true rfl) rfl rfl (Nat.le_of_ble_eq_true rfl) dX10_init_172 ?_
    refine hz_aload_n hO dX10_init_175 rfl 0 rfl ?_
    refine hz_getR (k := 3) hO 11 hz_K_8 hz_sh_0 (hz_lt_0 hN) rfl (Nat.le_of_ble_eq_true rfl) tw_3_46 rfl dX10_init_176 ?_
    obtain ⟨r11, M12, hq13, h⟩ := hz_ct_e h
    refine hz_callVv (as := []) (rest := []) hO (c_X7_begin l w hN hq13) hz_cal_X7_begin hz_K_5 hz_sh_11 (hz_lt_11 hN) tw_3_32 (Nat.le_of_ble_eq_true rfl) rfl rfl (Nat.le_of_ble_eq_true rfl) dX10_init_179 ?_
    exact hz_nameM (hz_some_e h).2.symm (hz_vret hO dX10_init_182)
  show hz_B p l e 12 ((177, 3554), (0, 0)) s m args below meth c w 1 _ [] [.inr (8, [.null, .null, .null, .null, .null, .null, .null, .null, .null, .int 0])] 0 [(0, .ref (hz_ad w 0))] []
  refine hz_b_S (S1 := .inr (8, [.null, .null, .null, .null, .null, .null, .null, .null, .null, .int 0]) :: hz_cw w 0) rfl ?_
  refine hz_b_aload_n hO dX10_init_0 rfl 0 rfl ?_
  refine hz_b_obj hO tw_1_33 (Nat.le_of_ble_eq_true rfl) (Nat.le_of_ble_eq_true rfl) dX10_init_1 ?_
  refine hz_b_aload_n hO dX10_init_4 rfl 0 rfl ?_
  refine hz_b_new hO hz_K_2 tyX3 tyX3_ok tw_1_36 tw_1_37 tw_1_2 (fs := [.null, .null, .null, .int 0, .int 0, .int 0, .int 0, .int 0, .int 0, .int 0, .int 0, .int 0]) (by decide) ⟨(Nat.le_of_ble_eq_true rfl), (Nat.le_of_ble_eq_true rfl)⟩ dX10_init_5 ?_
  refine hz_b_S (S1 := .inr (8, [.null, .null, .null, .null, .null, .null, .null, .null, .null, .int 0]) :: (hz_cw w 0 ++ [.inr (2, [.null, .null, .null, .int 0, .int 0, .int 0, .int 0, .int 0, .int 0, .int 0, .int 0, .int 0])])) rfl ?_
  refine hz_b_st (st1 := [.ref (hz_ad w 1), .ref (hz_ad w 0)]) (by rw [List.length_nil, Nat.zero_add, List.length_cons, hz_cw_len rfl]) ?_
  refine hz_b_dup hO dX10_init_8 rfl ?_
  refine hz_b_callN (mc := 3) (ms := 128) (hc := 1) (x := hz_ad w 1) (as := []) (rest := [.ref (hz_ad w 1), .ref (hz_ad w 0)]) (S1 := .inr (8, [.null, .null, .null, .null, .null, .null, .null, .null, .null, .int 0]) :: hz_cw w 4) hO ?_ hz_cal_X3_init (List.mem_of_getElem? (i := 3) rfl) (Nat.le_of_ble_eq_true rfl) rfl rfl (Nat.le_of_ble_eq_true rfl) ⟨(Nat.le_of_ble_eq_true rfl), (Nat.le_of_ble_eq_true rfl)⟩ (by rw [List.length_cons, List.length_cons, List.length_append, hz_cw_len rfl, hz_cw_len rfl]; rfl) dX10_init_9 ?_
  · have hC := c_X3_init l w (.inr (8, [.null, .null, .null, .null, .null, .null, .null, .null, .null, .int 0]) :: hz_cw w 0) (by rw [List.length_cons, hz_cw_len rfl])
    exact hz_CBto hC rfl (congrArg (fun z => _ :: z) (hz_cw_app (w := w) (k := 0) (m := 4) rfl))
  refine hz_b_put (j := 0) (k := 0) hO hin hz_K_8 tyX10_ok nmX10 rfl (Nat.le_of_ble_eq_true rfl) tw_3_43 rfl rfl rfl rfl rfl (Nat.le_of_ble_eq_true rfl) dX10_init_12 ?_
  refine hz_b_S (S1 := .inr (8, [.ref (hz_ad w 1), .null, .null, .null, .null, .null, .null, .null, .null, .int 0]) :: hz_cw w 4) rfl ?_
  refine hz_b_aload_n hO dX10_init_15 rfl 0 rfl ?_
  refine hz_b_new hO hz_K_2 tyX3 tyX3_ok tw_1_36 tw_1_37 tw_1_2 (fs := [.null, .null, .null, .int 0, .int 0, .int 0, .int 0, .int 0, .int 0, .int 0, .int 0, .int 0]) (by decide) ⟨(Nat.le_of_ble_eq_true rfl), (Nat.le_of_ble_eq_true rfl)⟩ dX10_init_16 ?_
  refine hz_b_S (S1 := .inr (8, [.ref (hz_ad w 1), .null, .null, .null, .null, .null, .null, .null, .null, .int 0]) :: (hz_cw w 4 ++ [.inr (2, [.null, .null, .null, .int 0, .int 0, .int 0, .int 0, .int 0, .int 0, .int 0, .int 0, .int 0])])) rfl ?_
  refine hz_b_st (st1 := [.ref (hz_ad w 5), .ref (hz_ad w 0)]) (by rw [List.length_nil, Nat.zero_add, List.length_cons, hz_cw_len rfl]) ?_
  refine hz_b_dup hO dX10_init_19 rfl ?_
  refine hz_b_callN (mc := 3) (ms := 128) (hc := 1) (x := hz_ad w 5) (as := []) (rest := [.ref (hz_ad w 5), .ref (hz_ad w 0)]) (S1 := .inr (8, [.ref (hz_ad w 1), .null, .null, .null, .null, .null, .null, .null, .null, .int 0]) :: hz_cw w 8) hO ?_ hz_cal_X3_init (List.mem_of_getElem? (i := 3) rfl) (Nat.le_of_ble_eq_true rfl) rfl rfl (Nat.le_of_ble_eq_true rfl) ⟨(Nat.le_of_ble_eq_true rfl), (Nat.le_of_ble_eq_true rfl)⟩ (by rw [List.length_cons, List.length_cons, List.length_append, hz_cw_len rfl, hz_cw_len rfl]; rfl) dX10_init_20 ?_
  · have hC := c_X3_init l w (.inr (8, [.ref (hz_ad w 1), .null, .null, .null, .null, .null, .null, .null, .null, .int 0]) :: hz_cw w 4) (by rw [List.length_cons, hz_cw_len rfl])
    exact hz_CBto hC rfl (congrArg (fun z => _ :: z) (hz_cw_app (w := w) (k := 4) (m := 8) rfl))
  refine hz_b_put (j := 0) (k := 1) hO hin hz_K_8 tyX10_ok nmX10 rfl (Nat.le_of_ble_eq_true rfl) tw_3_44 rfl rfl rfl rfl rfl (Nat.le_of_ble_eq_true rfl) dX10_init_23 ?_
  refine hz_b_S (S1 := .inr (8, [.ref (hz_ad w 1), .ref (hz_ad w 5), .null, .null, .null, .null, .null, .null, .null, .int 0]) :: hz_cw w 8) rfl ?_
  refine hz_b_aload_n hO dX10_init_26 rfl 0 rfl ?_
  refine hz_b_new hO hz_K_6 tyX8 tyX8_ok tw_1_103 tw_1_104 tw_1_3 (fs := [.null, .int 0, .int 0, .int 0, .int 0, .int 0, .int 0, .int 0]) (by decide) ⟨(Nat.le_of_ble_eq_true rfl), (Nat.le_of_ble_eq_true rfl)⟩ dX10_init_27 ?_
  refine hz_b_S (S1 := .inr (8, [.ref (hz_ad w 1), .ref (hz_ad w 5), .null, .null, .null, .null, .null, .null, .null, .int 0]) :: (hz_cw w 8 ++ [.inr (6, [.null, .int 0, .int 0, .int 0, .int 0, .int 0, .int 0, .int 0])])) rfl ?_
  refine hz_b_st (st1 := [.ref (hz_ad w 9), .ref (hz_ad w 0)]) (by rw [List.length_nil, Nat.zero_add, List.length_cons, hz_cw_len rfl]) ?_
  refine hz_b_dup hO dX10_init_30 rfl ?_
  refine hz_b_callN (mc := 1) (ms := 600) (hc := 1) (x := hz_ad w 9) (as := []) (rest := [.ref (hz_ad w 9), .ref (hz_ad w 0)]) (S1 := .inr (8, [.ref (hz_ad w 1), .ref (hz_ad w 5), .null, .null, .null, .null, .null, .null, .null, .int 0]) :: hz_cw w 10) hO ?_ hz_cal_X8_init (List.mem_of_getElem? (i := 2) rfl) (Nat.le_of_ble_eq_true rfl) rfl rfl (Nat.le_of_ble_eq_true rfl) ⟨(Nat.le_of_ble_eq_true rfl), (Nat.le_of_ble_eq_true rfl)⟩ (by rw [List.length_cons, List.length_cons, List.length_append, hz_cw_len rfl, hz_cw_len rfl]; rfl) dX10_init_31 ?_
  · have hC := c_X8_init l w (.inr (8, [.ref (hz_ad w 1), .ref (hz_ad w 5), .null, .null, .null, .null, .null, .null, .null, .int 0]) :: hz_cw w 8) (by rw [List.length_cons, hz_cw_len rfl])
    exact hz_CBto hC rfl (congrArg (fun z => _ :: z) (hz_cw_app (w := w) (k := 8) (m := 10) rfl))
  refine hz_b_put (j := 0) (k := 2) hO hin hz_K_8 tyX10_ok nmX10 rfl (Nat.le_of_ble_eq_true rfl) tw_3_45 rfl rfl rfl rfl rfl (Nat.le_of_ble_eq_true rfl) dX10_init_34 ?_
  refine hz_b_S (S1 := .inr (8, [.ref (hz_ad w 1), .ref (hz_ad w 5), .ref (hz_ad w 9), .null, .null, .null, .null, .null, .null, .int 0]) :: hz_cw w 10) rfl ?_
  refine hz_b_aload_n hO dX10_init_37 rfl 0 rfl ?_
  refine hz_b_new hO hz_K_5 tyX7 tyX7_ok tw_1_145 tw_1_146 tw_1_4 (fs := [.null, .null, .null, .null, .null, .null, .null, .null, .null, .null, .null, .null, .null, .null, .int 0, .int 0, .int 0, .int 0, .int 0, .int 0]) (by decide) ⟨(Nat.le_of_ble_eq_true rfl), (Nat.le_of_ble_eq_true rfl)⟩ dX10_init_38 ?_
  refine hz_b_S (S1 := .inr (8, [.ref (hz_ad w 1), .ref (hz_ad w 5), .ref (hz_ad w 9), .null, .null, .null, .null, .null, .null, .int 0]) :: (hz_cw w 10 ++ [.inr (5, [.null, .null, .null, .null, .null, .null, .null, .null, .null, .null, .null, .null, .null, .null, .int 0, .int 0, .int 0, .int 0, .int 0, .int 0])])) rfl ?_
  refine hz_b_st (st1 := [.ref (hz_ad w 11), .ref (hz_ad w 0)]) (by rw [List.length_nil, Nat.zero_add, List.length_cons, hz_cw_len rfl]) ?_
  refine hz_b_dup hO dX10_init_41 rfl ?_
  refine hz_b_aload_n hO dX10_init_42 rfl 0 rfl ?_
  refine hz_b_get (j := 0) (k := 0) hO hz_K_8 rfl rfl (Nat.le_of_ble_eq_true rfl) tw_3_43 rfl dX10_init_43 ?_
  refine hz_b_call (mc := 13) (ms := 185) (hc := 1) (x := hz_ad w 11) (as := [.ref (hz_ad w 1)]) (rest := [.ref (hz_ad w 11), .ref (hz_ad w 0)]) (S1 := .inr (8, [.ref (hz_ad w 1), .ref (hz_ad w 5), .ref (hz_ad w 9), .null, .null, .null, .null, .null, .null, .int 0]) :: hz_cw w 24) hO ?_ hz_cal_X7_init tw_1_147 (Nat.le_of_ble_eq_true rfl) rfl rfl (Nat.le_of_ble_eq_true rfl) ⟨(Nat.le_of_ble_eq_true rfl), (Nat.le_of_ble_eq_true rfl)⟩ (by rw [List.length_cons, List.length_cons, List.length_append, hz_cw_len rfl, hz_cw_len rfl]; rfl) dX10_init_46 ?_
  · have hC := c_X7_init l w (.inr (8, [.ref (hz_ad w 1), .ref (hz_ad w 5), .ref (hz_ad w 9), .null, .null, .null, .null, .null, .null, .int 0]) :: hz_cw w 10) (by rw [List.length_cons, hz_cw_len rfl])
    exact hz_CBto hC rfl (congrArg (fun z => _ :: z) (hz_cw_app (w := w) (k := 10) (m := 24) rfl))
  refine hz_b_put (j := 0) (k := 3) hO hin hz_K_8 tyX10_ok nmX10 rfl (Nat.le_of_ble_eq_true rfl) tw_3_46 rfl rfl rfl rfl rfl (Nat.le_of_ble_eq_true rfl) dX10_init_49 ?_
  refine hz_b_S (S1 := .inr (8, [.ref (hz_ad w 1), .ref (hz_ad w 5), .ref (hz_ad w 9), .ref (hz_ad w 11), .null, .null, .null, .null, .null, .int 0]) :: hz_cw w 24) rfl ?_
  refine hz_b_aload_n hO dX10_init_52 rfl 0 rfl ?_
  refine hz_b_new hO hz_K_7 tyX9 tyX9_ok tw_2_10 tw_2_11 tw_1_5 (fs := [.null, .null]) (by decide) ⟨(Nat.le_of_ble_eq_true rfl), (Nat.le_of_ble_eq_true rfl)⟩ dX10_init_53 ?_
  refine hz_b_S (S1 := .inr (8, [.ref (hz_ad w 1), .ref (hz_ad w 5), .ref (hz_ad w 9), .ref (hz_ad w 11), .null, .null, .null, .null, .null, .int 0]) :: (hz_cw w 24 ++ [.inr (7, [.null, .null])])) rfl ?_
  refine hz_b_st (st1 := [.ref (hz_ad w 25), .ref (hz_ad w 0)]) (by rw [List.length_nil, Nat.zero_add, List.length_cons, hz_cw_len rfl]) ?_
  refine hz_b_dup hO dX10_init_56 rfl ?_
  refine hz_b_aload_n hO dX10_init_57 rfl 0 rfl ?_
  refine hz_b_get (j := 0) (k := 0) hO hz_K_8 rfl rfl (Nat.le_of_ble_eq_true rfl) tw_3_43 rfl dX10_init_58 ?_
  refine hz_b_aload_n hO dX10_init_61 rfl 0 rfl ?_
  refine hz_b_get (j := 0) (k := 3) hO hz_K_8 rfl rfl (Nat.le_of_ble_eq_true rfl) tw_3_46 rfl dX10_init_62 ?_
  refine hz_b_call (mc := 0) (ms := 0) (hc := 1) (x := hz_ad w 25) (as := [.ref (hz_ad w 1), .ref (hz_ad w 11)]) (rest := [.ref (hz_ad w 25), .ref (hz_ad w 0)]) (S1 := .inr (8, [.ref (hz_ad w 1), .ref (hz_ad w 5), .ref (hz_ad w 9), .ref (hz_ad w 11), .null, .null, .null, .null, .null, .int 0]) :: hz_cw w 25) hO ?_ hz_cal_X9_init tw_2_12 (Nat.le_of_ble_eq_true rfl) rfl rfl (Nat.le_of_ble_eq_true rfl) ⟨(Nat.le_of_ble_eq_true rfl), (Nat.le_of_ble_eq_true rfl)⟩ (by rw [List.length_cons, List.length_cons, List.length_append, hz_cw_len rfl, hz_cw_len rfl]; rfl) dX10_init_65 ?_
  · have hC := c_X9_init l w (.inr (8, [.ref (hz_ad w 1), .ref (hz_ad w 5), .ref (hz_ad w 9), .ref (hz_ad w 11), .null, .null, .null, .null, .null, .int 0]) :: hz_cw w 24) (by rw [List.length_cons, hz_cw_len rfl])
    exact hz_CBto hC rfl (congrArg (fun z => _ :: z) (hz_cw_app (w := w) (k := 24) (m := 25) rfl))
  refine hz_b_put (j := 0) (k := 4) hO hin hz_K_8 tyX10_ok nmX10 rfl (Nat.le_of_ble_eq_true rfl) tw_3_47 rfl rfl rfl rfl rfl (Nat.le_of_ble_eq_true rfl) dX10_init_68 ?_
  refine hz_b_S (S1 := .inr (8, [.ref (hz_ad w 1), .ref (hz_ad w 5), .ref (hz_ad w 9), .ref (hz_ad w 11), .ref (hz_ad w 25), .null, .null, .null, .null, .int 0]) :: hz_cw w 25) rfl ?_
  refine hz_b_aload_n hO dX10_init_71 rfl 0 rfl ?_
  refine hz_b_new hO hz_K_0 tyX1 tyX1_ok tw_2_23 tw_2_24 tw_1_6 (fs := [.null, .null, .null, .int 0]) (by decide) ⟨(Nat.le_of_ble_eq_true rfl), (Nat.le_of_ble_eq_true rfl)⟩ dX10_init_72 ?_
  refine hz_b_S (S1 := .inr (8, [.ref (hz_ad w 1), .ref (hz_ad w 5), .ref (hz_ad w 9), .ref (hz_ad w 11), .ref (hz_ad w 25), .null, .null, .null, .null, .int 0]) :: (hz_cw w 25 ++ [.inr (0, [.null, .null, .null, .int 0])])) rfl ?_
  refine hz_b_st (st1 := [.ref (hz_ad w 26), .ref (hz_ad w 0)]) (by rw [List.length_nil, Nat.zero_add, List.length_cons, hz_cw_len rfl]) ?_
  refine hz_b_dup hO dX10_init_75 rfl ?_
  refine hz_b_aload_n hO dX10_init_76 rfl 0 rfl ?_
  refine hz_b_get (j := 0) (k := 0) hO hz_K_8 rfl rfl (Nat.le_of_ble_eq_true rfl) tw_3_43 rfl dX10_init_77 ?_
  refine hz_b_aload_n hO dX10_init_80 rfl 0 rfl ?_
  refine hz_b_get (j := 0) (k := 3) hO hz_K_8 rfl rfl (Nat.le_of_ble_eq_true rfl) tw_3_46 rfl dX10_init_81 ?_
  refine hz_b_aload_n hO dX10_init_84 rfl 0 rfl ?_
  refine hz_b_get (j := 0) (k := 4) hO hz_K_8 rfl rfl (Nat.le_of_ble_eq_true rfl) tw_3_47 rfl dX10_init_85 ?_
  refine hz_b_call (mc := 0) (ms := 0) (hc := 1) (x := hz_ad w 26) (as := [.ref (hz_ad w 1), .ref (hz_ad w 11), .ref (hz_ad w 25)]) (rest := [.ref (hz_ad w 26), .ref (hz_ad w 0)]) (S1 := .inr (8, [.ref (hz_ad w 1), .ref (hz_ad w 5), .ref (hz_ad w 9), .ref (hz_ad w 11), .ref (hz_ad w 25), .null, .null, .null, .null, .int 0]) :: hz_cw w 26) hO ?_ hz_cal_X1_init tw_2_25 (Nat.le_of_ble_eq_true rfl) rfl rfl (Nat.le_of_ble_eq_true rfl) ⟨(Nat.le_of_ble_eq_true rfl), (Nat.le_of_ble_eq_true rfl)⟩ (by rw [List.length_cons, List.length_cons, List.length_append, hz_cw_len rfl, hz_cw_len rfl]; rfl) dX10_init_88 ?_
  · have hC := c_X1_init l w (.inr (8, [.ref (hz_ad w 1), .ref (hz_ad w 5), .ref (hz_ad w 9), .ref (hz_ad w 11), .ref (hz_ad w 25), .null, .null, .null, .null, .int 0]) :: hz_cw w 25) (by rw [List.length_cons, hz_cw_len rfl])
    exact hz_CBto hC rfl (congrArg (fun z => _ :: z) (hz_cw_app (w := w) (k := 25) (m := 26) rfl))
  refine hz_b_put (j := 0) (k := 5) hO hin hz_K_8 tyX10_ok nmX10 rfl (Nat.le_of_ble_eq_true rfl) tw_3_48 rfl rfl rfl rfl rfl (Nat.le_of_ble_eq_true rfl) dX10_init_91 ?_
  refine hz_b_S (S1 := .inr (8, [.ref (hz_ad w 1), .ref (hz_ad w 5), .ref (hz_ad w 9), .ref (hz_ad w 11), .ref (hz_ad w 25), .ref (hz_ad w 26), .null, .null, .null, .int 0]) :: hz_cw w 26) rfl ?_
  refine hz_b_aload_n hO dX10_init_94 rfl 0 rfl ?_
  refine hz_b_new hO hz_K_4 tyX6 tyX6_ok tw_2_43 tw_2_44 tw_1_7 (fs := [.null, .null, .null, .null, .null, .null, .int 0, .int 0, .int 0]) (by decide) ⟨(Nat.le_of_ble_eq_true rfl), (Nat.le_of_ble_eq_true rfl)⟩ dX10_init_95 ?_
  refine hz_b_S (S1 := .inr (8, [.ref (hz_ad w 1), .ref (hz_ad w 5), .ref (hz_ad w 9), .ref (hz_ad w 11), .ref (hz_ad w 25), .ref (hz_ad w 26), .null, .null, .null, .int 0]) :: (hz_cw w 26 ++ [.inr (4, [.null, .null, .null, .null, .null, .null, .int 0, .int 0, .int 0])])) rfl ?_
  refine hz_b_st (st1 := [.ref (hz_ad w 27), .ref (hz_ad w 0)]) (by rw [List.length_nil, Nat.zero_add, List.length_cons, hz_cw_len rfl]) ?_
  refine hz_b_dup hO dX10_init_98 rfl ?_
  refine hz_b_aload_n hO dX10_init_99 rfl 0 rfl ?_
  refine hz_b_get (j := 0) (k := 0) hO hz_K_8 rfl rfl (Nat.le_of_ble_eq_true rfl) tw_3_43 rfl dX10_init_100 ?_
  refine hz_b_aload_n hO dX10_init_103 rfl 0 rfl ?_
  refine hz_b_get (j := 0) (k := 5) hO hz_K_8 rfl rfl (Nat.le_of_ble_eq_true rfl) tw_3_48 rfl dX10_init_104 ?_
  refine hz_b_call (mc := 4) (ms := 120) (hc := 1) (x := hz_ad w 27) (as := [.ref (hz_ad w 1), .ref (hz_ad w 26)]) (rest := [.ref (hz_ad w 27), .ref (hz_ad w 0)]) (S1 := .inr (8, [.ref (hz_ad w 1), .ref (hz_ad w 5), .ref (hz_ad w 9), .ref (hz_ad w 11), .ref (hz_ad w 25), .ref (hz_ad w 26), .null, .null, .null, .int 0]) :: hz_cw w 31) hO ?_ hz_cal_X6_init tw_2_45 (Nat.le_of_ble_eq_true rfl) rfl rfl (Nat.le_of_ble_eq_true rfl) ⟨(Nat.le_of_ble_eq_true rfl), (Nat.le_of_ble_eq_true rfl)⟩ (by rw [List.length_cons, List.length_cons, List.length_append, hz_cw_len rfl, hz_cw_len rfl]; rfl) dX10_init_107 ?_
  · have hC := c_X6_init l w (.inr (8, [.ref (hz_ad w 1), .ref (hz_ad w 5), .ref (hz_ad w 9), .ref (hz_ad w 11), .ref (hz_ad w 25), .ref (hz_ad w 26), .null, .null, .null, .int 0]) :: hz_cw w 26) (by rw [List.length_cons, hz_cw_len rfl])
    exact hz_CBto hC rfl (congrArg (fun z => _ :: z) (hz_cw_app (w := w) (k := 26) (m := 31) rfl))
  refine hz_b_put (j := 0) (k := 6) hO hin hz_K_8 tyX10_ok nmX10 rfl (Nat.le_of_ble_eq_true rfl) tw_3_49 rfl rfl rfl rfl rfl (Nat.le_of_ble_eq_true rfl) dX10_init_110 ?_
  refine hz_b_S (S1 := .inr (8, [.ref (hz_ad w 1), .ref (hz_ad w 5), .ref (hz_ad w 9), .ref (hz_ad w 11), .ref (hz_ad w 25), .ref (hz_ad w 26), .ref (hz_ad w 27), .null, .null, .int 0]) :: hz_cw w 31) rfl ?_
  refine hz_b_aload_n hO dX10_init_113 rfl 0 rfl ?_
  refine hz_b_new hO hz_K_1 tyX2 tyX2_ok tw_2_81 tw_2_82 tw_1_8 (fs := [.null, .null, .null, .int 0, .int 0]) (by decide) ⟨(Nat.le_of_ble_eq_true rfl), (Nat.le_of_ble_eq_true rfl)⟩ dX10_init_114 ?_
  refine hz_b_S (S1 := .inr (8, [.ref (hz_ad w 1), .ref (hz_ad w 5), .ref (hz_ad w 9), .ref (hz_ad w 11), .ref (hz_ad w 25), .ref (hz_ad w 26), .ref (hz_ad w 27), .null, .null, .int 0]) :: (hz_cw w 31 ++ [.inr (1, [.null, .null, .null, .int 0, .int 0])])) rfl ?_
  refine hz_b_st (st1 := [.ref (hz_ad w 32), .ref (hz_ad w 0)]) (by rw [List.length_nil, Nat.zero_add, List.length_cons, hz_cw_len rfl]) ?_
  refine hz_b_dup hO dX10_init_117 rfl ?_
  refine hz_b_aload_n hO dX10_init_118 rfl 0 rfl ?_
  refine hz_b_get (j := 0) (k := 0) hO hz_K_8 rfl rfl (Nat.le_of_ble_eq_true rfl) tw_3_43 rfl dX10_init_119 ?_
  refine hz_b_call (mc := 143) (ms := 2062) (hc := 2) (x := hz_ad w 32) (as := [.ref (hz_ad w 1)]) (rest := [.ref (hz_ad w 32), .ref (hz_ad w 0)]) (S1 := .inr (8, [.ref (hz_ad w 1), .ref (hz_ad w 5), .ref (hz_ad w 9), .ref (hz_ad w 11), .ref (hz_ad w 25), .ref (hz_ad w 26), .ref (hz_ad w 27), .null, .null, .int 0]) :: hz_cw w 175) hO ?_ hz_cal_X2_init tw_2_83 (Nat.le_of_ble_eq_true rfl) rfl rfl (Nat.le_of_ble_eq_true rfl) ⟨(Nat.le_of_ble_eq_true rfl), (Nat.le_of_ble_eq_true rfl)⟩ (by rw [List.length_cons, List.length_cons, List.length_append, hz_cw_len rfl, hz_cw_len rfl]; rfl) dX10_init_122 ?_
  · have hC := c_X2_init l w (.inr (8, [.ref (hz_ad w 1), .ref (hz_ad w 5), .ref (hz_ad w 9), .ref (hz_ad w 11), .ref (hz_ad w 25), .ref (hz_ad w 26), .ref (hz_ad w 27), .null, .null, .int 0]) :: hz_cw w 31) (by rw [List.length_cons, hz_cw_len rfl])
    rw [List.length_cons, hz_cw_len rfl] at hC
    exact hz_CBto hC rfl (congrArg (fun z => _ :: z) (hz_cw_app (w := w) (k := 31) (m := 175) rfl))
  refine hz_b_put (j := 0) (k := 7) hO hin hz_K_8 tyX10_ok nmX10 rfl (Nat.le_of_ble_eq_true rfl) tw_3_50 rfl rfl rfl rfl rfl (Nat.le_of_ble_eq_true rfl) dX10_init_125 ?_
  refine hz_b_S (S1 := .inr (8, [.ref (hz_ad w 1), .ref (hz_ad w 5), .ref (hz_ad w 9), .ref (hz_ad w 11), .ref (hz_ad w 25), .ref (hz_ad w 26), .ref (hz_ad w 27), .ref (hz_ad w 32), .null, .int 0]) :: hz_cw w 175) rfl ?_
  refine hz_b_aload_n hO dX10_init_128 rfl 0 rfl ?_
  refine hz_b_new hO hz_K_3 tyX5 tyX5_ok tw_2_108 tw_2_109 tw_1_9 (fs := [.null, .null, .int 0]) (by decide) ⟨(Nat.le_of_ble_eq_true rfl), (Nat.le_of_ble_eq_true rfl)⟩ dX10_init_129 ?_
  refine hz_b_S (S1 := .inr (8, [.ref (hz_ad w 1), .ref (hz_ad w 5), .ref (hz_ad w 9), .ref (hz_ad w 11), .ref (hz_ad w 25), .ref (hz_ad w 26), .ref (hz_ad w 27), .ref (hz_ad w 32), .null, .int 0]) :: (hz_cw w 175 ++ [.inr (3, [.null, .null, .int 0])])) rfl ?_
  refine hz_b_st (st1 := [.ref (hz_ad w 176), .ref (hz_ad w 0)]) (by rw [List.length_nil, Nat.zero_add, List.length_cons, hz_cw_len rfl]) ?_
  refine hz_b_dup hO dX10_init_132 rfl ?_
  refine hz_b_aload_n hO dX10_init_133 rfl 0 rfl ?_
  refine hz_b_get (j := 0) (k := 0) hO hz_K_8 rfl rfl (Nat.le_of_ble_eq_true rfl) tw_3_43 rfl dX10_init_134 ?_
  refine hz_b_call (mc := 1) (ms := 256) (hc := 1) (x := hz_ad w 176) (as := [.ref (hz_ad w 1)]) (rest := [.ref (hz_ad w 176), .ref (hz_ad w 0)]) (S1 := .inr (8, [.ref (hz_ad w 1), .ref (hz_ad w 5), .ref (hz_ad w 9), .ref (hz_ad w 11), .ref (hz_ad w 25), .ref (hz_ad w 26), .ref (hz_ad w 27), .ref (hz_ad w 32), .null, .int 0]) :: hz_cw w 177) hO ?_ hz_cal_X5_init tw_2_110 (Nat.le_of_ble_eq_true rfl) rfl rfl (Nat.le_of_ble_eq_true rfl) ⟨(Nat.le_of_ble_eq_true rfl), (Nat.le_of_ble_eq_true rfl)⟩ (by rw [List.length_cons, List.length_cons, List.length_append, hz_cw_len rfl, hz_cw_len rfl]; rfl) dX10_init_137 ?_
  · have hC := c_X5_init l w (.inr (8, [.ref (hz_ad w 1), .ref (hz_ad w 5), .ref (hz_ad w 9), .ref (hz_ad w 11), .ref (hz_ad w 25), .ref (hz_ad w 26), .ref (hz_ad w 27), .ref (hz_ad w 32), .null, .int 0]) :: hz_cw w 175) (by rw [List.length_cons, hz_cw_len rfl])
    exact hz_CBto hC rfl (congrArg (fun z => _ :: z) (hz_cw_app (w := w) (k := 175) (m := 177) rfl))
  refine hz_b_put (j := 0) (k := 8) hO hin hz_K_8 tyX10_ok nmX10 rfl (Nat.le_of_ble_eq_true rfl) tw_3_51 rfl rfl rfl rfl rfl (Nat.le_of_ble_eq_true rfl) dX10_init_140 ?_
  refine hz_b_S (S1 := .inr (8, [.ref (hz_ad w 1), .ref (hz_ad w 5), .ref (hz_ad w 9), .ref (hz_ad w 11), .ref (hz_ad w 25), .ref (hz_ad w 26), .ref (hz_ad w 27), .ref (hz_ad w 32), .ref (hz_ad w 176), .int 0]) :: hz_cw w 177) rfl ?_
  refine hz_b_z (z1 := ((177, 3554), (177, 3554))) rfl ?_
  refine hz_b_toG (N := 178) (M := fun _ _ => 0) (by rw [hz_wl_0]; rfl) ?_
  exact key _ h
def f_X11_init (M : hz_M) : hz_O :=
  hz_ct (f_X11_takesText 0 M) fun r1 M2 =>
  some (0, M2)
theorem hz_cal_X11_init : hz_CalI RX11 yX11_init cX11_init 1 0 := ⟨⟨tw_6_150, tw_1_16, ⟨rfl, by decide, by decide, by decide +kernel⟩, Nat.le_of_ble_eq_true rfl⟩, tw_6_149, rfl⟩
def hz_m1 (M : hz_M) : hz_M := fun a b => if a < 178 then M a b else if a = 178 ∧ b = 12 then -1 else 0
set_option maxRecDepth 100000 in
theorem hz_m1_wl (w : hz_C) (M : hz_M) : hz_wl w 178 M ++ [.inr (9, [.ref (hz_ad w (178 + 1)), .ref (hz_ad w (178 + 2)), .ref (hz_ad w (178 + 3)), .ref (hz_ad w (178 + 4)), .ref (hz_ad w (178 + 5)), .ref (hz_ad w (178 + 6)), .int 0, .int 0, .int 0, .ref (hz_ad w (178 + 7)), .ref (hz_ad w (178 + 8)), .int 0, .int (-1 : Int32), .int 0, .int 0, .int 0, .int 0, .int 0, .ref (hz_ad w (178 + 9)), .ref (hz_ad w (178 + 10)), .ref (hz_ad w (178 + 11)), .ref (hz_ad w (178 + 12)), .int 0, .int 0, .int 0, .ref (hz_ad w (178 + 13)), .ref (hz_ad w (178 + 14)), .int 0]), .inl (hz_tc w 0, 185, .inl (fun _ => 0)), .inl (hz_tc w 0, 185, .inl (fun _ => 0)), .inl (hz_tc w 0, 185, .inl (fun _ => 0)), .inl (hz_tc w 0, 1480, .inl (fun _ => 0)), .inl (hz_tc w 0, 370, .inl (fun _ => 0)), .inl (hz_tc w 1, 2, .inl (fun _ => 0)), .inl (hz_tc w 1, 16, .inl (fun _ => 0)), .inl (hz_tc w 0, 600, .inl (fun _ => 0)), .inl (hz_tc w 0, 30, .inl (fun _ => 0)), .inl (hz_tc w 0, 30, .inl (fun _ => 0)), .inl (hz_tc w 0, 30, .inl (fun _ => 0)), .inl (hz_tc w 0, 30, .inl (fun _ => 0)), .inl (hz_tc w 0, 400, .inl (fun _ => 0)), .inl (hz_tc w 0, 8, .inl (fun _ => 0))] = hz_wl w 193 (hz_m1 M) := by
  have h1 : hz_SH.take 193 = hz_SH.take 178 ++ (hz_SH.drop 178).take 15 := by rw [← List.take_add]
  have h2 : (hz_SH.take 178).length = 178 := by decide +kernel
  have h3 : (hz_SH.take 178).mapIdx (fun i sh => hz_cell w (hz_m1 M i) sh) = hz_wl w 178 M := by
    apply List.ext_getElem?
    intro j
    simp only [hz_wl, List.getElem?_mapIdx]
    by_cases hj : j < 178
    · have e1 : hz_m1 M j = M j := by
        funext b
        simp [hz_m1, hj]
      rw [e1]
    · rw [List.getElem?_eq_none (by rw [h2]; omega)]
      rfl
  have e : ∀ a, 178 < a → hz_m1 M a = fun _ => 0 := by
    intro a ha
    funext b
    simp only [hz_m1]
    rw [if_neg (by omega), if_neg (by omega)]
  have e0 : hz_m1 M 178 = fun b => if b = 12 then -1 else 0 := by
    funext b
    simp [hz_m1]
  have h4 : (hz_SH.drop 178).take 15 = [.inl (9, [some 179, some 180, some 181, some 182, some 183, some 184, none, none, none, some 185, some 186, none, none, none, none, none, none, none, some 187, some 188, some 189, some 190, none, none, none, some 191, some 192, none]), .inr (.inl (0, 185)), .inr (.inl (0, 185)), .inr (.inl (0, 185)), .inr (.inl (0, 1480)), .inr (.inl (0, 370)), .inr (.inl (1, 2)), .inr (.inl (1, 16)), .inr (.inl (0, 600)), .inr (.inl (0, 30)), .inr (.inl (0, 30)), .inr (.inl (0, 30)), .inr (.inl (0, 30)), .inr (.inl (0, 400)), .inr (.inl (0, 8))] := by decide +kernel
  rw [show hz_wl w 193 (hz_m1 M) = (hz_SH.take 193).mapIdx (fun i sh => hz_cell w (hz_m1 M i) sh) from rfl, h1, List.mapIdx_append, h3, h2, h4]
  refine congrArg (fun z => hz_wl w 178 M ++ z) ?_
  simp only [List.mapIdx_cons, List.mapIdx_nil, Nat.zero_add, Nat.reduceAdd, e0, e 179 (by decide), e 180 (by decide), e 181 (by decide), e 182 (by decide), e 183 (by decide), e 184 (by decide), e 185 (by decide), e 186 (by decide), e 187 (by decide), e 188 (by decide), e 189 (by decide), e 190 (by decide), e 191 (by decide), e 192 (by decide)]
  simp [hz_cell, hz_fv, List.mapIdx_cons, List.mapIdx_nil]
set_option maxRecDepth 100000 in
set_option maxHeartbeats 8000000 in
theorem c_X11_init (l : Launch) (w : hz_C) {M0 : hz_M} {rE : Int32} {ME : hz_M} (h : f_X11_init (hz_m1 M0) = some (rE, ME)) (L : List va_E) (hL0 : L = hz_wl w 178 M0) (hb : L.length = 178) : hz_CI l yX11_init cX11_init 1 12 14 3551 w [.ref (hz_ad w L.length)] (L ++ [.inr (9, [.null, .null, .null, .null, .null, .null, .int 0, .int 0, .int 0, .null, .null, .int 0, .int 0, .int 0, .int 0, .int 0, .int 0, .int 0, .null, .null, .null, .null, .int 0, .int 0, .int 0, .null, .null, .int 0])]) (hz_Qv w 193 ME) := by
  have hN : 193 ≤ 193 := Nat.le_refl _
  refine hz_b_ofQ (L0 := L) (S := [.inr (9, [.null, .null, .null, .null, .null, .null, .int 0, .int 0, .int 0, .null, .null, .int 0, .int 0, .int 0, .int 0, .int 0, .int 0, .int 0, .null, .null, .null, .null, .int 0, .int 0, .int 0, .null, .null, .int 0])]) (by decide) rfl rfl (Nat.le_of_ble_eq_true rfl) tw_6_150 ?_
  intro p e s m args below meth c hO hin
  have key : ∀ M : hz_M, f_X11_init M = some (rE, ME) → hz_G p l e 12 ((14, 3551), (14, 3551)) s m args below meth c w 193 1 (MQ below (hz_Qv w 193 ME) args s 14 3551 (hz_A w)) M 127 [(0, .ref (hz_ad w 178))] [] := by
    intro M h
    unfold f_X11_init at h
    refine hz_aload_n hO dX11_init_127 rfl 0 rfl ?_
    refine hz_ldcS (i := 0) hO (List.mem_of_getElem? (i := 33) rfl) dX11_init_128 ?_
    obtain ⟨r1, M2, hq3, h⟩ := hz_ct_e h
    refine hz_callVv (as := [.ref (hz_sa w 0)]) (rest := []) hO (c_X11_takesText l w hN 0 hq3) hz_cal_X11_takesText hz_K_9 hz_sh_178 (hz_lt_178 hN) tw_6_153 (Nat.le_of_ble_eq_true rfl) rfl rfl (Nat.le_of_ble_eq_true rfl) dX11_init_130 ?_
    exact hz_nameM (hz_some_e h).2.symm (hz_vret hO dX11_init_133)
  show hz_B p l e 12 ((14, 3551), (0, 0)) s m args below meth c w 1 _ L [.inr (9, [.null, .null, .null, .null, .null, .null, .int 0, .int 0, .int 0, .null, .null, .int 0, .int 0, .int 0, .int 0, .int 0, .int 0, .int 0, .null, .null, .null, .null, .int 0, .int 0, .int 0, .null, .null, .int 0])] 0 [(0, .ref (hz_ad w L.length))] []
  refine hz_b_aload_n hO dX11_init_0 rfl 0 rfl ?_
  refine hz_b_obj hO tw_6_151 (Nat.le_of_ble_eq_true rfl) (Nat.le_of_ble_eq_true rfl) dX11_init_1 ?_
  refine hz_b_aload_n hO dX11_init_4 rfl 0 rfl ?_
  refine hz_b_sipush (v := (185 : Int32)) hO dX11_init_5 (by decide) ?_
  refine hz_b_newa (ty := .int) (t := 0) (n := 185) hO rfl (by decide) rfl rfl rfl tw_1_102 (by decide) (by decide) (Nat.le_of_ble_eq_true rfl) ⟨(Nat.le_of_ble_eq_true rfl), (Nat.le_of_ble_eq_true rfl)⟩ dX11_init_8 ?_
  refine hz_b_S (S1 := [.inr (9, [.null, .null, .null, .null, .null, .null, .int 0, .int 0, .int 0, .null, .null, .int 0, .int 0, .int 0, .int 0, .int 0, .int 0, .int 0, .null, .null, .null, .null, .int 0, .int 0, .int 0, .null, .null, .int 0]), .inl (hz_tc w 0, 185, .inl (fun _ => 0))]) rfl ?_
  refine hz_b_st (st1 := [.ref (hz_ad w (L.length + 1)), .ref (hz_ad w L.length)]) rfl ?_
  refine hz_b_put (j := 0) (k := 0) hO hin hz_K_9 tyX11_ok nmX11 rfl (Nat.le_of_ble_eq_true rfl) tw_6_229 rfl rfl rfl rfl rfl (Nat.le_of_ble_eq_true rfl) dX11_init_10 ?_
  refine hz_b_S (S1 := [.inr (9, [.ref (hz_ad w (L.length + 1)), .null, .null, .null, .null, .null, .int 0, .int 0, .int 0, .null, .null, .int 0, .int 0, .int 0, .int 0, .int 0, .int 0, .int 0, .null, .null, .null, .null, .int 0, .int 0, .int 0, .null, .null, .int 0]), .inl (hz_tc w 0, 185, .inl (fun _ => 0))]) rfl ?_
  refine hz_b_aload_n hO dX11_init_13 rfl 0 rfl ?_
  refine hz_b_sipush (v := (185 : Int32)) hO dX11_init_14 (by decide) ?_
  refine hz_b_newa (ty := .int) (t := 0) (n := 185) hO rfl (by decide) rfl rfl rfl tw_1_102 (by decide) (by decide) (Nat.le_of_ble_eq_true rfl) ⟨(Nat.le_of_ble_eq_true rfl), (Nat.le_of_ble_eq_true rfl)⟩ dX11_init_17 ?_
  refine hz_b_S (S1 := [.inr (9, [.ref (hz_ad w (L.length + 1)), .null, .null, .null, .null, .null, .int 0, .int 0, .int 0, .null, .null, .int 0, .int 0, .int 0, .int 0, .int 0, .int 0, .int 0, .null, .null, .null, .null, .int 0, .int 0, .int 0, .null, .null, .int 0]), .inl (hz_tc w 0, 185, .inl (fun _ => 0)), .inl (hz_tc w 0, 185, .inl (fun _ => 0))]) rfl ?_
  refine hz_b_st (st1 := [.ref (hz_ad w (L.length + 2)), .ref (hz_ad w L.length)]) rfl ?_
  refine hz_b_put (j := 0) (k := 1) hO hin hz_K_9 tyX11_ok nmX11 rfl (Nat.le_of_ble_eq_true rfl) tw_6_230 rfl rfl rfl rfl rfl (Nat.le_of_ble_eq_true rfl) dX11_init_19 ?_
  refine hz_b_S (S1 := [.inr (9, [.ref (hz_ad w (L.length + 1)), .ref (hz_ad w (L.length + 2)), .null, .null, .null, .null, .int 0, .int 0, .int 0, .null, .null, .int 0, .int 0, .int 0, .int 0, .int 0, .int 0, .int 0, .null, .null, .null, .null, .int 0, .int 0, .int 0, .null, .null, .int 0]), .inl (hz_tc w 0, 185, .inl (fun _ => 0)), .inl (hz_tc w 0, 185, .inl (fun _ => 0))]) rfl ?_
  refine hz_b_aload_n hO dX11_init_22 rfl 0 rfl ?_
  refine hz_b_sipush (v := (185 : Int32)) hO dX11_init_23 (by decide) ?_
  refine hz_b_newa (ty := .int) (t := 0) (n := 185) hO rfl (by decide) rfl rfl rfl tw_1_102 (by decide) (by decide) (Nat.le_of_ble_eq_true rfl) ⟨(Nat.le_of_ble_eq_true rfl), (Nat.le_of_ble_eq_true rfl)⟩ dX11_init_26 ?_
  refine hz_b_S (S1 := [.inr (9, [.ref (hz_ad w (L.length + 1)), .ref (hz_ad w (L.length + 2)), .null, .null, .null, .null, .int 0, .int 0, .int 0, .null, .null, .int 0, .int 0, .int 0, .int 0, .int 0, .int 0, .int 0, .null, .null, .null, .null, .int 0, .int 0, .int 0, .null, .null, .int 0]), .inl (hz_tc w 0, 185, .inl (fun _ => 0)), .inl (hz_tc w 0, 185, .inl (fun _ => 0)), .inl (hz_tc w 0, 185, .inl (fun _ => 0))]) rfl ?_
  refine hz_b_st (st1 := [.ref (hz_ad w (L.length + 3)), .ref (hz_ad w L.length)]) rfl ?_
  refine hz_b_put (j := 0) (k := 2) hO hin hz_K_9 tyX11_ok nmX11 rfl (Nat.le_of_ble_eq_true rfl) tw_6_231 rfl rfl rfl rfl rfl (Nat.le_of_ble_eq_true rfl) dX11_init_28 ?_
  refine hz_b_S (S1 := [.inr (9, [.ref (hz_ad w (L.length + 1)), .ref (hz_ad w (L.length + 2)), .ref (hz_ad w (L.length + 3)), .null, .null, .null, .int 0, .int 0, .int 0, .null, .null, .int 0, .int 0, .int 0, .int 0, .int 0, .int 0, .int 0, .null, .null, .null, .null, .int 0, .int 0, .int 0, .null, .null, .int 0]), .inl (hz_tc w 0, 185, .inl (fun _ => 0)), .inl (hz_tc w 0, 185, .inl (fun _ => 0)), .inl (hz_tc w 0, 185, .inl (fun _ => 0))]) rfl ?_
  refine hz_b_aload_n hO dX11_init_31 rfl 0 rfl ?_
  refine hz_b_sipush (v := (1480 : Int32)) hO dX11_init_32 (by decide) ?_
  refine hz_b_newa (ty := .int) (t := 0) (n := 1480) hO rfl (by decide) rfl rfl rfl tw_1_102 (by decide) (by decide) (Nat.le_of_ble_eq_true rfl) ⟨(Nat.le_of_ble_eq_true rfl), (Nat.le_of_ble_eq_true rfl)⟩ dX11_init_35 ?_
  refine hz_b_S (S1 := [.inr (9, [.ref (hz_ad w (L.length + 1)), .ref (hz_ad w (L.length + 2)), .ref (hz_ad w (L.length + 3)), .null, .null, .null, .int 0, .int 0, .int 0, .null, .null, .int 0, .int 0, .int 0, .int 0, .int 0, .int 0, .int 0, .null, .null, .null, .null, .int 0, .int 0, .int 0, .null, .null, .int 0]), .inl (hz_tc w 0, 185, .inl (fun _ => 0)), .inl (hz_tc w 0, 185, .inl (fun _ => 0)), .inl (hz_tc w 0, 185, .inl (fun _ => 0)), .inl (hz_tc w 0, 1480, .inl (fun _ => 0))]) rfl ?_
  refine hz_b_st (st1 := [.ref (hz_ad w (L.length + 4)), .ref (hz_ad w L.length)]) rfl ?_
  refine hz_b_put (j := 0) (k := 3) hO hin hz_K_9 tyX11_ok nmX11 rfl (Nat.le_of_ble_eq_true rfl) tw_6_232 rfl rfl rfl rfl rfl (Nat.le_of_ble_eq_true rfl) dX11_init_37 ?_
  refine hz_b_S (S1 := [.inr (9, [.ref (hz_ad w (L.length + 1)), .ref (hz_ad w (L.length + 2)), .ref (hz_ad w (L.length + 3)), .ref (hz_ad w (L.length + 4)), .null, .null, .int 0, .int 0, .int 0, .null, .null, .int 0, .int 0, .int 0, .int 0, .int 0, .int 0, .int 0, .null, .null, .null, .null, .int 0, .int 0, .int 0, .null, .null, .int 0]), .inl (hz_tc w 0, 185, .inl (fun _ => 0)), .inl (hz_tc w 0, 185, .inl (fun _ => 0)), .inl (hz_tc w 0, 185, .inl (fun _ => 0)), .inl (hz_tc w 0, 1480, .inl (fun _ => 0))]) rfl ?_
  refine hz_b_aload_n hO dX11_init_40 rfl 0 rfl ?_
  refine hz_b_sipush (v := (370 : Int32)) hO dX11_init_41 (by decide) ?_
  refine hz_b_newa (ty := .int) (t := 0) (n := 370) hO rfl (by decide) rfl rfl rfl tw_1_102 (by decide) (by decide) (Nat.le_of_ble_eq_true rfl) ⟨(Nat.le_of_ble_eq_true rfl), (Nat.le_of_ble_eq_true rfl)⟩ dX11_init_44 ?_
  refine hz_b_S (S1 := [.inr (9, [.ref (hz_ad w (L.length + 1)), .ref (hz_ad w (L.length + 2)), .ref (hz_ad w (L.length + 3)), .ref (hz_ad w (L.length + 4)), .null, .null, .int 0, .int 0, .int 0, .null, .null, .int 0, .int 0, .int 0, .int 0, .int 0, .int 0, .int 0, .null, .null, .null, .null, .int 0, .int 0, .int 0, .null, .null, .int 0]), .inl (hz_tc w 0, 185, .inl (fun _ => 0)), .inl (hz_tc w 0, 185, .inl (fun _ => 0)), .inl (hz_tc w 0, 185, .inl (fun _ => 0)), .inl (hz_tc w 0, 1480, .inl (fun _ => 0)), .inl (hz_tc w 0, 370, .inl (fun _ => 0))]) rfl ?_
  refine hz_b_st (st1 := [.ref (hz_ad w (L.length + 5)), .ref (hz_ad w L.length)]) rfl ?_
  refine hz_b_put (j := 0) (k := 4) hO hin hz_K_9 tyX11_ok nmX11 rfl (Nat.le_of_ble_eq_true rfl) tw_6_233 rfl rfl rfl rfl rfl (Nat.le_of_ble_eq_true rfl) dX11_init_46 ?_
  refine hz_b_S (S1 := [.inr (9, [.ref (hz_ad w (L.length + 1)), .ref (hz_ad w (L.length + 2)), .ref (hz_ad w (L.length + 3)), .ref (hz_ad w (L.length + 4)), .ref (hz_ad w (L.length + 5)), .null, .int 0, .int 0, .int 0, .null, .null, .int 0, .int 0, .int 0, .int 0, .int 0, .int 0, .int 0, .null, .null, .null, .null, .int 0, .int 0, .int 0, .null, .null, .int 0]), .inl (hz_tc w 0, 185, .inl (fun _ => 0)), .inl (hz_tc w 0, 185, .inl (fun _ => 0)), .inl (hz_tc w 0, 185, .inl (fun _ => 0)), .inl (hz_tc w 0, 1480, .inl (fun _ => 0)), .inl (hz_tc w 0, 370, .inl (fun _ => 0))]) rfl ?_
  refine hz_b_aload_n hO dX11_init_49 rfl 0 rfl ?_
  refine hz_b_iconst (v := (2 : Int32)) hO dX11_init_50 (by decide) ?_
  refine hz_b_newa (ty := .boolean) (t := 1) (n := 2) hO rfl (by decide) rfl rfl rfl tw_2_107 (by decide) (by decide) (Nat.le_of_ble_eq_true rfl) ⟨(Nat.le_of_ble_eq_true rfl), (Nat.le_of_ble_eq_true rfl)⟩ dX11_init_51 ?_
  refine hz_b_S (S1 := [.inr (9, [.ref (hz_ad w (L.length + 1)), .ref (hz_ad w (L.length + 2)), .ref (hz_ad w (L.length + 3)), .ref (hz_ad w (L.length + 4)), .ref (hz_ad w (L.length + 5)), .null, .int 0, .int 0, .int 0, .null, .null, .int 0, .int 0, .int 0, .int 0, .int 0, .int 0, .int 0, .null, .null, .null, .null, .int 0, .int 0, .int 0, .null, .null, .int 0]), .inl (hz_tc w 0, 185, .inl (fun _ => 0)), .inl (hz_tc w 0, 185, .inl (fun _ => 0)), .inl (hz_tc w 0, 185, .inl (fun _ => 0)), .inl (hz_tc w 0, 1480, .inl (fun _ => 0)), .inl (hz_tc w 0, 370, .inl (fun _ => 0)), .inl (hz_tc w 1, 2, .inl (fun _ => 0))]) rfl ?_
  refine hz_b_st (st1 := [.ref (hz_ad w (L.length + 6)), .ref (hz_ad w L.length)]) rfl ?_
  refine hz_b_put (j := 0) (k := 5) hO hin hz_K_9 tyX11_ok nmX11 rfl (Nat.le_of_ble_eq_true rfl) tw_6_234 rfl rfl rfl rfl rfl (Nat.le_of_ble_eq_true rfl) dX11_init_53 ?_
  refine hz_b_S (S1 := [.inr (9, [.ref (hz_ad w (L.length + 1)), .ref (hz_ad w (L.length + 2)), .ref (hz_ad w (L.length + 3)), .ref (hz_ad w (L.length + 4)), .ref (hz_ad w (L.length + 5)), .ref (hz_ad w (L.length + 6)), .int 0, .int 0, .int 0, .null, .null, .int 0, .int 0, .int 0, .int 0, .int 0, .int 0, .int 0, .null, .null, .null, .null, .int 0, .int 0, .int 0, .null, .null, .int 0]), .inl (hz_tc w 0, 185, .inl (fun _ => 0)), .inl (hz_tc w 0, 185, .inl (fun _ => 0)), .inl (hz_tc w 0, 185, .inl (fun _ => 0)), .inl (hz_tc w 0, 1480, .inl (fun _ => 0)), .inl (hz_tc w 0, 370, .inl (fun _ => 0)), .inl (hz_tc w 1, 2, .inl (fun _ => 0))]) rfl ?_
  refine hz_b_aload_n hO dX11_init_56 rfl 0 rfl ?_
  refine hz_b_bipush (v := (16 : Int32)) hO dX11_init_57 (by decide) ?_
  refine hz_b_newa (ty := .boolean) (t := 1) (n := 16) hO rfl (by decide) rfl rfl rfl tw_2_107 (by decide) (by decide) (Nat.le_of_ble_eq_true rfl) ⟨(Nat.le_of_ble_eq_true rfl), (Nat.le_of_ble_eq_true rfl)⟩ dX11_init_59 ?_
  refine hz_b_S (S1 := [.inr (9, [.ref (hz_ad w (L.length + 1)), .ref (hz_ad w (L.length + 2)), .ref (hz_ad w (L.length + 3)), .ref (hz_ad w (L.length + 4)), .ref (hz_ad w (L.length + 5)), .ref (hz_ad w (L.length + 6)), .int 0, .int 0, .int 0, .null, .null, .int 0, .int 0, .int 0, .int 0, .int 0, .int 0, .int 0, .null, .null, .null, .null, .int 0, .int 0, .int 0, .null, .null, .int 0]), .inl (hz_tc w 0, 185, .inl (fun _ => 0)), .inl (hz_tc w 0, 185, .inl (fun _ => 0)), .inl (hz_tc w 0, 185, .inl (fun _ => 0)), .inl (hz_tc w 0, 1480, .inl (fun _ => 0)), .inl (hz_tc w 0, 370, .inl (fun _ => 0)), .inl (hz_tc w 1, 2, .inl (fun _ => 0)), .inl (hz_tc w 1, 16, .inl (fun _ => 0))]) rfl ?_
  refine hz_b_st (st1 := [.ref (hz_ad w (L.length + 7)), .ref (hz_ad w L.length)]) rfl ?_
  refine hz_b_put (j := 0) (k := 9) hO hin hz_K_9 tyX11_ok nmX11 rfl (Nat.le_of_ble_eq_true rfl) tw_6_238 rfl rfl rfl rfl rfl (Nat.le_of_ble_eq_true rfl) dX11_init_61 ?_
  refine hz_b_S (S1 := [.inr (9, [.ref (hz_ad w (L.length + 1)), .ref (hz_ad w (L.length + 2)), .ref (hz_ad w (L.length + 3)), .ref (hz_ad w (L.length + 4)), .ref (hz_ad w (L.length + 5)), .ref (hz_ad w (L.length + 6)), .int 0, .int 0, .int 0, .ref (hz_ad w (L.length + 7)), .null, .int 0, .int 0, .int 0, .int 0, .int 0, .int 0, .int 0, .null, .null, .null, .null, .int 0, .int 0, .int 0, .null, .null, .int 0]), .inl (hz_tc w 0, 185, .inl (fun _ => 0)), .inl (hz_tc w 0, 185, .inl (fun _ => 0)), .inl (hz_tc w 0, 185, .inl (fun _ => 0)), .inl (hz_tc w 0, 1480, .inl (fun _ => 0)), .inl (hz_tc w 0, 370, .inl (fun _ => 0)), .inl (hz_tc w 1, 2, .inl (fun _ => 0)), .inl (hz_tc w 1, 16, .inl (fun _ => 0))]) rfl ?_
  refine hz_b_aload_n hO dX11_init_64 rfl 0 rfl ?_
  refine hz_b_sipush (v := (600 : Int32)) hO dX11_init_65 (by decide) ?_
  refine hz_b_newa (ty := .int) (t := 0) (n := 600) hO rfl (by decide) rfl rfl rfl tw_1_102 (by decide) (by decide) (Nat.le_of_ble_eq_true rfl) ⟨(Nat.le_of_ble_eq_true rfl), (Nat.le_of_ble_eq_true rfl)⟩ dX11_init_68 ?_
  refine hz_b_S (S1 := [.inr (9, [.ref (hz_ad w (L.length + 1)), .ref (hz_ad w (L.length + 2)), .ref (hz_ad w (L.length + 3)), .ref (hz_ad w (L.length + 4)), .ref (hz_ad w (L.length + 5)), .ref (hz_ad w (L.length + 6)), .int 0, .int 0, .int 0, .ref (hz_ad w (L.length + 7)), .null, .int 0, .int 0, .int 0, .int 0, .int 0, .int 0, .int 0, .null, .null, .null, .null, .int 0, .int 0, .int 0, .null, .null, .int 0]), .inl (hz_tc w 0, 185, .inl (fun _ => 0)), .inl (hz_tc w 0, 185, .inl (fun _ => 0)), .inl (hz_tc w 0, 185, .inl (fun _ => 0)), .inl (hz_tc w 0, 1480, .inl (fun _ => 0)), .inl (hz_tc w 0, 370, .inl (fun _ => 0)), .inl (hz_tc w 1, 2, .inl (fun _ => 0)), .inl (hz_tc w 1, 16, .inl (fun _ => 0)), .inl (hz_tc w 0, 600, .inl (fun _ => 0))]) rfl ?_
  refine hz_b_st (st1 := [.ref (hz_ad w (L.length + 8)), .ref (hz_ad w L.length)]) rfl ?_
  refine hz_b_put (j := 0) (k := 10) hO hin hz_K_9 tyX11_ok nmX11 rfl (Nat.le_of_ble_eq_true rfl) tw_6_239 rfl rfl rfl rfl rfl (Nat.le_of_ble_eq_true rfl) dX11_init_70 ?_
  refine hz_b_S (S1 := [.inr (9, [.ref (hz_ad w (L.length + 1)), .ref (hz_ad w (L.length + 2)), .ref (hz_ad w (L.length + 3)), .ref (hz_ad w (L.length + 4)), .ref (hz_ad w (L.length + 5)), .ref (hz_ad w (L.length + 6)), .int 0, .int 0, .int 0, .ref (hz_ad w (L.length + 7)), .ref (hz_ad w (L.length + 8)), .int 0, .int 0, .int 0, .int 0, .int 0, .int 0, .int 0, .null, .null, .null, .null, .int 0, .int 0, .int 0, .null, .null, .int 0]), .inl (hz_tc w 0, 185, .inl (fun _ => 0)), .inl (hz_tc w 0, 185, .inl (fun _ => 0)), .inl (hz_tc w 0, 185, .inl (fun _ => 0)), .inl (hz_tc w 0, 1480, .inl (fun _ => 0)), .inl (hz_tc w 0, 370, .inl (fun _ => 0)), .inl (hz_tc w 1, 2, .inl (fun _ => 0)), .inl (hz_tc w 1, 16, .inl (fun _ => 0)), .inl (hz_tc w 0, 600, .inl (fun _ => 0))]) rfl ?_
  refine hz_b_aload_n hO dX11_init_73 rfl 0 rfl ?_
  refine hz_b_iconst (v := (-1 : Int32)) hO dX11_init_74 (by decide) ?_
  refine hz_b_putN (j := 0) (k := 12) hO hz_K_9 tyX11_ok nmX11 rfl (Nat.le_of_ble_eq_true rfl) tw_7_1 rfl rfl rfl rfl (Nat.le_of_ble_eq_true rfl) dX11_init_75 ?_
  refine hz_b_S (S1 := [.inr (9, [.ref (hz_ad w (L.length + 1)), .ref (hz_ad w (L.length + 2)), .ref (hz_ad w (L.length + 3)), .ref (hz_ad w (L.length + 4)), .ref (hz_ad w (L.length + 5)), .ref (hz_ad w (L.length + 6)), .int 0, .int 0, .int 0, .ref (hz_ad w (L.length + 7)), .ref (hz_ad w (L.length + 8)), .int 0, .int (-1 : Int32), .int 0, .int 0, .int 0, .int 0, .int 0, .null, .null, .null, .null, .int 0, .int 0, .int 0, .null, .null, .int 0]), .inl (hz_tc w 0, 185, .inl (fun _ => 0)), .inl (hz_tc w 0, 185, .inl (fun _ => 0)), .inl (hz_tc w 0, 185, .inl (fun _ => 0)), .inl (hz_tc w 0, 1480, .inl (fun _ => 0)), .inl (hz_tc w 0, 370, .inl (fun _ => 0)), .inl (hz_tc w 1, 2, .inl (fun _ => 0)), .inl (hz_tc w 1, 16, .inl (fun _ => 0)), .inl (hz_tc w 0, 600, .inl (fun _ => 0))]) rfl ?_
  refine hz_b_aload_n hO dX11_init_78 rfl 0 rfl ?_
  refine hz_b_bipush (v := (30 : Int32)) hO dX11_init_79 (by decide) ?_
  refine hz_b_newa (ty := .int) (t := 0) (n := 30) hO rfl (by decide) rfl rfl rfl tw_1_102 (by decide) (by decide) (Nat.le_of_ble_eq_true rfl) ⟨(Nat.le_of_ble_eq_true rfl), (Nat.le_of_ble_eq_true rfl)⟩ dX11_init_81 ?_
  refine hz_b_S (S1 := [.inr (9, [.ref (hz_ad w (L.length + 1)), .ref (hz_ad w (L.length + 2)), .ref (hz_ad w (L.length + 3)), .ref (hz_ad w (L.length + 4)), .ref (hz_ad w (L.length + 5)), .ref (hz_ad w (L.length + 6)), .int 0, .int 0, .int 0, .ref (hz_ad w (L.length + 7)), .ref (hz_ad w (L.length + 8)), .int 0, .int (-1 : Int32), .int 0, .int 0, .int 0, .int 0, .int 0, .null, .null, .null, .null, .int 0, .int 0, .int 0, .null, .null, .int 0]), .inl (hz_tc w 0, 185, .inl (fun _ => 0)), .inl (hz_tc w 0, 185, .inl (fun _ => 0)), .inl (hz_tc w 0, 185, .inl (fun _ => 0)), .inl (hz_tc w 0, 1480, .inl (fun _ => 0)), .inl (hz_tc w 0, 370, .inl (fun _ => 0)), .inl (hz_tc w 1, 2, .inl (fun _ => 0)), .inl (hz_tc w 1, 16, .inl (fun _ => 0)), .inl (hz_tc w 0, 600, .inl (fun _ => 0)), .inl (hz_tc w 0, 30, .inl (fun _ => 0))]) rfl ?_
  refine hz_b_st (st1 := [.ref (hz_ad w (L.length + 9)), .ref (hz_ad w L.length)]) rfl ?_
  refine hz_b_put (j := 0) (k := 18) hO hin hz_K_9 tyX11_ok nmX11 rfl (Nat.le_of_ble_eq_true rfl) tw_7_7 rfl rfl rfl rfl rfl (Nat.le_of_ble_eq_true rfl) dX11_init_83 ?_
  refine hz_b_S (S1 := [.inr (9, [.ref (hz_ad w (L.length + 1)), .ref (hz_ad w (L.length + 2)), .ref (hz_ad w (L.length + 3)), .ref (hz_ad w (L.length + 4)), .ref (hz_ad w (L.length + 5)), .ref (hz_ad w (L.length + 6)), .int 0, .int 0, .int 0, .ref (hz_ad w (L.length + 7)), .ref (hz_ad w (L.length + 8)), .int 0, .int (-1 : Int32), .int 0, .int 0, .int 0, .int 0, .int 0, .ref (hz_ad w (L.length + 9)), .null, .null, .null, .int 0, .int 0, .int 0, .null, .null, .int 0]), .inl (hz_tc w 0, 185, .inl (fun _ => 0)), .inl (hz_tc w 0, 185, .inl (fun _ => 0)), .inl (hz_tc w 0, 185, .inl (fun _ => 0)), .inl (hz_tc w 0, 1480, .inl (fun _ => 0)), .inl (hz_tc w 0, 370, .inl (fun _ => 0)), .inl (hz_tc w 1, 2, .inl (fun _ => 0)), .inl (hz_tc w 1, 16, .inl (fun _ => 0)), .inl (hz_tc w 0, 600, .inl (fun _ => 0)), .inl (hz_tc w 0, 30, .inl (fun _ => 0))]) rfl ?_
  refine hz_b_aload_n hO dX11_init_86 rfl 0 rfl ?_
  refine hz_b_bipush (v := (30 : Int32)) hO dX11_init_87 (by decide) ?_
  refine hz_b_newa (ty := .int) (t := 0) (n := 30) hO rfl (by decide) rfl rfl rfl tw_1_102 (by decide) (by decide) (Nat.le_of_ble_eq_true rfl) ⟨(Nat.le_of_ble_eq_true rfl), (Nat.le_of_ble_eq_true rfl)⟩ dX11_init_89 ?_
  refine hz_b_S (S1 := [.inr (9, [.ref (hz_ad w (L.length + 1)), .ref (hz_ad w (L.length + 2)), .ref (hz_ad w (L.length + 3)), .ref (hz_ad w (L.length + 4)), .ref (hz_ad w (L.length + 5)), .ref (hz_ad w (L.length + 6)), .int 0, .int 0, .int 0, .ref (hz_ad w (L.length + 7)), .ref (hz_ad w (L.length + 8)), .int 0, .int (-1 : Int32), .int 0, .int 0, .int 0, .int 0, .int 0, .ref (hz_ad w (L.length + 9)), .null, .null, .null, .int 0, .int 0, .int 0, .null, .null, .int 0]), .inl (hz_tc w 0, 185, .inl (fun _ => 0)), .inl (hz_tc w 0, 185, .inl (fun _ => 0)), .inl (hz_tc w 0, 185, .inl (fun _ => 0)), .inl (hz_tc w 0, 1480, .inl (fun _ => 0)), .inl (hz_tc w 0, 370, .inl (fun _ => 0)), .inl (hz_tc w 1, 2, .inl (fun _ => 0)), .inl (hz_tc w 1, 16, .inl (fun _ => 0)), .inl (hz_tc w 0, 600, .inl (fun _ => 0)), .inl (hz_tc w 0, 30, .inl (fun _ => 0)), .inl (hz_tc w 0, 30, .inl (fun _ => 0))]) rfl ?_
  refine hz_b_st (st1 := [.ref (hz_ad w (L.length + 10)), .ref (hz_ad w L.length)]) rfl ?_
  refine hz_b_put (j := 0) (k := 19) hO hin hz_K_9 tyX11_ok nmX11 rfl (Nat.le_of_ble_eq_true rfl) tw_7_8 rfl rfl rfl rfl rfl (Nat.le_of_ble_eq_true rfl) dX11_init_91 ?_
  refine hz_b_S (S1 := [.inr (9, [.ref (hz_ad w (L.length + 1)), .ref (hz_ad w (L.length + 2)), .ref (hz_ad w (L.length + 3)), .ref (hz_ad w (L.length + 4)), .ref (hz_ad w (L.length + 5)), .ref (hz_ad w (L.length + 6)), .int 0, .int 0, .int 0, .ref (hz_ad w (L.length + 7)), .ref (hz_ad w (L.length + 8)), .int 0, .int (-1 : Int32), .int 0, .int 0, .int 0, .int 0, .int 0, .ref (hz_ad w (L.length + 9)), .ref (hz_ad w (L.length + 10)), .null, .null, .int 0, .int 0, .int 0, .null, .null, .int 0]), .inl (hz_tc w 0, 185, .inl (fun _ => 0)), .inl (hz_tc w 0, 185, .inl (fun _ => 0)), .inl (hz_tc w 0, 185, .inl (fun _ => 0)), .inl (hz_tc w 0, 1480, .inl (fun _ => 0)), .inl (hz_tc w 0, 370, .inl (fun _ => 0)), .inl (hz_tc w 1, 2, .inl (fun _ => 0)), .inl (hz_tc w 1, 16, .inl (fun _ => 0)), .inl (hz_tc w 0, 600, .inl (fun _ => 0)), .inl (hz_tc w 0, 30, .inl (fun _ => 0)), .inl (hz_tc w 0, 30, .inl (fun _ => 0))]) rfl ?_
  refine hz_b_aload_n hO dX11_init_94 rfl 0 rfl ?_
  refine hz_b_bipush (v := (30 : Int32)) hO dX11_init_95 (by decide) ?_
  refine hz_b_newa (ty := .int) (t := 0) (n := 30) hO rfl (by decide) rfl rfl rfl tw_1_102 (by decide) (by decide) (Nat.le_of_ble_eq_true rfl) ⟨(Nat.le_of_ble_eq_true rfl), (Nat.le_of_ble_eq_true rfl)⟩ dX11_init_97 ?_
  refine hz_b_S (S1 := [.inr (9, [.ref (hz_ad w (L.length + 1)), .ref (hz_ad w (L.length + 2)), .ref (hz_ad w (L.length + 3)), .ref (hz_ad w (L.length + 4)), .ref (hz_ad w (L.length + 5)), .ref (hz_ad w (L.length + 6)), .int 0, .int 0, .int 0, .ref (hz_ad w (L.length + 7)), .ref (hz_ad w (L.length + 8)), .int 0, .int (-1 : Int32), .int 0, .int 0, .int 0, .int 0, .int 0, .ref (hz_ad w (L.length + 9)), .ref (hz_ad w (L.length + 10)), .null, .null, .int 0, .int 0, .int 0, .null, .null, .int 0]), .inl (hz_tc w 0, 185, .inl (fun _ => 0)), .inl (hz_tc w 0, 185, .inl (fun _ => 0)), .inl (hz_tc w 0, 185, .inl (fun _ => 0)), .inl (hz_tc w 0, 1480, .inl (fun _ => 0)), .inl (hz_tc w 0, 370, .inl (fun _ => 0)), .inl (hz_tc w 1, 2, .inl (fun _ => 0)), .inl (hz_tc w 1, 16, .inl (fun _ => 0)), .inl (hz_tc w 0, 600, .inl (fun _ => 0)), .inl (hz_tc w 0, 30, .inl (fun _ => 0)), .inl (hz_tc w 0, 30, .inl (fun _ => 0)), .inl (hz_tc w 0, 30, .inl (fun _ => 0))]) rfl ?_
  refine hz_b_st (st1 := [.ref (hz_ad w (L.length + 11)), .ref (hz_ad w L.length)]) rfl ?_
  refine hz_b_put (j := 0) (k := 20) hO hin hz_K_9 tyX11_ok nmX11 rfl (Nat.le_of_ble_eq_true rfl) tw_7_9 rfl rfl rfl rfl rfl (Nat.le_of_ble_eq_true rfl) dX11_init_99 ?_
  refine hz_b_S (S1 := [.inr (9, [.ref (hz_ad w (L.length + 1)), .ref (hz_ad w (L.length + 2)), .ref (hz_ad w (L.length + 3)), .ref (hz_ad w (L.length + 4)), .ref (hz_ad w (L.length + 5)), .ref (hz_ad w (L.length + 6)), .int 0, .int 0, .int 0, .ref (hz_ad w (L.length + 7)), .ref (hz_ad w (L.length + 8)), .int 0, .int (-1 : Int32), .int 0, .int 0, .int 0, .int 0, .int 0, .ref (hz_ad w (L.length + 9)), .ref (hz_ad w (L.length + 10)), .ref (hz_ad w (L.length + 11)), .null, .int 0, .int 0, .int 0, .null, .null, .int 0]), .inl (hz_tc w 0, 185, .inl (fun _ => 0)), .inl (hz_tc w 0, 185, .inl (fun _ => 0)), .inl (hz_tc w 0, 185, .inl (fun _ => 0)), .inl (hz_tc w 0, 1480, .inl (fun _ => 0)), .inl (hz_tc w 0, 370, .inl (fun _ => 0)), .inl (hz_tc w 1, 2, .inl (fun _ => 0)), .inl (hz_tc w 1, 16, .inl (fun _ => 0)), .inl (hz_tc w 0, 600, .inl (fun _ => 0)), .inl (hz_tc w 0, 30, .inl (fun _ => 0)), .inl (hz_tc w 0, 30, .inl (fun _ => 0)), .inl (hz_tc w 0, 30, .inl (fun _ => 0))]) rfl ?_
  refine hz_b_aload_n hO dX11_init_102 rfl 0 rfl ?_
  refine hz_b_bipush (v := (30 : Int32)) hO dX11_init_103 (by decide) ?_
  refine hz_b_newa (ty := .int) (t := 0) (n := 30) hO rfl (by decide) rfl rfl rfl tw_1_102 (by decide) (by decide) (Nat.le_of_ble_eq_true rfl) ⟨(Nat.le_of_ble_eq_true rfl), (Nat.le_of_ble_eq_true rfl)⟩ dX11_init_105 ?_
  refine hz_b_S (S1 := [.inr (9, [.ref (hz_ad w (L.length + 1)), .ref (hz_ad w (L.length + 2)), .ref (hz_ad w (L.length + 3)), .ref (hz_ad w (L.length + 4)), .ref (hz_ad w (L.length + 5)), .ref (hz_ad w (L.length + 6)), .int 0, .int 0, .int 0, .ref (hz_ad w (L.length + 7)), .ref (hz_ad w (L.length + 8)), .int 0, .int (-1 : Int32), .int 0, .int 0, .int 0, .int 0, .int 0, .ref (hz_ad w (L.length + 9)), .ref (hz_ad w (L.length + 10)), .ref (hz_ad w (L.length + 11)), .null, .int 0, .int 0, .int 0, .null, .null, .int 0]), .inl (hz_tc w 0, 185, .inl (fun _ => 0)), .inl (hz_tc w 0, 185, .inl (fun _ => 0)), .inl (hz_tc w 0, 185, .inl (fun _ => 0)), .inl (hz_tc w 0, 1480, .inl (fun _ => 0)), .inl (hz_tc w 0, 370, .inl (fun _ => 0)), .inl (hz_tc w 1, 2, .inl (fun _ => 0)), .inl (hz_tc w 1, 16, .inl (fun _ => 0)), .inl (hz_tc w 0, 600, .inl (fun _ => 0)), .inl (hz_tc w 0, 30, .inl (fun _ => 0)), .inl (hz_tc w 0, 30, .inl (fun _ => 0)), .inl (hz_tc w 0, 30, .inl (fun _ => 0)), .inl (hz_tc w 0, 30, .inl (fun _ => 0))]) rfl ?_
  refine hz_b_st (st1 := [.ref (hz_ad w (L.length + 12)), .ref (hz_ad w L.length)]) rfl ?_
  refine hz_b_put (j := 0) (k := 21) hO hin hz_K_9 tyX11_ok nmX11 rfl (Nat.le_of_ble_eq_true rfl) tw_7_10 rfl rfl rfl rfl rfl (Nat.le_of_ble_eq_true rfl) dX11_init_107 ?_
  refine hz_b_S (S1 := [.inr (9, [.ref (hz_ad w (L.length + 1)), .ref (hz_ad w (L.length + 2)), .ref (hz_ad w (L.length + 3)), .ref (hz_ad w (L.length + 4)), .ref (hz_ad w (L.length + 5)), .ref (hz_ad w (L.length + 6)), .int 0, .int 0, .int 0, .ref (hz_ad w (L.length + 7)), .ref (hz_ad w (L.length + 8)), .int 0, .int (-1 : Int32), .int 0, .int 0, .int 0, .int 0, .int 0, .ref (hz_ad w (L.length + 9)), .ref (hz_ad w (L.length + 10)), .ref (hz_ad w (L.length + 11)), .ref (hz_ad w (L.length + 12)), .int 0, .int 0, .int 0, .null, .null, .int 0]), .inl (hz_tc w 0, 185, .inl (fun _ => 0)), .inl (hz_tc w 0, 185, .inl (fun _ => 0)), .inl (hz_tc w 0, 185, .inl (fun _ => 0)), .inl (hz_tc w 0, 1480, .inl (fun _ => 0)), .inl (hz_tc w 0, 370, .inl (fun _ => 0)), .inl (hz_tc w 1, 2, .inl (fun _ => 0)), .inl (hz_tc w 1, 16, .inl (fun _ => 0)), .inl (hz_tc w 0, 600, .inl (fun _ => 0)), .inl (hz_tc w 0, 30, .inl (fun _ => 0)), .inl (hz_tc w 0, 30, .inl (fun _ => 0)), .inl (hz_tc w 0, 30, .inl (fun _ => 0)), .inl (hz_tc w 0, 30, .inl (fun _ => 0))]) rfl ?_
  refine hz_b_aload_n hO dX11_init_110 rfl 0 rfl ?_
  refine hz_b_sipush (v := (400 : Int32)) hO dX11_init_111 (by decide) ?_
  refine hz_b_newa (ty := .int) (t := 0) (n := 400) hO rfl (by decide) rfl rfl rfl tw_1_102 (by decide) (by decide) (Nat.le_of_ble_eq_true rfl) ⟨(Nat.le_of_ble_eq_true rfl), (Nat.le_of_ble_eq_true rfl)⟩ dX11_init_114 ?_
  refine hz_b_S (S1 := [.inr (9, [.ref (hz_ad w (L.length + 1)), .ref (hz_ad w (L.length + 2)), .ref (hz_ad w (L.length + 3)), .ref (hz_ad w (L.length + 4)), .ref (hz_ad w (L.length + 5)), .ref (hz_ad w (L.length + 6)), .int 0, .int 0, .int 0, .ref (hz_ad w (L.length + 7)), .ref (hz_ad w (L.length + 8)), .int 0, .int (-1 : Int32), .int 0, .int 0, .int 0, .int 0, .int 0, .ref (hz_ad w (L.length + 9)), .ref (hz_ad w (L.length + 10)), .ref (hz_ad w (L.length + 11)), .ref (hz_ad w (L.length + 12)), .int 0, .int 0, .int 0, .null, .null, .int 0]), .inl (hz_tc w 0, 185, .inl (fun _ => 0)), .inl (hz_tc w 0, 185, .inl (fun _ => 0)), .inl (hz_tc w 0, 185, .inl (fun _ => 0)), .inl (hz_tc w 0, 1480, .inl (fun _ => 0)), .inl (hz_tc w 0, 370, .inl (fun _ => 0)), .inl (hz_tc w 1, 2, .inl (fun _ => 0)), .inl (hz_tc w 1, 16, .inl (fun _ => 0)), .inl (hz_tc w 0, 600, .inl (fun _ => 0)), .inl (hz_tc w 0, 30, .inl (fun _ => 0)), .inl (hz_tc w 0, 30, .inl (fun _ => 0)), .inl (hz_tc w 0, 30, .inl (fun _ => 0)), .inl (hz_tc w 0, 30, .inl (fun _ => 0)), .inl (hz_tc w 0, 400, .inl (fun _ => 0))]) rfl ?_
  refine hz_b_st (st1 := [.ref (hz_ad w (L.length + 13)), .ref (hz_ad w L.length)]) rfl ?_
  refine hz_b_put (j := 0) (k := 25) hO hin hz_K_9 tyX11_ok nmX11 rfl (Nat.le_of_ble_eq_true rfl) tw_7_14 rfl rfl rfl rfl rfl (Nat.le_of_ble_eq_true rfl) dX11_init_116 ?_
  refine hz_b_S (S1 := [.inr (9, [.ref (hz_ad w (L.length + 1)), .ref (hz_ad w (L.length + 2)), .ref (hz_ad w (L.length + 3)), .ref (hz_ad w (L.length + 4)), .ref (hz_ad w (L.length + 5)), .ref (hz_ad w (L.length + 6)), .int 0, .int 0, .int 0, .ref (hz_ad w (L.length + 7)), .ref (hz_ad w (L.length + 8)), .int 0, .int (-1 : Int32), .int 0, .int 0, .int 0, .int 0, .int 0, .ref (hz_ad w (L.length + 9)), .ref (hz_ad w (L.length + 10)), .ref (hz_ad w (L.length + 11)), .ref (hz_ad w (L.length + 12)), .int 0, .int 0, .int 0, .ref (hz_ad w (L.length + 13)), .null, .int 0]), .inl (hz_tc w 0, 185, .inl (fun _ => 0)), .inl (hz_tc w 0, 185, .inl (fun _ => 0)), .inl (hz_tc w 0, 185, .inl (fun _ => 0)), .inl (hz_tc w 0, 1480, .inl (fun _ => 0)), .inl (hz_tc w 0, 370, .inl (fun _ => 0)), .inl (hz_tc w 1, 2, .inl (fun _ => 0)), .inl (hz_tc w 1, 16, .inl (fun _ => 0)), .inl (hz_tc w 0, 600, .inl (fun _ => 0)), .inl (hz_tc w 0, 30, .inl (fun _ => 0)), .inl (hz_tc w 0, 30, .inl (fun _ => 0)), .inl (hz_tc w 0, 30, .inl (fun _ => 0)), .inl (hz_tc w 0, 30, .inl (fun _ => 0)), .inl (hz_tc w 0, 400, .inl (fun _ => 0))]) rfl ?_
  refine hz_b_aload_n hO dX11_init_119 rfl 0 rfl ?_
  refine hz_b_bipush (v := (8 : Int32)) hO dX11_init_120 (by decide) ?_
  refine hz_b_newa (ty := .int) (t := 0) (n := 8) hO rfl (by decide) rfl rfl rfl tw_1_102 (by decide) (by decide) (Nat.le_of_ble_eq_true rfl) ⟨(Nat.le_of_ble_eq_true rfl), (Nat.le_of_ble_eq_true rfl)⟩ dX11_init_122 ?_
  refine hz_b_S (S1 := [.inr (9, [.ref (hz_ad w (L.length + 1)), .ref (hz_ad w (L.length + 2)), .ref (hz_ad w (L.length + 3)), .ref (hz_ad w (L.length + 4)), .ref (hz_ad w (L.length + 5)), .ref (hz_ad w (L.length + 6)), .int 0, .int 0, .int 0, .ref (hz_ad w (L.length + 7)), .ref (hz_ad w (L.length + 8)), .int 0, .int (-1 : Int32), .int 0, .int 0, .int 0, .int 0, .int 0, .ref (hz_ad w (L.length + 9)), .ref (hz_ad w (L.length + 10)), .ref (hz_ad w (L.length + 11)), .ref (hz_ad w (L.length + 12)), .int 0, .int 0, .int 0, .ref (hz_ad w (L.length + 13)), .null, .int 0]), .inl (hz_tc w 0, 185, .inl (fun _ => 0)), .inl (hz_tc w 0, 185, .inl (fun _ => 0)), .inl (hz_tc w 0, 185, .inl (fun _ => 0)), .inl (hz_tc w 0, 1480, .inl (fun _ => 0)), .inl (hz_tc w 0, 370, .inl (fun _ => 0)), .inl (hz_tc w 1, 2, .inl (fun _ => 0)), .inl (hz_tc w 1, 16, .inl (fun _ => 0)), .inl (hz_tc w 0, 600, .inl (fun _ => 0)), .inl (hz_tc w 0, 30, .inl (fun _ => 0)), .inl (hz_tc w 0, 30, .inl (fun _ => 0)), .inl (hz_tc w 0, 30, .inl (fun _ => 0)), .inl (hz_tc w 0, 30, .inl (fun _ => 0)), .inl (hz_tc w 0, 400, .inl (fun _ => 0)), .inl (hz_tc w 0, 8, .inl (fun _ => 0))]) rfl ?_
  refine hz_b_st (st1 := [.ref (hz_ad w (L.length + 14)), .ref (hz_ad w L.length)]) rfl ?_
  refine hz_b_put (j := 0) (k := 26) hO hin hz_K_9 tyX11_ok nmX11 rfl (Nat.le_of_ble_eq_true rfl) tw_7_15 rfl rfl rfl rfl rfl (Nat.le_of_ble_eq_true rfl) dX11_init_124 ?_
  refine hz_b_S (S1 := [.inr (9, [.ref (hz_ad w (L.length + 1)), .ref (hz_ad w (L.length + 2)), .ref (hz_ad w (L.length + 3)), .ref (hz_ad w (L.length + 4)), .ref (hz_ad w (L.length + 5)), .ref (hz_ad w (L.length + 6)), .int 0, .int 0, .int 0, .ref (hz_ad w (L.length + 7)), .ref (hz_ad w (L.length + 8)), .int 0, .int (-1 : Int32), .int 0, .int 0, .int 0, .int 0, .int 0, .ref (hz_ad w (L.length + 9)), .ref (hz_ad w (L.length + 10)), .ref (hz_ad w (L.length + 11)), .ref (hz_ad w (L.length + 12)), .int 0, .int 0, .int 0, .ref (hz_ad w (L.length + 13)), .ref (hz_ad w (L.length + 14)), .int 0]), .inl (hz_tc w 0, 185, .inl (fun _ => 0)), .inl (hz_tc w 0, 185, .inl (fun _ => 0)), .inl (hz_tc w 0, 185, .inl (fun _ => 0)), .inl (hz_tc w 0, 1480, .inl (fun _ => 0)), .inl (hz_tc w 0, 370, .inl (fun _ => 0)), .inl (hz_tc w 1, 2, .inl (fun _ => 0)), .inl (hz_tc w 1, 16, .inl (fun _ => 0)), .inl (hz_tc w 0, 600, .inl (fun _ => 0)), .inl (hz_tc w 0, 30, .inl (fun _ => 0)), .inl (hz_tc w 0, 30, .inl (fun _ => 0)), .inl (hz_tc w 0, 30, .inl (fun _ => 0)), .inl (hz_tc w 0, 30, .inl (fun _ => 0)), .inl (hz_tc w 0, 400, .inl (fun _ => 0)), .inl (hz_tc w 0, 8, .inl (fun _ => 0))]) rfl ?_
  refine hz_b_z (z1 := ((14, 3551), (14, 3551))) rfl ?_
  rw [hb]
  refine hz_b_toG (N := 193) (M := hz_m1 M0) (by rw [hL0]; exact hz_m1_wl w M0) ?_
  exact key _ h
