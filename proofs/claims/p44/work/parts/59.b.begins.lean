theorem tw_7_122 : (Jvm.Cond.methodLink "HotStepsLaw" (319 : Nat) ({ cls := "HotSteps", name := "load", desc := "()I" } : Jvm.MethodName)) ∈ hz_TB := hz_tb (hz_t7 _ (List.mem_of_getElem? (i := 122) rfl)) rfl
theorem tw_7_139 : (Jvm.Cond.methodLink "HotStepsLaw" (322 : Nat) ({ cls := "HotSteps", name := "errorPosition", desc := "()I" } : Jvm.MethodName)) ∈ hz_TB := hz_tb (hz_t7 _ (List.mem_of_getElem? (i := 139) rfl)) rfl
def f_L_begA (b : Nat) (xs : Nat → Int32) (L : Nat) (kz : hz_M → hz_O) (M : hz_M) : hz_O :=
  hz_ct (f_L_pick xs L (0 : Int32) (6 : Int32) M) fun r1 M2 =>
  hz_lm (hz_set M2 b 0 ((1 : Int32) + r1)) fun M4 =>
  hz_ct (f_L_pick xs L (1 : Int32) (8 : Int32) M4) fun r5 M6 =>
  hz_lm (hz_set M6 b 1 ((1 : Int32) + r5)) fun M8 =>
  hz_ct (f_L_pick xs L (2 : Int32) ((M8 b 1) + (1 : Int32)) M8) fun r9 M10 =>
  hz_lm (hz_set M10 b 2 r9) fun M12 =>
  hz_ct (f_L_pick xs L (3 : Int32) (4 : Int32) M12) fun r13 M14 =>
  hz_lm (hz_set M14 b 3 ((1 : Int32) + r13)) fun M16 =>
  hz_ct (f_L_pick xs L (4 : Int32) (6 : Int32) M16) fun r17 M18 =>
  hz_lm (hz_set M18 b 4 ((1 : Int32) + r17)) fun M20 =>
  hz_ct (f_L_pick xs L (5 : Int32) (3 : Int32) M20) fun r21 M22 =>
  hz_lm (hz_set M22 b 5 ((1 : Int32) + r21)) fun M24 =>
  hz_ct (f_L_pick xs L (6 : Int32) (8 : Int32) M24) fun r25 M26 =>
  hz_lm (hz_set M26 b 6 ((2 : Int32) + r25)) fun M28 =>
  hz_ct (f_L_pick xs L (7 : Int32) (6 : Int32) M28) fun r29 M30 =>
  hz_lm (hz_set M30 b 7 r29) fun M32 =>
  hz_lm (hz_set M32 b 9 (30 : Int32)) fun M33 =>
  hz_ct (f_L_pick xs L (8 : Int32) (9 : Int32) M33) fun r34 M35 =>
  hz_lm (hz_set M35 b 10 r34) fun M37 =>
  kz M37
set_option maxRecDepth 100000 in
set_option maxHeartbeats 4000000 in
theorem g_L_begA {p : Program} {l : Launch} {e : Env} {s : State} {m : MethodId} {args : Array Value} {below : List Frame} {meth : Method} {c : Code} {w : hz_C} {N : Nat} (hN : 178 ≤ N) {b : Nat} (hB : hz_Own N b) {xs : Nat → Int32} {L : Nat} (hsc : hz_scx w = xs ∧ hz_scl w = L) {rE : Int32} {ME : hz_M} (hO : hz_Ok p s m args meth c w cL_begins 5 RL (some .boolean)) {kz : hz_M → hz_O} (gz : ∀ (M : hz_M), kz M = some (rE, ME) → hz_G p l e 9 ((100, 41500), (0, 0)) s m args below meth c w N 5 (MQ below (hz_Qi w N rE ME) args s 100 41500 (hz_A w)) M 122 [(0, .ref (hz_ad w 0)), (1, .ref (hz_ad w b)), (2, .ref (hz_scb w))] []) (M : hz_M) (h : f_L_begA b xs L kz M = some (rE, ME)) : hz_G p l e 9 ((100, 41500), (0, 0)) s m args below meth c w N 5 (MQ below (hz_Qi w N rE ME) args s 100 41500 (hz_A w)) M 0 [(0, .ref (hz_ad w 0)), (1, .ref (hz_ad w b)), (2, .ref (hz_scb w))] [] := by
  unfold f_L_begA at h
  refine hz_aload_n hO dL_begins_0 rfl 1 rfl ?_
  refine hz_iconst (v := (1 : Int32)) hO dL_begins_1 (by decide) ?_
  refine hz_aload_n hO dL_begins_2 rfl 2 rfl ?_
  refine hz_iconst (v := (0 : Int32)) hO dL_begins_3 (by decide) ?_
  refine hz_bipush (v := (6 : Int32)) hO dL_begins_4 (by decide) ?_
  obtain ⟨r1, M2, hq3, h⟩ := hz_ct_e h
  refine hz_callSi (as := [.ref (hz_scb w), .int (0 : Int32), .int (6 : Int32)]) (rest := [.int (1 : Int32), .ref (hz_ad w b)]) hO (c_L_pick l w hN hsc (0 : Int32) (6 : Int32) hq3) hz_cal_L_pick tw_4_39 (Nat.le_of_ble_eq_true rfl) rfl rfl (Nat.le_of_ble_eq_true rfl) dL_begins_6 ?_
  refine hz_iadd hO dL_begins_9 ?_
  obtain ⟨M4, h_M4, h⟩ := hz_lm_e h
  refine hz_putIN (k := 0) (ty := .int) hO hz_K_11 tyX11_ok nmX11 hB.1 hB.2.1 rfl (Nat.le_of_ble_eq_true rfl) (List.mem_of_getElem? (i := 13) rfl) rfl rfl rfl rfl rfl dL_begins_10 ?_
  refine hz_nameM h_M4 ?_
  refine hz_aload_n hO dL_begins_13 rfl 1 rfl ?_
  refine hz_iconst (v := (1 : Int32)) hO dL_begins_14 (by decide) ?_
  refine hz_aload_n hO dL_begins_15 rfl 2 rfl ?_
  refine hz_iconst (v := (1 : Int32)) hO dL_begins_16 (by decide) ?_
  refine hz_bipush (v := (8 : Int32)) hO dL_begins_17 (by decide) ?_
  obtain ⟨r5, M6, hq7, h⟩ := hz_ct_e h
  refine hz_callSi (as := [.ref (hz_scb w), .int (1 : Int32), .int (8 : Int32)]) (rest := [.int (1 : Int32), .ref (hz_ad w b)]) hO (c_L_pick l w hN hsc (1 : Int32) (8 : Int32) hq7) hz_cal_L_pick tw_4_39 (Nat.le_of_ble_eq_true rfl) rfl rfl (Nat.le_of_ble_eq_true rfl) dL_begins_19 ?_
  refine hz_iadd hO dL_begins_22 ?_
  obtain ⟨M8, h_M8, h⟩ := hz_lm_e h
  refine hz_putIN (k := 1) (ty := .int) hO hz_K_11 tyX11_ok nmX11 hB.1 hB.2.1 rfl (Nat.le_of_ble_eq_true rfl) (List.mem_of_getElem? (i := 0) rfl) rfl rfl rfl rfl rfl dL_begins_23 ?_
  refine hz_nameM h_M8 ?_
  refine hz_aload_n hO dL_begins_26 rfl 1 rfl ?_
  refine hz_aload_n hO dL_begins_27 rfl 2 rfl ?_
  refine hz_iconst (v := (2 : Int32)) hO dL_begins_28 (by decide) ?_
  refine hz_aload_n hO dL_begins_29 rfl 1 rfl ?_
  refine hz_getIN (k := 1) hO hz_K_11 hB.1 hB.2.1 rfl (Nat.le_of_ble_eq_true rfl) (List.mem_of_getElem? (i := 0) rfl) rfl dL_begins_30 ?_
  refine hz_iconst (v := (1 : Int32)) hO dL_begins_33 (by decide) ?_
  refine hz_iadd hO dL_begins_34 ?_
  obtain ⟨r9, M10, hq11, h⟩ := hz_ct_e h
  refine hz_callSi (as := [.ref (hz_scb w), .int (2 : Int32), .int ((M8 b 1) + (1 : Int32))]) (rest := [.ref (hz_ad w b)]) hO (c_L_pick l w hN hsc (2 : Int32) ((M8 b 1) + (1 : Int32)) hq11) hz_cal_L_pick tw_4_39 (Nat.le_of_ble_eq_true rfl) rfl rfl (Nat.le_of_ble_eq_true rfl) dL_begins_35 ?_
  obtain ⟨M12, h_M12, h⟩ := hz_lm_e h
  refine hz_putIN (k := 2) (ty := .int) hO hz_K_11 tyX11_ok nmX11 hB.1 hB.2.1 rfl (Nat.le_of_ble_eq_true rfl) (List.mem_of_getElem? (i := 10) rfl) rfl rfl rfl rfl rfl dL_begins_38 ?_
  refine hz_nameM h_M12 ?_
  refine hz_aload_n hO dL_begins_41 rfl 1 rfl ?_
  refine hz_iconst (v := (1 : Int32)) hO dL_begins_42 (by decide) ?_
  refine hz_aload_n hO dL_begins_43 rfl 2 rfl ?_
  refine hz_iconst (v := (3 : Int32)) hO dL_begins_44 (by decide) ?_
  refine hz_iconst (v := (4 : Int32)) hO dL_begins_45 (by decide) ?_
  obtain ⟨r13, M14, hq15, h⟩ := hz_ct_e h
  refine hz_callSi (as := [.ref (hz_scb w), .int (3 : Int32), .int (4 : Int32)]) (rest := [.int (1 : Int32), .ref (hz_ad w b)]) hO (c_L_pick l w hN hsc (3 : Int32) (4 : Int32) hq15) hz_cal_L_pick tw_4_39 (Nat.le_of_ble_eq_true rfl) rfl rfl (Nat.le_of_ble_eq_true rfl) dL_begins_46 ?_
  refine hz_iadd hO dL_begins_49 ?_
  obtain ⟨M16, h_M16, h⟩ := hz_lm_e h
  refine hz_putIN (k := 3) (ty := .int) hO hz_K_11 tyX11_ok nmX11 hB.1 hB.2.1 rfl (Nat.le_of_ble_eq_true rfl) (List.mem_of_getElem? (i := 15) rfl) rfl rfl rfl rfl rfl dL_begins_50 ?_
  refine hz_nameM h_M16 ?_
  refine hz_aload_n hO dL_begins_53 rfl 1 rfl ?_
  refine hz_iconst (v := (1 : Int32)) hO dL_begins_54 (by decide) ?_
  refine hz_aload_n hO dL_begins_55 rfl 2 rfl ?_
  refine hz_iconst (v := (4 : Int32)) hO dL_begins_56 (by decide) ?_
  refine hz_bipush (v := (6 : Int32)) hO dL_begins_57 (by decide) ?_
  obtain ⟨r17, M18, hq19, h⟩ := hz_ct_e h
  refine hz_callSi (as := [.ref (hz_scb w), .int (4 : Int32), .int (6 : Int32)]) (rest := [.int (1 : Int32), .ref (hz_ad w b)]) hO (c_L_pick l w hN hsc (4 : Int32) (6 : Int32) hq19) hz_cal_L_pick tw_4_39 (Nat.le_of_ble_eq_true rfl) rfl rfl (Nat.le_of_ble_eq_true rfl) dL_begins_59 ?_
  refine hz_iadd hO dL_begins_62 ?_
  obtain ⟨M20, h_M20, h⟩ := hz_lm_e h
  refine hz_putIN (k := 4) (ty := .int) hO hz_K_11 tyX11_ok nmX11 hB.1 hB.2.1 rfl (Nat.le_of_ble_eq_true rfl) (List.mem_of_getElem? (i := 1) rfl) rfl rfl rfl rfl rfl dL_begins_63 ?_
  refine hz_nameM h_M20 ?_
  refine hz_aload_n hO dL_begins_66 rfl 1 rfl ?_
  refine hz_iconst (v := (1 : Int32)) hO dL_begins_67 (by decide) ?_
  refine hz_aload_n hO dL_begins_68 rfl 2 rfl ?_
  refine hz_iconst (v := (5 : Int32)) hO dL_begins_69 (by decide) ?_
  refine hz_iconst (v := (3 : Int32)) hO dL_begins_70 (by decide) ?_
  obtain ⟨r21, M22, hq23, h⟩ := hz_ct_e h
  refine hz_callSi (as := [.ref (hz_scb w), .int (5 : Int32), .int (3 : Int32)]) (rest := [.int (1 : Int32), .ref (hz_ad w b)]) hO (c_L_pick l w hN hsc (5 : Int32) (3 : Int32) hq23) hz_cal_L_pick tw_4_39 (Nat.le_of_ble_eq_true rfl) rfl rfl (Nat.le_of_ble_eq_true rfl) dL_begins_71 ?_
  refine hz_iadd hO dL_begins_74 ?_
  obtain ⟨M24, h_M24, h⟩ := hz_lm_e h
  refine hz_putIN (k := 5) (ty := .int) hO hz_K_11 tyX11_ok nmX11 hB.1 hB.2.1 rfl (Nat.le_of_ble_eq_true rfl) (List.mem_of_getElem? (i := 18) rfl) rfl rfl rfl rfl rfl dL_begins_75 ?_
  refine hz_nameM h_M24 ?_
  refine hz_aload_n hO dL_begins_78 rfl 1 rfl ?_
  refine hz_iconst (v := (2 : Int32)) hO dL_begins_79 (by decide) ?_
  refine hz_aload_n hO dL_begins_80 rfl 2 rfl ?_
  refine hz_bipush (v := (6 : Int32)) hO dL_begins_81 (by decide) ?_
  refine hz_bipush (v := (8 : Int32)) hO dL_begins_83 (by decide) ?_
  obtain ⟨r25, M26, hq27, h⟩ := hz_ct_e h
  refine hz_callSi (as := [.ref (hz_scb w), .int (6 : Int32), .int (8 : Int32)]) (rest := [.int (2 : Int32), .ref (hz_ad w b)]) hO (c_L_pick l w hN hsc (6 : Int32) (8 : Int32) hq27) hz_cal_L_pick tw_4_39 (Nat.le_of_ble_eq_true rfl) rfl rfl (Nat.le_of_ble_eq_true rfl) dL_begins_85 ?_
  refine hz_iadd hO dL_begins_88 ?_
  obtain ⟨M28, h_M28, h⟩ := hz_lm_e h
  refine hz_putIN (k := 6) (ty := .int) hO hz_K_11 tyX11_ok nmX11 hB.1 hB.2.1 rfl (Nat.le_of_ble_eq_true rfl) (List.mem_of_getElem? (i := 19) rfl) rfl rfl rfl rfl rfl dL_begins_89 ?_
  refine hz_nameM h_M28 ?_
  refine hz_aload_n hO dL_begins_92 rfl 1 rfl ?_
  refine hz_aload_n hO dL_begins_93 rfl 2 rfl ?_
  refine hz_bipush (v := (7 : Int32)) hO dL_begins_94 (by decide) ?_
  refine hz_bipush (v := (6 : Int32)) hO dL_begins_96 (by decide) ?_
  obtain ⟨r29, M30, hq31, h⟩ := hz_ct_e h
  refine hz_callSi (as := [.ref (hz_scb w), .int (7 : Int32), .int (6 : Int32)]) (rest := [.ref (hz_ad w b)]) hO (c_L_pick l w hN hsc (7 : Int32) (6 : Int32) hq31) hz_cal_L_pick tw_4_39 (Nat.le_of_ble_eq_true rfl) rfl rfl (Nat.le_of_ble_eq_true rfl) dL_begins_98 ?_
  obtain ⟨M32, h_M32, h⟩ := hz_lm_e h
  refine hz_putIN (k := 7) (ty := .int) hO hz_K_11 tyX11_ok nmX11 hB.1 hB.2.1 rfl (Nat.le_of_ble_eq_true rfl) (List.mem_of_getElem? (i := 20) rfl) rfl rfl rfl rfl rfl dL_begins_101 ?_
  refine hz_nameM h_M32 ?_
  refine hz_aload_n hO dL_begins_104 rfl 1 rfl ?_
  refine hz_bipush (v := (30 : Int32)) hO dL_begins_105 (by decide) ?_
  obtain ⟨M33, h_M33, h⟩ := hz_lm_e h
  refine hz_putIN (k := 9) (ty := .int) hO hz_K_11 tyX11_ok nmX11 hB.1 hB.2.1 rfl (Nat.le_of_ble_eq_true rfl) (List.mem_of_getElem? (i := 9) rfl) rfl rfl rfl rfl rfl dL_begins_107 ?_
  refine hz_nameM h_M33 ?_
  refine hz_aload_n hO dL_begins_110 rfl 1 rfl ?_
  refine hz_aload_n hO dL_begins_111 rfl 2 rfl ?_
  refine hz_bipush (v := (8 : Int32)) hO dL_begins_112 (by decide) ?_
  refine hz_bipush (v := (9 : Int32)) hO dL_begins_114 (by decide) ?_
  obtain ⟨r34, M35, hq36, h⟩ := hz_ct_e h
  refine hz_callSi (as := [.ref (hz_scb w), .int (8 : Int32), .int (9 : Int32)]) (rest := [.ref (hz_ad w b)]) hO (c_L_pick l w hN hsc (8 : Int32) (9 : Int32) hq36) hz_cal_L_pick tw_4_39 (Nat.le_of_ble_eq_true rfl) rfl rfl (Nat.le_of_ble_eq_true rfl) dL_begins_116 ?_
  obtain ⟨M37, h_M37, h⟩ := hz_lm_e h
  refine hz_putIN (k := 10) (ty := .int) hO hz_K_11 tyX11_ok nmX11 hB.1 hB.2.1 rfl (Nat.le_of_ble_eq_true rfl) (List.mem_of_getElem? (i := 8) rfl) rfl rfl rfl rfl rfl dL_begins_119 ?_
  refine hz_nameM h_M37 ?_
  exact hz_ls [0, 1, 2] rfl (gz M37 h)
def f_L_begD (b : Nat) (r0 : Int32) (M : hz_M) : hz_O :=
  if r0 = 0 then
    some ((0 : Int32), M)
  else
    hz_ct (f_X10_load M) fun r2 M3 =>
    if r2 = (M3 b 10) then
      hz_ct (f_X10_errorPosition M3) fun r6 M7 =>
      if r6 = (-1 : Int32) then
        some ((1 : Int32), M7)
      else
        some ((0 : Int32), M7)
    else
      some ((0 : Int32), M3)
set_option maxRecDepth 100000 in
set_option maxHeartbeats 4000000 in
theorem g_L_begD {p : Program} {l : Launch} {e : Env} {s : State} {m : MethodId} {args : Array Value} {below : List Frame} {meth : Method} {c : Code} {w : hz_C} {N : Nat} (hN : 178 ≤ N) {b : Nat} (hB : hz_Own N b) {rE : Int32} {ME : hz_M} (hO : hz_Ok p s m args meth c w cL_begins 5 RL (some .boolean)) (r0 : Int32) (M : hz_M) (h : f_L_begD b r0 M = some (rE, ME)) : hz_G p l e 9 ((100, 41500), (100, 41500)) s m args below meth c w N 5 (MQ below (hz_Qi w N rE ME) args s 100 41500 (hz_A w)) M 419 [(0, .ref (hz_ad w 0)), (1, .ref (hz_ad w b))] [.int r0] := by
  unfold f_L_begD at h
  refine hz_if_eq (tgt := 445) hO dL_begins_419 (by decide) (fun hc1 => ?_) (fun hc1 => ?_)
  · rw [if_pos hc1] at h
    refine hz_iconst (v := (0 : Int32)) hO dL_begins_445 (by decide) ?_
    exact hz_nameM (hz_some_e h).2.symm (hz_name (hz_some_e h).1.symm (hz_zret hO (by rw [← (hz_some_e h).1]; decide) dL_begins_446))
  · rw [if_neg hc1] at h
    refine hz_aload_n hO dL_begins_422 rfl 0 rfl ?_
    obtain ⟨r2, M3, hq4, h⟩ := hz_ct_e h
    refine hz_callVi (as := []) (rest := []) hO (c_X10_load l w hN hq4) hz_cal_X10_load hz_K_10 hz_sh_0 (hz_lt_0 hN) tw_7_122 (Nat.le_of_ble_eq_true rfl) rfl rfl (Nat.le_of_ble_eq_true rfl) dL_begins_423 ?_
    refine hz_aload_n hO dL_begins_426 rfl 1 rfl ?_
    refine hz_getIN (k := 10) hO hz_K_11 hB.1 hB.2.1 rfl (Nat.le_of_ble_eq_true rfl) (List.mem_of_getElem? (i := 8) rfl) rfl dL_begins_427 ?_
    refine hz_icmp_ne (tgt := 445) hO dL_begins_430 (by decide) (fun hc5 => ?_) (fun hc5 => ?_)
    · rw [if_neg hc5] at h
      refine hz_iconst (v := (0 : Int32)) hO dL_begins_445 (by decide) ?_
      exact hz_nameM (hz_some_e h).2.symm (hz_name (hz_some_e h).1.symm (hz_zret hO (by rw [← (hz_some_e h).1]; decide) dL_begins_446))
    · rw [if_pos hc5] at h
      refine hz_aload_n hO dL_begins_433 rfl 0 rfl ?_
      obtain ⟨r6, M7, hq8, h⟩ := hz_ct_e h
      refine hz_callVi (as := []) (rest := []) hO (c_X10_errorPosition l w hN hq8) hz_cal_X10_errorPosition hz_K_10 hz_sh_0 (hz_lt_0 hN) tw_7_139 (Nat.le_of_ble_eq_true rfl) rfl rfl (Nat.le_of_ble_eq_true rfl) dL_begins_434 ?_
      refine hz_iconst (v := (-1 : Int32)) hO dL_begins_437 (by decide) ?_
      refine hz_icmp_ne (tgt := 445) hO dL_begins_438 (by decide) (fun hc9 => ?_) (fun hc9 => ?_)
      · rw [if_neg hc9] at h
        refine hz_iconst (v := (0 : Int32)) hO dL_begins_445 (by decide) ?_
        exact hz_nameM (hz_some_e h).2.symm (hz_name (hz_some_e h).1.symm (hz_zret hO (by rw [← (hz_some_e h).1]; decide) dL_begins_446))
      · rw [if_pos hc9] at h
        refine hz_iconst (v := (1 : Int32)) hO dL_begins_441 (by decide) ?_
        refine hz_goto (tgt := 446) hO dL_begins_442 (by decide) ?_
        exact hz_nameM (hz_some_e h).2.symm (hz_name (hz_some_e h).1.symm (hz_zret hO (by rw [← (hz_some_e h).1]; decide) dL_begins_446))
def f_L_begins_L289 (b : Nat) (kk326 : hz_M → hz_O) : Nat → Int32 → hz_M → hz_O
  | 0, _, _ => none
  | n + 1, v4_3, M4 =>
    if (16 : Int32) ≤ v4_3 then
      kk326 M4
    else
      hz_gd (hz_in v4_3 16) <|
      hz_lm (hz_set M4 (b + 7) (Int32.toNatClampNeg v4_3) (-1 : Int32)) fun M7 =>
      hz_gd (hz_in v4_3 16) <|
      hz_lm (hz_set M7 (b + 8) (Int32.toNatClampNeg v4_3) (-1 : Int32)) fun M9 =>
      hz_gd (hz_in v4_3 16) <|
      hz_lm (hz_set M9 (b + 11) (Int32.toNatClampNeg v4_3) (-1 : Int32)) fun M11 =>
      hz_lt (v4_3 + (1 : Int32)) fun x12 =>
      f_L_begins_L289 b kk326 n x12 M11
def f_L_begins_L265 (b : Nat) (kk286 : hz_M → hz_O) : Nat → Int32 → hz_M → hz_O
  | 0, _, _ => none
  | n + 1, v4_14, M15 =>
    if (12 : Int32) ≤ v4_14 then
      kk286 M15
    else
      hz_gd (hz_in v4_14 12) <|
      hz_lm (hz_set M15 (b + 3) (Int32.toNatClampNeg v4_14) (-1 : Int32)) fun M18 =>
      hz_lt (v4_14 + (1 : Int32)) fun x19 =>
      f_L_begins_L265 b kk286 n x19 M18
def f_L_begins_L227 (b : Nat) (kk262 : hz_M → hz_O) : Nat → Int32 → hz_M → hz_O
  | 0, _, _ => none
  | n + 1, v4_21, M22 =>
    if (16 : Int32) ≤ v4_21 then
      kk262 M22
    else
      hz_jn (fun (v4_24 : Int32) (q25 : Int32) (q26 : Int32) (M27 : hz_M) =>
        hz_gd (hz_in q26 16) <|
        hz_lm (hz_set M27 (b + 2) (Int32.toNatClampNeg q26) q25) fun M29 =>
        hz_lt (v4_24 + (1 : Int32)) fun x30 =>
        f_L_begins_L227 b kk262 n x30 M29
        ) fun k31 =>
      if (M22 b 2) ≤ v4_21 then
        k31 v4_21 (-1 : Int32) v4_21 M22
      else
        k31 v4_21 v4_21 v4_21 M22
def f_L_begC (b : Nat) (kz : hz_M → hz_O) (M : hz_M) : hz_O :=
  hz_jn (fun  (M1 : hz_M) =>
    hz_jn (fun  (M2 : hz_M) =>
      f_L_begins_L289 b kz hz_FU (0 : Int32) M2
      ) fun k13 =>
    f_L_begins_L265 b k13 hz_FU (0 : Int32) M1
    ) fun k20 =>
  f_L_begins_L227 b k20 hz_FU (0 : Int32) M
set_option maxRecDepth 100000 in
set_option maxHeartbeats 4000000 in
theorem g_L_begins_L289 {p : Program} {l : Launch} {e : Env} {s : State} {m : MethodId} {args : Array Value} {below : List Frame} {meth : Method} {c : Code} {w : hz_C} {N : Nat} {S : va_W} {sb : Nat} (hN : 178 ≤ N) {b : Nat} (hB : hz_Own N b) {rE : Int32} {ME : hz_M} (hO : hz_Ok p s m args meth c w cL_begins 5 RL (some .boolean)) (kk326 : hz_M → hz_O) (gkk326 : ∀  (M : hz_M), kk326 M = some (rE, ME) → hz_Y p l e 9 ((100, 41500), (18, 9804)) s m args below meth c w 5 (MQ below (hz_Qi w N rE ME) args s 100 41500 (hz_A w)) (hz_ws w N M) S 326 [(3, .ref sb), (0, .ref (hz_ad w 0)), (1, .ref (hz_ad w b)), (2, .ref (hz_scb w))] []) : ∀ (n : Nat) (v4_3 : Int32) (M4 : hz_M), f_L_begins_L289 b kk326 n v4_3 M4 = some (rE, ME) → hz_Y p l e 9 ((100, 41500), (18, 9804)) s m args below meth c w 5 (MQ below (hz_Qi w N rE ME) args s 100 41500 (hz_A w)) (hz_ws w N M4) S 289 [(0, .ref (hz_ad w 0)), (1, .ref (hz_ad w b)), (2, .ref (hz_scb w)), (3, .ref sb), (4, .int v4_3)] [] := by
  intro n
  induction n with
  | zero =>
    intro v4_3 M4 h
    rw [f_L_begins_L289] at h
    cases h
  | succ n ih =>
    intro v4_3 M4 h
    rw [f_L_begins_L289] at h
    refine hz_y_iload hO dL_begins_289 4 rfl ?_
    refine hz_y_bipush (v := (16 : Int32)) hO dL_begins_291 (by decide) ?_
    refine hz_y_icmp_ge (tgt := 326) hO dL_begins_293 (by decide) (fun hc5 => ?_) (fun hc5 => ?_)
    · rw [if_pos hc5] at h
      exact hz_y_ls [3, 0, 1, 2] rfl (gkk326 M4 h)
    · rw [if_neg hc5] at h
      refine hz_y_aload_n hO dL_begins_296 rfl 1 rfl ?_
      refine hz_y_getRN (k := 18) hO (b + 7) hz_K_11 hB.1 hB.2.1 rfl (Nat.le_of_ble_eq_true rfl) (List.mem_of_getElem? (i := 3) rfl) rfl dL_begins_297 ?_
      refine hz_y_iload hO dL_begins_300 4 rfl ?_
      refine hz_y_iconst (v := (-1 : Int32)) hO dL_begins_302 (by decide) ?_
      obtain ⟨hg6, h⟩ := hz_gd_e h
      obtain ⟨M7, h_M7, h⟩ := hz_lm_e h
      refine hz_y_iast hO hB.2.2.2.2.2.2.2.2.2.2.2.2.2.2.1 hB.2.2.2.2.2.2.2.2.2.2.2.2.2.2.2.1 hg6 dL_begins_303 ?_
      refine hz_y_nameM h_M7 ?_
      refine hz_y_aload_n hO dL_begins_304 rfl 1 rfl ?_
      refine hz_y_getRN (k := 19) hO (b + 8) hz_K_11 hB.1 hB.2.1 rfl (Nat.le_of_ble_eq_true rfl) (List.mem_of_getElem? (i := 4) rfl) rfl dL_begins_305 ?_
      refine hz_y_iload hO dL_begins_308 4 rfl ?_
      refine hz_y_iconst (v := (-1 : Int32)) hO dL_begins_310 (by decide) ?_
      obtain ⟨hg8, h⟩ := hz_gd_e h
      obtain ⟨M9, h_M9, h⟩ := hz_lm_e h
      refine hz_y_iast hO hB.2.2.2.2.2.2.2.2.2.2.2.2.2.2.2.2.1 hB.2.2.2.2.2.2.2.2.2.2.2.2.2.2.2.2.2.1 hg8 dL_begins_311 ?_
      refine hz_y_nameM h_M9 ?_
      refine hz_y_aload_n hO dL_begins_312 rfl 1 rfl ?_
      refine hz_y_getRN (k := 22) hO (b + 11) hz_K_11 hB.1 hB.2.1 rfl (Nat.le_of_ble_eq_true rfl) (List.mem_of_getElem? (i := 7) rfl) rfl dL_begins_313 ?_
      refine hz_y_iload hO dL_begins_316 4 rfl ?_
      refine hz_y_iconst (v := (-1 : Int32)) hO dL_begins_318 (by decide) ?_
      obtain ⟨hg10, h⟩ := hz_gd_e h
      obtain ⟨M11, h_M11, h⟩ := hz_lm_e h
      refine hz_y_iast hO hB.2.2.2.2.2.2.2.2.2.2.2.2.2.2.2.2.2.2.2.2.2.2.1 hB.2.2.2.2.2.2.2.2.2.2.2.2.2.2.2.2.2.2.2.2.2.2.2 hg10 dL_begins_319 ?_
      refine hz_y_nameM h_M11 ?_
      obtain ⟨x12, h_x12, h⟩ := hz_lt_e h
      refine hz_y_iinc (k := 4) (v := x12) (ls1 := [(4, .int x12), (0, .ref (hz_ad w 0)), (1, .ref (hz_ad w b)), (2, .ref (hz_scb w)), (3, .ref sb)]) hO dL_begins_320 rfl (by rw [h_x12]; rfl) (Nat.le_of_ble_eq_true rfl) rfl ?_
      refine hz_y_goto (tgt := 289) hO dL_begins_323 (by decide) ?_
      exact hz_y_ls [1, 2, 3, 4, 0] rfl (ih x12 M11 h)
set_option maxRecDepth 100000 in
set_option maxHeartbeats 4000000 in
theorem g_L_begins_L265 {p : Program} {l : Launch} {e : Env} {s : State} {m : MethodId} {args : Array Value} {below : List Frame} {meth : Method} {c : Code} {w : hz_C} {N : Nat} {S : va_W} {sb : Nat} (hN : 178 ≤ N) {b : Nat} (hB : hz_Own N b) {rE : Int32} {ME : hz_M} (hO : hz_Ok p s m args meth c w cL_begins 5 RL (some .boolean)) (kk286 : hz_M → hz_O) (gkk286 : ∀  (M : hz_M), kk286 M = some (rE, ME) → hz_Y p l e 9 ((100, 41500), (18, 9804)) s m args below meth c w 5 (MQ below (hz_Qi w N rE ME) args s 100 41500 (hz_A w)) (hz_ws w N M) S 286 [(0, .ref (hz_ad w 0)), (1, .ref (hz_ad w b)), (2, .ref (hz_scb w)), (3, .ref sb)] []) : ∀ (n : Nat) (v4_14 : Int32) (M15 : hz_M), f_L_begins_L265 b kk286 n v4_14 M15 = some (rE, ME) → hz_Y p l e 9 ((100, 41500), (18, 9804)) s m args below meth c w 5 (MQ below (hz_Qi w N rE ME) args s 100 41500 (hz_A w)) (hz_ws w N M15) S 265 [(0, .ref (hz_ad w 0)), (1, .ref (hz_ad w b)), (2, .ref (hz_scb w)), (3, .ref sb), (4, .int v4_14)] [] := by
  intro n
  induction n with
  | zero =>
    intro v4_14 M15 h
    rw [f_L_begins_L265] at h
    cases h
  | succ n ih =>
    intro v4_14 M15 h
    rw [f_L_begins_L265] at h
    refine hz_y_iload hO dL_begins_265 4 rfl ?_
    refine hz_y_bipush (v := (12 : Int32)) hO dL_begins_267 (by decide) ?_
    refine hz_y_icmp_ge (tgt := 286) hO dL_begins_269 (by decide) (fun hc16 => ?_) (fun hc16 => ?_)
    · rw [if_pos hc16] at h
      exact hz_y_ls [0, 1, 2, 3] rfl (gkk286 M15 h)
    · rw [if_neg hc16] at h
      refine hz_y_aload_n hO dL_begins_272 rfl 1 rfl ?_
      refine hz_y_getRN (k := 14) hO (b + 3) hz_K_11 hB.1 hB.2.1 rfl (Nat.le_of_ble_eq_true rfl) (List.mem_of_getElem? (i := 14) rfl) rfl dL_begins_273 ?_
      refine hz_y_iload hO dL_begins_276 4 rfl ?_
      refine hz_y_iconst (v := (-1 : Int32)) hO dL_begins_278 (by decide) ?_
      obtain ⟨hg17, h⟩ := hz_gd_e h
      obtain ⟨M18, h_M18, h⟩ := hz_lm_e h
      refine hz_y_iast hO hB.2.2.2.2.2.2.1 hB.2.2.2.2.2.2.2.1 hg17 dL_begins_279 ?_
      refine hz_y_nameM h_M18 ?_
      obtain ⟨x19, h_x19, h⟩ := hz_lt_e h
      refine hz_y_iinc (k := 4) (v := x19) (ls1 := [(4, .int x19), (0, .ref (hz_ad w 0)), (1, .ref (hz_ad w b)), (2, .ref (hz_scb w)), (3, .ref sb)]) hO dL_begins_280 rfl (by rw [h_x19]; rfl) (Nat.le_of_ble_eq_true rfl) rfl ?_
      refine hz_y_goto (tgt := 265) hO dL_begins_283 (by decide) ?_
      exact hz_y_ls [1, 2, 3, 4, 0] rfl (ih x19 M18 h)
set_option maxRecDepth 100000 in
set_option maxHeartbeats 4000000 in
theorem g_L_begins_L227 {p : Program} {l : Launch} {e : Env} {s : State} {m : MethodId} {args : Array Value} {below : List Frame} {meth : Method} {c : Code} {w : hz_C} {N : Nat} {S : va_W} {sb : Nat} (hN : 178 ≤ N) {b : Nat} (hB : hz_Own N b) {rE : Int32} {ME : hz_M} (hO : hz_Ok p s m args meth c w cL_begins 5 RL (some .boolean)) (kk262 : hz_M → hz_O) (gkk262 : ∀  (M : hz_M), kk262 M = some (rE, ME) → hz_Y p l e 9 ((100, 41500), (18, 9804)) s m args below meth c w 5 (MQ below (hz_Qi w N rE ME) args s 100 41500 (hz_A w)) (hz_ws w N M) S 262 [(0, .ref (hz_ad w 0)), (1, .ref (hz_ad w b)), (2, .ref (hz_scb w)), (3, .ref sb)] []) : ∀ (n : Nat) (v4_21 : Int32) (M22 : hz_M), f_L_begins_L227 b kk262 n v4_21 M22 = some (rE, ME) → hz_Y p l e 9 ((100, 41500), (18, 9804)) s m args below meth c w 5 (MQ below (hz_Qi w N rE ME) args s 100 41500 (hz_A w)) (hz_ws w N M22) S 227 [(0, .ref (hz_ad w 0)), (1, .ref (hz_ad w b)), (2, .ref (hz_scb w)), (3, .ref sb), (4, .int v4_21)] [] := by
  intro n
  induction n with
  | zero =>
    intro v4_21 M22 h
    rw [f_L_begins_L227] at h
    cases h
  | succ n ih =>
    intro v4_21 M22 h
    rw [f_L_begins_L227] at h
    refine hz_y_iload hO dL_begins_227 4 rfl ?_
    refine hz_y_bipush (v := (16 : Int32)) hO dL_begins_229 (by decide) ?_
    refine hz_y_icmp_ge (tgt := 262) hO dL_begins_231 (by decide) (fun hc23 => ?_) (fun hc23 => ?_)
    · rw [if_pos hc23] at h
      exact hz_y_ls [0, 1, 2, 3] rfl (gkk262 M22 h)
    · rw [if_neg hc23] at h
      refine hz_y_aload_n hO dL_begins_234 rfl 1 rfl ?_
      refine hz_y_getRN (k := 13) hO (b + 2) hz_K_11 hB.1 hB.2.1 rfl (Nat.le_of_ble_eq_true rfl) (List.mem_of_getElem? (i := 12) rfl) rfl dL_begins_235 ?_
      refine hz_y_iload hO dL_begins_238 4 rfl ?_
      refine hz_y_iload hO dL_begins_240 4 rfl ?_
      refine hz_y_aload_n hO dL_begins_242 rfl 1 rfl ?_
      refine hz_y_getIN (k := 2) hO hz_K_11 hB.1 hB.2.1 rfl (Nat.le_of_ble_eq_true rfl) (List.mem_of_getElem? (i := 10) rfl) rfl dL_begins_243 ?_
      obtain ⟨k31, hk31, h⟩ := hz_jn_e h
      have gk31 : ∀ (v4_24 : Int32) (q25 : Int32) (q26 : Int32) (M27 : hz_M), k31 v4_24 q25 q26 M27 = some (rE, ME) → hz_Y p l e 9 ((100, 41500), (18, 9804)) s m args below meth c w 5 (MQ below (hz_Qi w N rE ME) args s 100 41500 (hz_A w)) (hz_ws w N M27) S 255 [(0, .ref (hz_ad w 0)), (1, .ref (hz_ad w b)), (2, .ref (hz_scb w)), (3, .ref sb), (4, .int v4_24)] [.int q25, .int q26, .ref (hz_ad w (b + 2))] := by
        intro v4_24 q25 q26 M27 h
        rw [hk31] at h
        dsimp only at h
        obtain ⟨hg28, h⟩ := hz_gd_e h
        obtain ⟨M29, h_M29, h⟩ := hz_lm_e h
        refine hz_y_iast hO hB.2.2.2.2.1 hB.2.2.2.2.2.1 hg28 dL_begins_255 ?_
        refine hz_y_nameM h_M29 ?_
        obtain ⟨x30, h_x30, h⟩ := hz_lt_e h
        refine hz_y_iinc (k := 4) (v := x30) (ls1 := [(4, .int x30), (0, .ref (hz_ad w 0)), (1, .ref (hz_ad w b)), (2, .ref (hz_scb w)), (3, .ref sb)]) hO dL_begins_256 rfl (by rw [h_x30]; rfl) (Nat.le_of_ble_eq_true rfl) rfl ?_
        refine hz_y_goto (tgt := 227) hO dL_begins_259 (by decide) ?_
        exact hz_y_ls [1, 2, 3, 4, 0] rfl (ih x30 M29 h)
      clear hk31
      refine hz_y_icmp_ge (tgt := 254) hO dL_begins_246 (by decide) (fun hc32 => ?_) (fun hc32 => ?_)
      · rw [if_pos hc32] at h
        refine hz_y_iconst (v := (-1 : Int32)) hO dL_begins_254 (by decide) ?_
        exact hz_y_ls [0, 1, 2, 3, 4] rfl (gk31 v4_21 (-1 : Int32) v4_21 M22 h)
      · rw [if_neg hc32] at h
        refine hz_y_iload hO dL_begins_249 4 rfl ?_
        refine hz_y_goto (tgt := 255) hO dL_begins_251 (by decide) ?_
        exact hz_y_ls [0, 1, 2, 3, 4] rfl (gk31 v4_21 v4_21 v4_21 M22 h)
set_option maxRecDepth 100000 in
set_option maxHeartbeats 4000000 in
theorem g_L_begC {p : Program} {l : Launch} {e : Env} {s : State} {m : MethodId} {args : Array Value} {below : List Frame} {meth : Method} {c : Code} {w : hz_C} {N : Nat} {S : va_W} {sb : Nat} (hN : 178 ≤ N) {b : Nat} (hB : hz_Own N b) {rE : Int32} {ME : hz_M} (hO : hz_Ok p s m args meth c w cL_begins 5 RL (some .boolean)) {kz : hz_M → hz_O} (gz : ∀ (M : hz_M), kz M = some (rE, ME) → hz_Y p l e 9 ((100, 41500), (18, 9804)) s m args below meth c w 5 (MQ below (hz_Qi w N rE ME) args s 100 41500 (hz_A w)) (hz_ws w N M) S 326 [(3, .ref sb), (0, .ref (hz_ad w 0)), (1, .ref (hz_ad w b)), (2, .ref (hz_scb w))] []) (M : hz_M) (h : f_L_begC b kz M = some (rE, ME)) : hz_Y p l e 9 ((100, 41500), (18, 9804)) s m args below meth c w 5 (MQ below (hz_Qi w N rE ME) args s 100 41500 (hz_A w)) (hz_ws w N M) S 224 [(3, .ref sb), (0, .ref (hz_ad w 0)), (1, .ref (hz_ad w b)), (2, .ref (hz_scb w))] [] := by
  unfold f_L_begC at h
  refine hz_y_iconst (v := (0 : Int32)) hO dL_begins_224 (by decide) ?_
  refine hz_y_istore (ls1 := [(4, .int (0 : Int32)), (3, .ref sb), (0, .ref (hz_ad w 0)), (1, .ref (hz_ad w b)), (2, .ref (hz_scb w))]) hO dL_begins_225 (Nat.le_of_ble_eq_true rfl) rfl ?_
  obtain ⟨k20, hk20, h⟩ := hz_jn_e h
  have gk20 : ∀  (M1 : hz_M), k20 M1 = some (rE, ME) → hz_Y p l e 9 ((100, 41500), (18, 9804)) s m args below meth c w 5 (MQ below (hz_Qi w N rE ME) args s 100 41500 (hz_A w)) (hz_ws w N M1) S 262 [(0, .ref (hz_ad w 0)), (1, .ref (hz_ad w b)), (2, .ref (hz_scb w)), (3, .ref sb)] [] := by
    intro M1 h
    rw [hk20] at h
    dsimp only at h
    refine hz_y_iconst (v := (0 : Int32)) hO dL_begins_262 (by decide) ?_
    refine hz_y_istore (ls1 := [(4, .int (0 : Int32)), (0, .ref (hz_ad w 0)), (1, .ref (hz_ad w b)), (2, .ref (hz_scb w)), (3, .ref sb)]) hO dL_begins_263 (Nat.le_of_ble_eq_true rfl) rfl ?_
    obtain ⟨k13, hk13, h⟩ := hz_jn_e h
    have gk13 : ∀  (M2 : hz_M), k13 M2 = some (rE, ME) → hz_Y p l e 9 ((100, 41500), (18, 9804)) s m args below meth c w 5 (MQ below (hz_Qi w N rE ME) args s 100 41500 (hz_A w)) (hz_ws w N M2) S 286 [(0, .ref (hz_ad w 0)), (1, .ref (hz_ad w b)), (2, .ref (hz_scb w)), (3, .ref sb)] [] := by
      intro M2 h
      rw [hk13] at h
      dsimp only at h
      refine hz_y_iconst (v := (0 : Int32)) hO dL_begins_286 (by decide) ?_
      refine hz_y_istore (ls1 := [(4, .int (0 : Int32)), (0, .ref (hz_ad w 0)), (1, .ref (hz_ad w b)), (2, .ref (hz_scb w)), (3, .ref sb)]) hO dL_begins_287 (Nat.le_of_ble_eq_true rfl) rfl ?_
      exact hz_y_ls [1, 2, 3, 4, 0] rfl (g_L_begins_L289 hN hB hO _ gz _ (0 : Int32) M2 h)
    clear hk13
    exact hz_y_ls [1, 2, 3, 4, 0] rfl (g_L_begins_L265 hN hB hO _ gk13 _ (0 : Int32) M1 h)
  clear hk20
  exact hz_y_ls [2, 3, 4, 1, 0] rfl (g_L_begins_L227 hN hB hO _ gk20 _ (0 : Int32) M h)
