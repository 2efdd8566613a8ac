-- X10_ifValve X10_set X10_undo X1_refusal X1_perform X3_guestNamed X8_rewind X8_needWord X8_needSign X8_needEnd X10_change X3_readGuest X10_enter X10_sit X10_hall X10_hang X10_take X10_leave X10_speak X10_wash X10_valve X10_waits X3_read X10_load
def f_X10_ifValve (a1 : Int32) (a2 : Int32) (M : hz_M) : hz_O :=
  hz_ct (f_X3_isValve a1 M) fun r1 M2 =>
  hz_ct (f_X10_need r1 M2) fun r4 M5 =>
  hz_ct (f_X10_isOpening a2 M5) fun r7 M8 =>
  hz_ct (f_X10_need r7 M8) fun r10 M11 =>
  hz_ct (f_X7_steam M11) fun r13 M14 =>
  hz_gd (hz_in a1 4) <|
  hz_ct (f_X7_heatBehind (M11 11 15) ((r13 - (M14 12 (Int32.toNatClampNeg a1))) + a2) M14) fun r17 M18 =>
  some (r17, M18)
set_option maxRecDepth 100000 in
set_option maxHeartbeats 4000000 in
theorem c_X10_ifValve (l : Launch) (w : hz_C) {N : Nat} (hN : 178 ≤ N) (a1 : Int32) (a2 : Int32) {M : hz_M} {rE : Int32} {ME : hz_M} (h : f_X10_ifValve a1 a2 M = some (rE, ME)) : hz_Ct l yX10_ifValve cX10_ifValve 3 (some .int) 2 w N [.ref (hz_ad w 0), .int a1, .int a2] M (hz_Qi w N rE ME) := by
  refine hz_ofW (by decide) rfl (Nat.le_of_ble_eq_true rfl) tw_5_133 ?_
  intro p e s m args below meth c hO
  show hz_G p l e 2 hz_z0 s m args below meth c w N 3 _ M 0 [(0, .ref (hz_ad w 0)), (1, .int a1), (2, .int a2)] []
  unfold f_X10_ifValve at h
  refine hz_aload_n hO dX10_ifValve_0 rfl 0 rfl ?_
  refine hz_getR (k := 0) hO 1 hz_K_10 hz_sh_0 (hz_lt_0 hN) rfl (Nat.le_of_ble_eq_true rfl) tw_3_28 rfl dX10_ifValve_1 ?_
  refine hz_iload_n hO dX10_ifValve_4 rfl 1 rfl ?_
  obtain ⟨r1, M2, hq3, h⟩ := hz_ct_e h
  refine hz_callVi (as := [.int a1]) (rest := []) hO (c_X3_isValve l w hN a1 hq3) hz_cal_X3_isValve hz_K_4 hz_sh_1 (hz_lt_1 hN) tw_5_13 (Nat.le_of_ble_eq_true rfl) rfl rfl (Nat.le_of_ble_eq_true rfl) dX10_ifValve_5 ?_
  obtain ⟨r4, M5, hq6, h⟩ := hz_ct_e h
  refine hz_callSv (as := [.int r1]) (rest := []) hO (c_X10_need l w hN r1 hq6) hz_cal_X10_need tw_4_61 (Nat.le_of_ble_eq_true rfl) rfl rfl (Nat.le_of_ble_eq_true rfl) dX10_ifValve_8 ?_
  refine hz_iload_n hO dX10_ifValve_11 rfl 2 rfl ?_
  obtain ⟨r7, M8, hq9, h⟩ := hz_ct_e h
  refine hz_callSi (as := [.int a2]) (rest := []) hO (c_X10_isOpening l w hN a2 hq9) hz_cal_X10_isOpening tw_5_134 (Nat.le_of_ble_eq_true rfl) rfl rfl (Nat.le_of_ble_eq_true rfl) dX10_ifValve_12 ?_
  obtain ⟨r10, M11, hq12, h⟩ := hz_ct_e h
  refine hz_callSv (as := [.int r7]) (rest := []) hO (c_X10_need l w hN r7 hq12) hz_cal_X10_need tw_4_61 (Nat.le_of_ble_eq_true rfl) rfl rfl (Nat.le_of_ble_eq_true rfl) dX10_ifValve_15 ?_
  refine hz_aload_n hO dX10_ifValve_18 rfl 0 rfl ?_
  refine hz_getR (k := 3) hO 11 hz_K_10 hz_sh_0 (hz_lt_0 hN) rfl (Nat.le_of_ble_eq_true rfl) tw_3_31 rfl dX10_ifValve_19 ?_
  refine hz_getI (k := 15) hO hz_K_7 hz_sh_11 (hz_lt_11 hN) rfl (Nat.le_of_ble_eq_true rfl) tw_1_193 rfl dX10_ifValve_22 ?_
  refine hz_aload_n hO dX10_ifValve_25 rfl 0 rfl ?_
  refine hz_getR (k := 3) hO 11 hz_K_10 hz_sh_0 (hz_lt_0 hN) rfl (Nat.le_of_ble_eq_true rfl) tw_3_31 rfl dX10_ifValve_26 ?_
  obtain ⟨r13, M14, hq15, h⟩ := hz_ct_e h
  refine hz_callVi (as := []) (rest := [.int (M11 11 15)]) hO (c_X7_steam l w hN hq15) hz_cal_X7_steam hz_K_7 hz_sh_11 (hz_lt_11 hN) tw_5_87 (Nat.le_of_ble_eq_true rfl) rfl rfl (Nat.le_of_ble_eq_true rfl) dX10_ifValve_29 ?_
  refine hz_aload_n hO dX10_ifValve_32 rfl 0 rfl ?_
  refine hz_getR (k := 3) hO 11 hz_K_10 hz_sh_0 (hz_lt_0 hN) rfl (Nat.le_of_ble_eq_true rfl) tw_3_31 rfl dX10_ifValve_33 ?_
  refine hz_getR (k := 1) hO 12 hz_K_7 hz_sh_11 (hz_lt_11 hN) rfl (Nat.le_of_ble_eq_true rfl) tw_1_148 rfl dX10_ifValve_36 ?_
  refine hz_iload_n hO dX10_ifValve_39 rfl 1 rfl ?_
  obtain ⟨hg16, h⟩ := hz_gd_e h
  refine hz_iald hO hz_sh_12 (hz_lt_12 hN) hg16 dX10_ifValve_40 ?_
  refine hz_isub hO dX10_ifValve_41 ?_
  refine hz_iload_n hO dX10_ifValve_42 rfl 2 rfl ?_
  refine hz_iadd hO dX10_ifValve_43 ?_
  obtain ⟨r17, M18, hq19, h⟩ := hz_ct_e h
  refine hz_callSi (as := [.int (M11 11 15), .int ((r13 - (M14 12 (Int32.toNatClampNeg a1))) + a2)]) (rest := []) hO (c_X7_heatBehind l w hN (M11 11 15) ((r13 - (M14 12 (Int32.toNatClampNeg a1))) + a2) hq19) hz_cal_X7_heatBehind tw_5_91 (Nat.le_of_ble_eq_true rfl) rfl rfl (Nat.le_of_ble_eq_true rfl) dX10_ifValve_44 ?_
  exact hz_nameM (hz_some_e h).2.symm (hz_name (hz_some_e h).1.symm (hz_iret hO dX10_ifValve_47))
def f_X10_set (a1 : Int32) (a2 : Int32) (M : hz_M) : hz_O :=
  hz_ct (f_X10_isSetting a1 a2 M) fun r1 M2 =>
  hz_ct (f_X10_need r1 M2) fun r4 M5 =>
  hz_ct (f_X2_record M5) fun r7 M8 =>
  hz_ct (f_X10_size a1 M8) fun r10 M11 =>
  if a1 = (6 : Int32) then
    hz_lm (hz_set M11 11 17 a2) fun M17 =>
    some (r10, M17)
  else
    if a1 = (7 : Int32) then
      hz_lm (hz_set M11 11 18 a2) fun M16 =>
      some (r10, M16)
    else
      hz_lm (hz_set M11 11 19 a2) fun M15 =>
      some (r10, M15)
set_option maxRecDepth 100000 in
set_option maxHeartbeats 4000000 in
theorem c_X10_set (l : Launch) (w : hz_C) {N : Nat} (hN : 178 ≤ N) (a1 : Int32) (a2 : Int32) {M : hz_M} {rE : Int32} {ME : hz_M} (h : f_X10_set a1 a2 M = some (rE, ME)) : hz_Ct l yX10_set cX10_set 4 (some .int) 5 w N [.ref (hz_ad w 0), .int a1, .int a2] M (hz_Qi w N rE ME) := by
  refine hz_ofW (by decide) rfl (Nat.le_of_ble_eq_true rfl) tw_6_90 ?_
  intro p e s m args below meth c hO
  show hz_G p l e 5 hz_z0 s m args below meth c w N 4 _ M 0 [(0, .ref (hz_ad w 0)), (1, .int a1), (2, .int a2)] []
  unfold f_X10_set at h
  refine hz_iload_n hO dX10_set_0 rfl 1 rfl ?_
  refine hz_iload_n hO dX10_set_1 rfl 2 rfl ?_
  obtain ⟨r1, M2, hq3, h⟩ := hz_ct_e h
  refine hz_callSi (as := [.int a1, .int a2]) (rest := []) hO (c_X10_isSetting l w hN a1 a2 hq3) hz_cal_X10_isSetting tw_6_91 (Nat.le_of_ble_eq_true rfl) rfl rfl (Nat.le_of_ble_eq_true rfl) dX10_set_2 ?_
  obtain ⟨r4, M5, hq6, h⟩ := hz_ct_e h
  refine hz_callSv (as := [.int r1]) (rest := []) hO (c_X10_need l w hN r1 hq6) hz_cal_X10_need tw_4_61 (Nat.le_of_ble_eq_true rfl) rfl rfl (Nat.le_of_ble_eq_true rfl) dX10_set_5 ?_
  refine hz_aload_n hO dX10_set_8 rfl 0 rfl ?_
  refine hz_getR (k := 7) hO 32 hz_K_10 hz_sh_0 (hz_lt_0 hN) rfl (Nat.le_of_ble_eq_true rfl) tw_3_35 rfl dX10_set_9 ?_
  refine hz_aload_n hO dX10_set_12 rfl 0 rfl ?_
  refine hz_getR (k := 3) hO 11 hz_K_10 hz_sh_0 (hz_lt_0 hN) rfl (Nat.le_of_ble_eq_true rfl) tw_3_31 rfl dX10_set_13 ?_
  obtain ⟨r7, M8, hq9, h⟩ := hz_ct_e h
  refine hz_callVv (as := [.ref (hz_ad w 11)]) (rest := []) hO (c_X2_record l w hN hq9) hz_cal_X2_record hz_K_3 hz_sh_32 (hz_lt_32 hN) tw_5_170 (Nat.le_of_ble_eq_true rfl) rfl rfl (Nat.le_of_ble_eq_true rfl) dX10_set_16 ?_
  refine hz_aload_n hO dX10_set_19 rfl 0 rfl ?_
  refine hz_iload_n hO dX10_set_20 rfl 1 rfl ?_
  obtain ⟨r10, M11, hq12, h⟩ := hz_ct_e h
  refine hz_callVi (as := [.int a1]) (rest := []) hO (c_X10_size l w hN a1 hq12) hz_cal_X10_size hz_K_10 hz_sh_0 (hz_lt_0 hN) tw_6_94 (Nat.le_of_ble_eq_true rfl) rfl rfl (Nat.le_of_ble_eq_true rfl) dX10_set_21 ?_
  refine hz_istore_n (ls1 := [(3, .int r10), (0, .ref (hz_ad w 0)), (1, .int a1), (2, .int a2)]) hO dX10_set_24 rfl (Nat.le_of_ble_eq_true rfl) rfl ?_
  refine hz_iload_n hO dX10_set_25 rfl 2 rfl ?_
  refine hz_bipush (v := (6 : Int32)) hO dX10_set_26 (by decide) ?_
  refine hz_icmp_ne (tgt := 42) hO dX10_set_28 (by decide) (fun hc13 => ?_) (fun hc13 => ?_)
  · rw [if_neg hc13] at h
    refine hz_iload_n hO dX10_set_42 rfl 2 rfl ?_
    refine hz_bipush (v := (7 : Int32)) hO dX10_set_43 (by decide) ?_
    refine hz_icmp_ne (tgt := 59) hO dX10_set_45 (by decide) (fun hc14 => ?_) (fun hc14 => ?_)
    · rw [if_neg hc14] at h
      refine hz_aload_n hO dX10_set_59 rfl 1 rfl ?_
      refine hz_getR (k := 3) hO 11 hz_K_10 hz_sh_0 (hz_lt_0 hN) rfl (Nat.le_of_ble_eq_true rfl) tw_3_31 rfl dX10_set_60 ?_
      refine hz_iload_n hO dX10_set_63 rfl 3 rfl ?_
      obtain ⟨M15, h_M15, h⟩ := hz_lm_e h
      refine hz_putI (k := 19) (ty := .int) hO hz_K_7 tyX7_ok nmX7 hz_sh_11 (hz_lt_11 hN) rfl (Nat.le_of_ble_eq_true rfl) tw_1_201 rfl rfl rfl rfl rfl dX10_set_64 ?_
      refine hz_nameM h_M15 ?_
      refine hz_iload_n hO dX10_set_67 rfl 0 rfl ?_
      exact hz_nameM (hz_some_e h).2.symm (hz_name (hz_some_e h).1.symm (hz_iret hO dX10_set_68))
    · rw [if_pos hc14] at h
      refine hz_aload_n hO dX10_set_48 rfl 1 rfl ?_
      refine hz_getR (k := 3) hO 11 hz_K_10 hz_sh_0 (hz_lt_0 hN) rfl (Nat.le_of_ble_eq_true rfl) tw_3_31 rfl dX10_set_49 ?_
      refine hz_iload_n hO dX10_set_52 rfl 3 rfl ?_
      obtain ⟨M16, h_M16, h⟩ := hz_lm_e h
      refine hz_putI (k := 18) (ty := .int) hO hz_K_7 tyX7_ok nmX7 hz_sh_11 (hz_lt_11 hN) rfl (Nat.le_of_ble_eq_true rfl) tw_1_199 rfl rfl rfl rfl rfl dX10_set_53 ?_
      refine hz_nameM h_M16 ?_
      refine hz_goto (tgt := 67) hO dX10_set_56 (by decide) ?_
      refine hz_iload_n hO dX10_set_67 rfl 0 rfl ?_
      exact hz_nameM (hz_some_e h).2.symm (hz_name (hz_some_e h).1.symm (hz_iret hO dX10_set_68))
  · rw [if_pos hc13] at h
    refine hz_aload_n hO dX10_set_31 rfl 1 rfl ?_
    refine hz_getR (k := 3) hO 11 hz_K_10 hz_sh_0 (hz_lt_0 hN) rfl (Nat.le_of_ble_eq_true rfl) tw_3_31 rfl dX10_set_32 ?_
    refine hz_iload_n hO dX10_set_35 rfl 3 rfl ?_
    obtain ⟨M17, h_M17, h⟩ := hz_lm_e h
    refine hz_putI (k := 17) (ty := .int) hO hz_K_7 tyX7_ok nmX7 hz_sh_11 (hz_lt_11 hN) rfl (Nat.le_of_ble_eq_true rfl) tw_1_197 rfl rfl rfl rfl rfl dX10_set_36 ?_
    refine hz_nameM h_M17 ?_
    refine hz_goto (tgt := 67) hO dX10_set_39 (by decide) ?_
    refine hz_iload_n hO dX10_set_67 rfl 0 rfl ?_
    exact hz_nameM (hz_some_e h).2.symm (hz_name (hz_some_e h).1.symm (hz_iret hO dX10_set_68))
def f_X10_undo (M : hz_M) : hz_O :=
  hz_ct (f_X2_stepBack M) fun r1 M2 =>
  some (r1, M2)
set_option maxRecDepth 100000 in
set_option maxHeartbeats 4000000 in
theorem c_X10_undo (l : Launch) (w : hz_C) {N : Nat} (hN : 178 ≤ N) {M : hz_M} {rE : Int32} {ME : hz_M} (h : f_X10_undo M = some (rE, ME)) : hz_Ct l yX10_undo cX10_undo 1 (some .int) 5 w N [.ref (hz_ad w 0)] M (hz_Qi w N rE ME) := by
  refine hz_ofW (by decide) rfl (Nat.le_of_ble_eq_true rfl) tw_3_156 ?_
  intro p e s m args below meth c hO
  show hz_G p l e 5 hz_z0 s m args below meth c w N 1 _ M 0 [(0, .ref (hz_ad w 0))] []
  unfold f_X10_undo at h
  refine hz_aload_n hO dX10_undo_0 rfl 0 rfl ?_
  refine hz_getR (k := 7) hO 32 hz_K_10 hz_sh_0 (hz_lt_0 hN) rfl (Nat.le_of_ble_eq_true rfl) tw_3_35 rfl dX10_undo_1 ?_
  refine hz_aload_n hO dX10_undo_4 rfl 0 rfl ?_
  refine hz_getR (k := 3) hO 11 hz_K_10 hz_sh_0 (hz_lt_0 hN) rfl (Nat.le_of_ble_eq_true rfl) tw_3_31 rfl dX10_undo_5 ?_
  obtain ⟨r1, M2, hq3, h⟩ := hz_ct_e h
  refine hz_callVi (as := [.ref (hz_ad w 11)]) (rest := []) hO (c_X2_stepBack l w hN hq3) hz_cal_X2_stepBack hz_K_3 hz_sh_32 (hz_lt_32 hN) tw_3_157 (Nat.le_of_ble_eq_true rfl) rfl rfl (Nat.le_of_ble_eq_true rfl) dX10_undo_8 ?_
  exact hz_nameM (hz_some_e h).2.symm (hz_name (hz_some_e h).1.symm (hz_iret hO dX10_undo_11))
def f_X1_refusal (a1 : Int32) (a2 : Int32) (a3 : Int32) (M : hz_M) : hz_O :=
  hz_gd (hz_nn a1) <|
  hz_gd (hz_in (hz_eF 0 a1) 11) <|
  hz_lt ((hz_sw.getD (Int32.toNatClampNeg (hz_eF 0 a1)) 0)) fun x4 =>
  if x4 = 1 then
    hz_gd (hz_in a2 16) <|
    if (M 13 (Int32.toNatClampNeg a2)) ≤ 0 then
      some ((-3 : Int32), M)
    else
      some ((0 : Int32), M)
  else
  if x4 = 2 then
    hz_gd (hz_in a2 16) <|
    if (M 13 (Int32.toNatClampNeg a2)) = (-1 : Int32) then
      some ((-4 : Int32), M)
    else
      some ((0 : Int32), M)
  else
  if x4 = 3 then
    if (9999 : Int32) < ((M 11 14) + a3) then
      some ((-5 : Int32), M)
    else
      some ((0 : Int32), M)
  else
  if x4 = 4 then
    some ((0 : Int32), M)
  else
  if x4 = 5 then
    some ((0 : Int32), M)
  else
  hz_ct (f_X1_deedOf a1 a3 M) fun r15 M16 =>
  hz_ct (f_X9_reason a2 r15 M16) fun r18 M19 =>
  if r18 = 0 then
    some ((0 : Int32), M19)
  else
    some ((-2 : Int32), M19)
set_option maxRecDepth 100000 in
set_option maxHeartbeats 4000000 in
theorem c_X1_refusal (l : Launch) (w : hz_C) {N : Nat} (hN : 178 ≤ N) (a1 : Int32) (a2 : Int32) (a3 : Int32) {M : hz_M} {rE : Int32} {ME : hz_M} (h : f_X1_refusal a1 a2 a3 M = some (rE, ME)) : hz_Ct l yX1_refusal cX1_refusal 4 (some .int) 3 w N [.ref (hz_ad w 26), hz_ev w a1, .int a2, .int a3] M (hz_Qi w N rE ME) := by
  refine hz_ofW (by decide) rfl (by simp [lg_sl, hz_ev_cat, hz_cr, hz_ci]) tw_5_157 ?_
  intro p e s m args below meth c hO
  rw [show lv_args 0 [.ref (hz_ad w 26), hz_ev w a1, .int a2, .int a3] = [(0, .ref (hz_ad w 26)), (1, hz_ev w a1), (2, .int a2), (3, .int a3)] from by simp [lv_args, hz_ev_cat, hz_cr, hz_ci]]
  show hz_G p l e 3 hz_z0 s m args below meth c w N 4 _ M 0 [(0, .ref (hz_ad w 26)), (1, hz_ev w a1), (2, .int a2), (3, .int a3)] []
  unfold f_X1_refusal at h
  obtain ⟨t1, hz_t1, ht_t1⟩ := hO.2.2.2.1.2.2.2.2.2.1
  refine hz_gets hO hz_t1 tw_5_158 rfl dX1_refusal_0 ?_
  refine hz_aload_nE hO dX1_refusal_3 rfl 1 rfl ?_
  obtain ⟨hg2, h⟩ := hz_gd_e h
  refine hz_ord (rest := [.ref t1]) hO hg2 tw_5_160 (Nat.le_of_ble_eq_true rfl) (Nat.le_of_ble_eq_true rfl) dX1_refusal_4 ?_
  obtain ⟨hg3, h⟩ := hz_gd_e h
  refine hz_ti (v := .int (hz_sw.getD (Int32.toNatClampNeg (hz_eF 0 a1)) 0)) hO ht_t1 (hz_in_e hg3) rfl dX1_refusal_7 ?_
  obtain ⟨x4, h_x4, h⟩ := hz_lt_e h
  refine hz_name h_x4 ?_
  by_cases hc5 : x4 = (1 : Int32)
  · rw [if_pos hc5] at h
    refine hz_tin (tgt := 44) hO hc5 dX1_refusal_8 (by decide) (by decide) rfl (by decide) ?_
    refine hz_aload_n hO dX1_refusal_44 rfl 0 rfl ?_
    refine hz_getR (k := 1) hO 11 hz_K_2 hz_sh_26 (hz_lt_26 hN) rfl (Nat.le_of_ble_eq_true rfl) tw_2_23 rfl dX1_refusal_45 ?_
    refine hz_getR (k := 2) hO 13 hz_K_7 hz_sh_11 (hz_lt_11 hN) rfl (Nat.le_of_ble_eq_true rfl) tw_1_152 rfl dX1_refusal_48 ?_
    refine hz_iload_n hO dX1_refusal_51 rfl 2 rfl ?_
    obtain ⟨hg6, h⟩ := hz_gd_e h
    refine hz_iald hO hz_sh_13 (hz_lt_13 hN) hg6 dX1_refusal_52 ?_
    refine hz_if_le (tgt := 60) hO dX1_refusal_53 (by decide) (fun hc7 => ?_) (fun hc7 => ?_)
    · rw [if_pos hc7] at h
      refine hz_bipush (v := (-3 : Int32)) hO dX1_refusal_60 (by decide) ?_
      exact hz_nameM (hz_some_e h).2.symm (hz_name (hz_some_e h).1.symm (hz_iret hO dX1_refusal_62))
    · rw [if_neg hc7] at h
      refine hz_iconst (v := (0 : Int32)) hO dX1_refusal_56 (by decide) ?_
      refine hz_goto (tgt := 62) hO dX1_refusal_57 (by decide) ?_
      exact hz_nameM (hz_some_e h).2.symm (hz_name (hz_some_e h).1.symm (hz_iret hO dX1_refusal_62))
  · rw [if_neg hc5] at h
    by_cases hc8 : x4 = (2 : Int32)
    · rw [if_pos hc8] at h
      refine hz_tin (tgt := 63) hO hc8 dX1_refusal_8 (by decide) (by decide) rfl (by decide) ?_
      refine hz_aload_n hO dX1_refusal_63 rfl 0 rfl ?_
      refine hz_getR (k := 1) hO 11 hz_K_2 hz_sh_26 (hz_lt_26 hN) rfl (Nat.le_of_ble_eq_true rfl) tw_2_23 rfl dX1_refusal_64 ?_
      refine hz_getR (k := 2) hO 13 hz_K_7 hz_sh_11 (hz_lt_11 hN) rfl (Nat.le_of_ble_eq_true rfl) tw_1_152 rfl dX1_refusal_67 ?_
      refine hz_iload_n hO dX1_refusal_70 rfl 2 rfl ?_
      obtain ⟨hg9, h⟩ := hz_gd_e h
      refine hz_iald hO hz_sh_13 (hz_lt_13 hN) hg9 dX1_refusal_71 ?_
      refine hz_iconst (v := (-1 : Int32)) hO dX1_refusal_72 (by decide) ?_
      refine hz_icmp_eq (tgt := 80) hO dX1_refusal_73 (by decide) (fun hc10 => ?_) (fun hc10 => ?_)
      · rw [if_pos hc10] at h
        refine hz_bipush (v := (-4 : Int32)) hO dX1_refusal_80 (by decide) ?_
        exact hz_nameM (hz_some_e h).2.symm (hz_name (hz_some_e h).1.symm (hz_iret hO dX1_refusal_82))
      · rw [if_neg hc10] at h
        refine hz_iconst (v := (0 : Int32)) hO dX1_refusal_76 (by decide) ?_
        refine hz_goto (tgt := 82) hO dX1_refusal_77 (by decide) ?_
        exact hz_nameM (hz_some_e h).2.symm (hz_name (hz_some_e h).1.symm (hz_iret hO dX1_refusal_82))
    · rw [if_neg hc8] at h
      by_cases hc11 : x4 = (3 : Int32)
      · rw [if_pos hc11] at h
        refine hz_tin (tgt := 83) hO hc11 dX1_refusal_8 (by decide) (by decide) rfl (by decide) ?_
        refine hz_aload_n hO dX1_refusal_83 rfl 0 rfl ?_
        refine hz_getR (k := 1) hO 11 hz_K_2 hz_sh_26 (hz_lt_26 hN) rfl (Nat.le_of_ble_eq_true rfl) tw_2_23 rfl dX1_refusal_84 ?_
        refine hz_getI (k := 14) hO hz_K_7 hz_sh_11 (hz_lt_11 hN) rfl (Nat.le_of_ble_eq_true rfl) tw_1_190 rfl dX1_refusal_87 ?_
        refine hz_iload_n hO dX1_refusal_90 rfl 3 rfl ?_
        refine hz_iadd hO dX1_refusal_91 ?_
        refine hz_sipush (v := (9999 : Int32)) hO dX1_refusal_92 (by decide) ?_
        refine hz_icmp_gt (tgt := 102) hO dX1_refusal_95 (by decide) (fun hc12 => ?_) (fun hc12 => ?_)
        · rw [if_pos hc12] at h
          refine hz_bipush (v := (-5 : Int32)) hO dX1_refusal_102 (by decide) ?_
          exact hz_nameM (hz_some_e h).2.symm (hz_name (hz_some_e h).1.symm (hz_iret hO dX1_refusal_104))
        · rw [if_neg hc12] at h
          refine hz_iconst (v := (0 : Int32)) hO dX1_refusal_98 (by decide) ?_
          refine hz_goto (tgt := 104) hO dX1_refusal_99 (by decide) ?_
          exact hz_nameM (hz_some_e h).2.symm (hz_name (hz_some_e h).1.symm (hz_iret hO dX1_refusal_104))
      · rw [if_neg hc11] at h
        by_cases hc13 : x4 = (4 : Int32)
        · rw [if_pos hc13] at h
          refine hz_tin (tgt := 105) hO hc13 dX1_refusal_8 (by decide) (by decide) rfl (by decide) ?_
          refine hz_iconst (v := (0 : Int32)) hO dX1_refusal_105 (by decide) ?_
          exact hz_nameM (hz_some_e h).2.symm (hz_name (hz_some_e h).1.symm (hz_iret hO dX1_refusal_106))
        · rw [if_neg hc13] at h
          by_cases hc14 : x4 = (5 : Int32)
          · rw [if_pos hc14] at h
            refine hz_tin (tgt := 107) hO hc14 dX1_refusal_8 (by decide) (by decide) rfl (by decide) ?_
            refine hz_iconst (v := (0 : Int32)) hO dX1_refusal_107 (by decide) ?_
            exact hz_nameM (hz_some_e h).2.symm (hz_name (hz_some_e h).1.symm (hz_iret hO dX1_refusal_108))
          · rw [if_neg hc14] at h
            have hn1 : ¬ x4.toInt = 1 := lv_neT hc5 rfl
            have hn2 : ¬ x4.toInt = 2 := lv_neT hc8 rfl
            have hn3 : ¬ x4.toInt = 3 := lv_neT hc11 rfl
            have hn4 : ¬ x4.toInt = 4 := lv_neT hc13 rfl
            have hn5 : ¬ x4.toInt = 5 := lv_neT hc14 rfl
            refine hz_tout (tgt := 109) hO dX1_refusal_8 (by omega) (by decide) ?_
            refine hz_aload_n hO dX1_refusal_109 rfl 0 rfl ?_
            refine hz_getR (k := 2) hO 25 hz_K_2 hz_sh_26 (hz_lt_26 hN) rfl (Nat.le_of_ble_eq_true rfl) tw_2_24 rfl dX1_refusal_110 ?_
            refine hz_iload_n hO dX1_refusal_113 rfl 2 rfl ?_
            refine hz_aload_nE hO dX1_refusal_114 rfl 1 rfl ?_
            refine hz_iload_n hO dX1_refusal_115 rfl 3 rfl ?_
            obtain ⟨r15, M16, hq17, h⟩ := hz_ct_e h
            refine hz_callSi (as := [hz_ev w a1, .int a3]) (rest := [.int a2, .ref (hz_ad w 25)]) hO (c_X1_deedOf l w hN a1 a3 hq17) hz_cal_X1_deedOf tw_5_166 (Nat.le_of_ble_eq_true rfl) rfl rfl (Nat.le_of_ble_eq_true rfl) dX1_refusal_116 ?_
            obtain ⟨r18, M19, hq20, h⟩ := hz_ct_e h
            refine hz_callVi (as := [.int a2, .int r15]) (rest := []) hO (c_X9_reason l w hN a2 r15 hq20) hz_cal_X9_reason hz_K_9 hz_sh_25 (hz_lt_25 hN) tw_5_169 (Nat.le_of_ble_eq_true rfl) rfl rfl (Nat.le_of_ble_eq_true rfl) dX1_refusal_119 ?_
            refine hz_if_ne (tgt := 129) hO dX1_refusal_122 (by decide) (fun hc21 => ?_) (fun hc21 => ?_)
            · rw [if_neg hc21] at h
              refine hz_bipush (v := (-2 : Int32)) hO dX1_refusal_129 (by decide) ?_
              exact hz_nameM (hz_some_e h).2.symm (hz_name (hz_some_e h).1.symm (hz_iret hO dX1_refusal_131))
            · rw [if_pos hc21] at h
              refine hz_iconst (v := (0 : Int32)) hO dX1_refusal_125 (by decide) ?_
              refine hz_goto (tgt := 131) hO dX1_refusal_126 (by decide) ?_
              exact hz_nameM (hz_some_e h).2.symm (hz_name (hz_some_e h).1.symm (hz_iret hO dX1_refusal_131))
def f_X1_perform (a1 : Int32) (a2 : Int32) (a3 : Int32) (M : hz_M) : hz_O :=
  hz_gd (hz_nn a1) <|
  hz_gd (hz_in (hz_eF 0 a1) 11) <|
  hz_lt ((hz_sw.getD (Int32.toNatClampNeg (hz_eF 0 a1)) 0)) fun x4 =>
  if x4 = 1 then
    hz_ct (f_X1_seatInHall a2 M) fun r6 M7 =>
    some (r6, M7)
  else
  if x4 = 2 then
    hz_ct (f_X1_hear a2 M) fun r10 M11 =>
    some (r10, M11)
  else
  if x4 = 3 then
    hz_ct (f_X7_pass a3 M) fun r14 M15 =>
    some (r14, M15)
  else
  if x4 = 4 then
    hz_ct (f_X1_washBasket M) fun r18 M19 =>
    some (r18, M19)
  else
  if x4 = 5 then
    hz_ct (f_X1_turn a2 a3 M) fun r22 M23 =>
    some (r22, M23)
  else
  if x4 = 6 then
    hz_ct (f_X1_seat a2 a3 M) fun r26 M27 =>
    some (r26, M27)
  else
  if x4 = 7 then
    hz_ct (f_X1_hangUp a2 a3 M) fun r30 M31 =>
    some (r30, M31)
  else
  if x4 = 8 then
    hz_ct (f_X1_takeDown a2 a3 M) fun r34 M35 =>
    some (r34, M35)
  else
  if x4 = 9 then
    hz_ct (f_X1_letGo a2 M) fun r38 M39 =>
    some (r38, M39)
  else
  if x4 = 10 then
    hz_ct (f_X1_letIn a2 M) fun r42 M43 =>
    some (r42, M43)
  else
  some ((-1 : Int32), M)
set_option maxRecDepth 100000 in
set_option maxHeartbeats 4000000 in
theorem c_X1_perform (l : Launch) (w : hz_C) {N : Nat} (hN : 178 ≤ N) (a1 : Int32) (a2 : Int32) (a3 : Int32) {M : hz_M} {rE : Int32} {ME : hz_M} (h : f_X1_perform a1 a2 a3 M = some (rE, ME)) : hz_Ct l yX1_perform cX1_perform 4 (some .int) 4 w N [.ref (hz_ad w 26), hz_ev w a1, .int a2, .int a3] M (hz_Qi w N rE ME) := by
  refine hz_ofW (by decide) rfl (by simp [lg_sl, hz_ev_cat, hz_cr, hz_ci]) tw_5_178 ?_
  intro p e s m args below meth c hO
  rw [show lv_args 0 [.ref (hz_ad w 26), hz_ev w a1, .int a2, .int a3] = [(0, .ref (hz_ad w 26)), (1, hz_ev w a1), (2, .int a2), (3, .int a3)] from by simp [lv_args, hz_ev_cat, hz_cr, hz_ci]]
  show hz_G p l e 4 hz_z0 s m args below meth c w N 4 _ M 0 [(0, .ref (hz_ad w 26)), (1, hz_ev w a1), (2, .int a2), (3, .int a3)] []
  unfold f_X1_perform at h
  obtain ⟨t1, hz_t1, ht_t1⟩ := hO.2.2.2.1.2.2.2.2.2.1
  refine hz_gets hO hz_t1 tw_5_158 rfl dX1_perform_0 ?_
  refine hz_aload_nE hO dX1_perform_3 rfl 1 rfl ?_
  obtain ⟨hg2, h⟩ := hz_gd_e h
  refine hz_ord (rest := [.ref t1]) hO hg2 tw_5_160 (Nat.le_of_ble_eq_true rfl) (Nat.le_of_ble_eq_true rfl) dX1_perform_4 ?_
  obtain ⟨hg3, h⟩ := hz_gd_e h
  refine hz_ti (v := .int (hz_sw.getD (Int32.toNatClampNeg (hz_eF 0 a1)) 0)) hO ht_t1 (hz_in_e hg3) rfl dX1_perform_7 ?_
  obtain ⟨x4, h_x4, h⟩ := hz_lt_e h
  refine hz_name h_x4 ?_
  by_cases hc5 : x4 = (1 : Int32)
  · rw [if_pos hc5] at h
    refine hz_tin (tgt := 77) hO hc5 dX1_perform_8 (by decide) (by decide) rfl (by decide) ?_
    refine hz_aload_n hO dX1_perform_77 rfl 0 rfl ?_
    refine hz_iload_n hO dX1_perform_78 rfl 2 rfl ?_
    obtain ⟨r6, M7, hq8, h⟩ := hz_ct_e h
    refine hz_callVi (as := [.int a2]) (rest := []) hO (c_X1_seatInHall l w hN a2 hq8) hz_cal_X1_seatInHall hz_K_2 hz_sh_26 (hz_lt_26 hN) tw_5_197 (Nat.le_of_ble_eq_true rfl) rfl rfl (Nat.le_of_ble_eq_true rfl) dX1_perform_79 ?_
    exact hz_nameM (hz_some_e h).2.symm (hz_name (hz_some_e h).1.symm (hz_iret hO dX1_perform_82))
  · rw [if_neg hc5] at h
    by_cases hc9 : x4 = (2 : Int32)
    · rw [if_pos hc9] at h
      refine hz_tin (tgt := 103) hO hc9 dX1_perform_8 (by decide) (by decide) rfl (by decide) ?_
      refine hz_aload_n hO dX1_perform_103 rfl 0 rfl ?_
      refine hz_iload_n hO dX1_perform_104 rfl 2 rfl ?_
      obtain ⟨r10, M11, hq12, h⟩ := hz_ct_e h
      refine hz_callVi (as := [.int a2]) (rest := []) hO (c_X1_hear l w hN a2 hq12) hz_cal_X1_hear hz_K_2 hz_sh_26 (hz_lt_26 hN) tw_5_214 (Nat.le_of_ble_eq_true rfl) rfl rfl (Nat.le_of_ble_eq_true rfl) dX1_perform_105 ?_
      exact hz_nameM (hz_some_e h).2.symm (hz_name (hz_some_e h).1.symm (hz_iret hO dX1_perform_108))
    · rw [if_neg hc9] at h
      by_cases hc13 : x4 = (3 : Int32)
      · rw [if_pos hc13] at h
        refine hz_tin (tgt := 121) hO hc13 dX1_perform_8 (by decide) (by decide) rfl (by decide) ?_
        refine hz_aload_n hO dX1_perform_121 rfl 0 rfl ?_
        refine hz_getR (k := 1) hO 11 hz_K_2 hz_sh_26 (hz_lt_26 hN) rfl (Nat.le_of_ble_eq_true rfl) tw_2_23 rfl dX1_perform_122 ?_
        refine hz_iload_n hO dX1_perform_125 rfl 3 rfl ?_
        obtain ⟨r14, M15, hq16, h⟩ := hz_ct_e h
        refine hz_callVi (as := [.int a3]) (rest := []) hO (c_X7_pass l w hN a3 hq16) hz_cal_X7_pass hz_K_7 hz_sh_11 (hz_lt_11 hN) tw_5_234 (Nat.le_of_ble_eq_true rfl) rfl rfl (Nat.le_of_ble_eq_true rfl) dX1_perform_126 ?_
        exact hz_nameM (hz_some_e h).2.symm (hz_name (hz_some_e h).1.symm (hz_iret hO dX1_perform_129))
      · rw [if_neg hc13] at h
        by_cases hc17 : x4 = (4 : Int32)
        · rw [if_pos hc17] at h
          refine hz_tin (tgt := 109) hO hc17 dX1_perform_8 (by decide) (by decide) rfl (by decide) ?_
          refine hz_aload_n hO dX1_perform_109 rfl 0 rfl ?_
          obtain ⟨r18, M19, hq20, h⟩ := hz_ct_e h
          refine hz_callVi (as := []) (rest := []) hO (c_X1_washBasket l w hN hq20) hz_cal_X1_washBasket hz_K_2 hz_sh_26 (hz_lt_26 hN) tw_5_220 (Nat.le_of_ble_eq_true rfl) rfl rfl (Nat.le_of_ble_eq_true rfl) dX1_perform_110 ?_
          exact hz_nameM (hz_some_e h).2.symm (hz_name (hz_some_e h).1.symm (hz_iret hO dX1_perform_113))
        · rw [if_neg hc17] at h
          by_cases hc21 : x4 = (5 : Int32)
          · rw [if_pos hc21] at h
            refine hz_tin (tgt := 114) hO hc21 dX1_perform_8 (by decide) (by decide) rfl (by decide) ?_
            refine hz_aload_n hO dX1_perform_114 rfl 0 rfl ?_
            refine hz_iload_n hO dX1_perform_115 rfl 2 rfl ?_
            refine hz_iload_n hO dX1_perform_116 rfl 3 rfl ?_
            obtain ⟨r22, M23, hq24, h⟩ := hz_ct_e h
            refine hz_callVi (as := [.int a2, .int a3]) (rest := []) hO (c_X1_turn l w hN a2 a3 hq24) hz_cal_X1_turn hz_K_2 hz_sh_26 (hz_lt_26 hN) tw_5_230 (Nat.le_of_ble_eq_true rfl) rfl rfl (Nat.le_of_ble_eq_true rfl) dX1_perform_117 ?_
            exact hz_nameM (hz_some_e h).2.symm (hz_name (hz_some_e h).1.symm (hz_iret hO dX1_perform_120))
          · rw [if_neg hc21] at h
            by_cases hc25 : x4 = (6 : Int32)
            · rw [if_pos hc25] at h
              refine hz_tin (tgt := 70) hO hc25 dX1_perform_8 (by decide) (by decide) rfl (by decide) ?_
              refine hz_aload_n hO dX1_perform_70 rfl 0 rfl ?_
              refine hz_iload_n hO dX1_perform_71 rfl 2 rfl ?_
              refine hz_iload_n hO dX1_perform_72 rfl 3 rfl ?_
              obtain ⟨r26, M27, hq28, h⟩ := hz_ct_e h
              refine hz_callVi (as := [.int a2, .int a3]) (rest := []) hO (c_X1_seat l w hN a2 a3 hq28) hz_cal_X1_seat hz_K_2 hz_sh_26 (hz_lt_26 hN) tw_5_192 (Nat.le_of_ble_eq_true rfl) rfl rfl (Nat.le_of_ble_eq_true rfl) dX1_perform_73 ?_
              exact hz_nameM (hz_some_e h).2.symm (hz_name (hz_some_e h).1.symm (hz_iret hO dX1_perform_76))
            · rw [if_neg hc25] at h
              by_cases hc29 : x4 = (7 : Int32)
              · rw [if_pos hc29] at h
                refine hz_tin (tgt := 83) hO hc29 dX1_perform_8 (by decide) (by decide) rfl (by decide) ?_
                refine hz_aload_n hO dX1_perform_83 rfl 0 rfl ?_
                refine hz_iload_n hO dX1_perform_84 rfl 2 rfl ?_
                refine hz_iload_n hO dX1_perform_85 rfl 3 rfl ?_
                obtain ⟨r30, M31, hq32, h⟩ := hz_ct_e h
                refine hz_callVi (as := [.int a2, .int a3]) (rest := []) hO (c_X1_hangUp l w hN a2 a3 hq32) hz_cal_X1_hangUp hz_K_2 hz_sh_26 (hz_lt_26 hN) tw_5_201 (Nat.le_of_ble_eq_true rfl) rfl rfl (Nat.le_of_ble_eq_true rfl) dX1_perform_86 ?_
                exact hz_nameM (hz_some_e h).2.symm (hz_name (hz_some_e h).1.symm (hz_iret hO dX1_perform_89))
              · rw [if_neg hc29] at h
                by_cases hc33 : x4 = (8 : Int32)
                · rw [if_pos hc33] at h
                  refine hz_tin (tgt := 90) hO hc33 dX1_perform_8 (by decide) (by decide) rfl (by decide) ?_
                  refine hz_aload_n hO dX1_perform_90 rfl 0 rfl ?_
                  refine hz_iload_n hO dX1_perform_91 rfl 2 rfl ?_
                  refine hz_iload_n hO dX1_perform_92 rfl 3 rfl ?_
                  obtain ⟨r34, M35, hq36, h⟩ := hz_ct_e h
                  refine hz_callVi (as := [.int a2, .int a3]) (rest := []) hO (c_X1_takeDown l w hN a2 a3 hq36) hz_cal_X1_takeDown hz_K_2 hz_sh_26 (hz_lt_26 hN) tw_5_206 (Nat.le_of_ble_eq_true rfl) rfl rfl (Nat.le_of_ble_eq_true rfl) dX1_perform_93 ?_
                  exact hz_nameM (hz_some_e h).2.symm (hz_name (hz_some_e h).1.symm (hz_iret hO dX1_perform_96))
                · rw [if_neg hc33] at h
                  by_cases hc37 : x4 = (9 : Int32)
                  · rw [if_pos hc37] at h
                    refine hz_tin (tgt := 97) hO hc37 dX1_perform_8 (by decide) (by decide) rfl (by decide) ?_
                    refine hz_aload_n hO dX1_perform_97 rfl 0 rfl ?_
                    refine hz_iload_n hO dX1_perform_98 rfl 2 rfl ?_
                    obtain ⟨r38, M39, hq40, h⟩ := hz_ct_e h
                    refine hz_callVi (as := [.int a2]) (rest := []) hO (c_X1_letGo l w hN a2 hq40) hz_cal_X1_letGo hz_K_2 hz_sh_26 (hz_lt_26 hN) tw_5_210 (Nat.le_of_ble_eq_true rfl) rfl rfl (Nat.le_of_ble_eq_true rfl) dX1_perform_99 ?_
                    exact hz_nameM (hz_some_e h).2.symm (hz_name (hz_some_e h).1.symm (hz_iret hO dX1_perform_102))
                  · rw [if_neg hc37] at h
                    by_cases hc41 : x4 = (10 : Int32)
                    · rw [if_pos hc41] at h
                      refine hz_tin (tgt := 64) hO hc41 dX1_perform_8 (by decide) (by decide) rfl (by decide) ?_
                      refine hz_aload_n hO dX1_perform_64 rfl 0 rfl ?_
                      refine hz_iload_n hO dX1_perform_65 rfl 2 rfl ?_
                      obtain ⟨r42, M43, hq44, h⟩ := hz_ct_e h
                      refine hz_callVi (as := [.int a2]) (rest := []) hO (c_X1_letIn l w hN a2 hq44) hz_cal_X1_letIn hz_K_2 hz_sh_26 (hz_lt_26 hN) tw_5_179 (Nat.le_of_ble_eq_true rfl) rfl rfl (Nat.le_of_ble_eq_true rfl) dX1_perform_66 ?_
                      exact hz_nameM (hz_some_e h).2.symm (hz_name (hz_some_e h).1.symm (hz_iret hO dX1_perform_69))
                    · rw [if_neg hc41] at h
                      have hn1 : ¬ x4.toInt = 1 := lv_neT hc5 rfl
                      have hn2 : ¬ x4.toInt = 2 := lv_neT hc9 rfl
                      have hn3 : ¬ x4.toInt = 3 := lv_neT hc13 rfl
                      have hn4 : ¬ x4.toInt = 4 := lv_neT hc17 rfl
                      have hn5 : ¬ x4.toInt = 5 := lv_neT hc21 rfl
                      have hn6 : ¬ x4.toInt = 6 := lv_neT hc25 rfl
                      have hn7 : ¬ x4.toInt = 7 := lv_neT hc29 rfl
                      have hn8 : ¬ x4.toInt = 8 := lv_neT hc33 rfl
                      have hn9 : ¬ x4.toInt = 9 := lv_neT hc37 rfl
                      have hn10 : ¬ x4.toInt = 10 := lv_neT hc41 rfl
                      refine hz_tout (tgt := 130) hO dX1_perform_8 (by omega) (by decide) ?_
                      refine hz_iconst (v := (-1 : Int32)) hO dX1_perform_130 (by decide) ?_
                      exact hz_nameM (hz_some_e h).2.symm (hz_name (hz_some_e h).1.symm (hz_iret hO dX1_perform_131))
def f_X3_guestNamed_L3 (th : Nat) : Nat → Int32 → Int32 → Int32 → hz_M → hz_O
  | 0, _, _, _, _ => none
  | n + 1, v2_1, v3_2, v4_3, M4 =>
    if (M4 th 3) ≤ v4_3 then
      some ((-1 : Int32), M4)
    else
      hz_gd (hz_in v4_3 16) <|
      hz_jn (fun (v2_7 : Int32) (v3_8 : Int32) (v4_9 : Int32) (M10 : hz_M) =>
        hz_lt (v4_9 + (1 : Int32)) fun x11 =>
        f_X3_guestNamed_L3 th n v2_7 v3_8 x11 M10
        ) fun k12 =>
      if (M4 (th + 3) (Int32.toNatClampNeg v4_3)) = (v3_2 - v2_1) then
        hz_ct (f_X3_isNameAt th v4_3 v2_1 M4) fun r14 M15 =>
        if r14 = 0 then
          k12 v2_1 v3_2 v4_3 M15
        else
          some (v4_3, M15)
      else
        k12 v2_1 v3_2 v4_3 M4
def f_X3_guestNamed (th : Nat) (a2 : Int32) (a3 : Int32) (M : hz_M) : hz_O :=
  f_X3_guestNamed_L3 th hz_FU a2 a3 (0 : Int32) M
set_option maxRecDepth 100000 in
set_option maxHeartbeats 4000000 in
theorem g_X3_guestNamed_L3 {p : Program} {l : Launch} {e : Env} {s : State} {m : MethodId} {args : Array Value} {below : List Frame} {meth : Method} {c : Code} {w : hz_C} {N : Nat} (hN : 178 ≤ N) {th : Nat} (hHo : hz_Ho N th) {rE : Int32} {ME : hz_M} (hO : hz_Ok p s m args meth c w cX3_guestNamed 5 RX3 (some .int)) : ∀ (n : Nat) (v2_1 : Int32) (v3_2 : Int32) (v4_3 : Int32) (M4 : hz_M), f_X3_guestNamed_L3 th n v2_1 v3_2 v4_3 M4 = some (rE, ME) → hz_G p l e 2 hz_z0 s m args below meth c w N 5 (MQ below (hz_Qi w N rE ME) args s 0 0 (hz_A w)) M4 3 [(0, .ref (hz_ad w th)), (1, .ref (hz_ad w 9)), (2, .int v2_1), (3, .int v3_2), (4, .int v4_3)] [] := by
  intro n
  induction n with
  | zero =>
    intro v2_1 v3_2 v4_3 M4 h
    rw [f_X3_guestNamed_L3] at h
    cases h
  | succ n ih =>
    intro v2_1 v3_2 v4_3 M4 h
    rw [f_X3_guestNamed_L3] at h
    refine hz_iload hO dX3_guestNamed_3 4 rfl ?_
    refine hz_aload_n hO dX3_guestNamed_5 rfl 0 rfl ?_
    refine hz_getI (k := 3) hO hz_K_4 hHo.1 hHo.2.1 rfl (Nat.le_of_ble_eq_true rfl) tw_1_51 rfl dX3_guestNamed_6 ?_
    refine hz_icmp_ge (tgt := 45) hO dX3_guestNamed_9 (by decide) (fun hc5 => ?_) (fun hc5 => ?_)
    · rw [if_pos hc5] at h
      refine hz_iconst (v := (-1 : Int32)) hO dX3_guestNamed_45 (by decide) ?_
      exact hz_nameM (hz_some_e h).2.symm (hz_name (hz_some_e h).1.symm (hz_iret hO dX3_guestNamed_46))
    · rw [if_neg hc5] at h
      refine hz_aload_n hO dX3_guestNamed_12 rfl 0 rfl ?_
      refine hz_getR (k := 2) hO (th + 3) hz_K_4 hHo.1 hHo.2.1 rfl (Nat.le_of_ble_eq_true rfl) tw_1_50 rfl dX3_guestNamed_13 ?_
      refine hz_iload hO dX3_guestNamed_16 4 rfl ?_
      obtain ⟨hg6, h⟩ := hz_gd_e h
      refine hz_iald hO hHo.2.2.2.2.2.2.1 hHo.2.2.2.2.2.2.2 hg6 dX3_guestNamed_18 ?_
      refine hz_iload_n hO dX3_guestNamed_19 rfl 3 rfl ?_
      refine hz_iload_n hO dX3_guestNamed_20 rfl 2 rfl ?_
      refine hz_isub hO dX3_guestNamed_21 ?_
      obtain ⟨k12, hk12, h⟩ := hz_jn_e h
      have gk12 : ∀ (v2_7 : Int32) (v3_8 : Int32) (v4_9 : Int32) (M10 : hz_M), k12 v2_7 v3_8 v4_9 M10 = some (rE, ME) → hz_G p l e 2 hz_z0 s m args below meth c w N 5 (MQ below (hz_Qi w N rE ME) args s 0 0 (hz_A w)) M10 39 [(0, .ref (hz_ad w th)), (1, .ref (hz_ad w 9)), (2, .int v2_7), (3, .int v3_8), (4, .int v4_9)] [] := by
        intro v2_7 v3_8 v4_9 M10 h
        rw [hk12] at h
        dsimp only at h
        obtain ⟨x11, h_x11, h⟩ := hz_lt_e h
        refine hz_iinc (k := 4) (v := x11) (ls1 := [(4, .int x11), (0, .ref (hz_ad w th)), (1, .ref (hz_ad w 9)), (2, .int v2_7), (3, .int v3_8)]) hO dX3_guestNamed_39 rfl (by rw [h_x11]; rfl) (Nat.le_of_ble_eq_true rfl) rfl ?_
        refine hz_goto (tgt := 3) hO dX3_guestNamed_42 (by decide) ?_
        exact hz_ls [1, 2, 3, 4, 0] rfl (ih v2_7 v3_8 x11 M10 h)
      clear hk12
      refine hz_icmp_ne (tgt := 39) hO dX3_guestNamed_22 (by decide) (fun hc13 => ?_) (fun hc13 => ?_)
      · rw [if_neg hc13] at h
        exact hz_ls [0, 1, 2, 3, 4] rfl (gk12 v2_1 v3_2 v4_3 M4 h)
      · rw [if_pos hc13] at h
        refine hz_aload_n hO dX3_guestNamed_25 rfl 0 rfl ?_
        refine hz_iload hO dX3_guestNamed_26 4 rfl ?_
        refine hz_aload_n hO dX3_guestNamed_28 rfl 1 rfl ?_
        refine hz_iload_n hO dX3_guestNamed_29 rfl 2 rfl ?_
        obtain ⟨r14, M15, hq16, h⟩ := hz_ct_e h
        refine hz_callVi (as := [.int v4_3, .ref (hz_ad w 9), .int v2_1]) (rest := []) hO (c_X3_isNameAt l w hN hHo v4_3 v2_1 hq16) hz_cal_X3_isNameAt hz_K_4 hHo.1 hHo.2.1 tw_2_238 (Nat.le_of_ble_eq_true rfl) rfl rfl (Nat.le_of_ble_eq_true rfl) dX3_guestNamed_30 ?_
        refine hz_if_eq (tgt := 39) hO dX3_guestNamed_33 (by decide) (fun hc17 => ?_) (fun hc17 => ?_)
        · rw [if_pos hc17] at h
          exact hz_ls [0, 1, 2, 3, 4] rfl (gk12 v2_1 v3_2 v4_3 M15 h)
        · rw [if_neg hc17] at h
          refine hz_iload hO dX3_guestNamed_36 4 rfl ?_
          exact hz_nameM (hz_some_e h).2.symm (hz_name (hz_some_e h).1.symm (hz_iret hO dX3_guestNamed_38))
set_option maxRecDepth 100000 in
set_option maxHeartbeats 4000000 in
theorem c_X3_guestNamed (l : Launch) (w : hz_C) {N : Nat} (hN : 178 ≤ N) {th : Nat} (hHo : hz_Ho N th) (a2 : Int32) (a3 : Int32) {M : hz_M} {rE : Int32} {ME : hz_M} (h : f_X3_guestNamed th a2 a3 M = some (rE, ME)) : hz_Ct l yX3_guestNamed cX3_guestNamed 5 (some .int) 2 w N [.ref (hz_ad w th), .ref (hz_ad w 9), .int a2, .int a3] M (hz_Qi w N rE ME) := by
  refine hz_ofW (by decide) rfl (Nat.le_of_ble_eq_true rfl) tw_2_237 ?_
  intro p e s m args below meth c hO
  show hz_G p l e 2 hz_z0 s m args below meth c w N 5 _ M 0 [(0, .ref (hz_ad w th)), (1, .ref (hz_ad w 9)), (2, .int a2), (3, .int a3)] []
  unfold f_X3_guestNamed at h
  refine hz_iconst (v := (0 : Int32)) hO dX3_guestNamed_0 (by decide) ?_
  refine hz_istore (ls1 := [(4, .int (0 : Int32)), (0, .ref (hz_ad w th)), (1, .ref (hz_ad w 9)), (2, .int a2), (3, .int a3)]) hO dX3_guestNamed_1 (Nat.le_of_ble_eq_true rfl) rfl ?_
  exact hz_ls [1, 2, 3, 4, 0] rfl (g_X3_guestNamed_L3 hN hHo hO _ a2 a3 (0 : Int32) M h)
def f_X8_rewind (M : hz_M) : hz_O :=
  hz_lm (hz_set M 9 6 (0 : Int32)) fun M1 =>
  hz_lm (hz_set M1 9 7 (-1 : Int32)) fun M2 =>
  hz_lm (hz_set M2 9 4 (0 : Int32)) fun M3 =>
  hz_ct (f_X8_advance M3) fun r4 M5 =>
  some (0, M5)
set_option maxRecDepth 100000 in
set_option maxHeartbeats 4000000 in
theorem c_X8_rewind (l : Launch) (w : hz_C) {N : Nat} (hN : 178 ≤ N) {M : hz_M} {rE : Int32} {ME : hz_M} (h : f_X8_rewind M = some (rE, ME)) : hz_Ct l yX8_rewind cX8_rewind 1 none 2 w N [.ref (hz_ad w 9)] M (hz_Qv w N ME) := by
  refine hz_ofW (by decide) rfl (Nat.le_of_ble_eq_true rfl) tw_2_174 ?_
  intro p e s m args below meth c hO
  show hz_G p l e 2 hz_z0 s m args below meth c w N 1 _ M 0 [(0, .ref (hz_ad w 9))] []
  unfold f_X8_rewind at h
  refine hz_aload_n hO dX8_rewind_0 rfl 0 rfl ?_
  refine hz_iconst (v := (0 : Int32)) hO dX8_rewind_1 (by decide) ?_
  obtain ⟨M1, h_M1, h⟩ := hz_lm_e h
  refine hz_putI (k := 6) (ty := .int) hO hz_K_8 tyX8_ok nmX8 hz_sh_9 (hz_lt_9 hN) rfl (Nat.le_of_ble_eq_true rfl) tw_1_120 rfl rfl rfl rfl rfl dX8_rewind_2 ?_
  refine hz_nameM h_M1 ?_
  refine hz_aload_n hO dX8_rewind_5 rfl 0 rfl ?_
  refine hz_iconst (v := (-1 : Int32)) hO dX8_rewind_6 (by decide) ?_
  obtain ⟨M2, h_M2, h⟩ := hz_lm_e h
  refine hz_putI (k := 7) (ty := .int) hO hz_K_8 tyX8_ok nmX8 hz_sh_9 (hz_lt_9 hN) rfl (Nat.le_of_ble_eq_true rfl) tw_1_121 rfl rfl rfl rfl rfl dX8_rewind_7 ?_
  refine hz_nameM h_M2 ?_
  refine hz_aload_n hO dX8_rewind_10 rfl 0 rfl ?_
  refine hz_iconst (v := (0 : Int32)) hO dX8_rewind_11 (by decide) ?_
  obtain ⟨M3, h_M3, h⟩ := hz_lm_e h
  refine hz_putI (k := 4) (ty := .int) hO hz_K_8 tyX8_ok nmX8 hz_sh_9 (hz_lt_9 hN) rfl (Nat.le_of_ble_eq_true rfl) tw_1_116 rfl rfl rfl rfl rfl dX8_rewind_12 ?_
  refine hz_nameM h_M3 ?_
  refine hz_aload_n hO dX8_rewind_15 rfl 0 rfl ?_
  obtain ⟨r4, M5, hq6, h⟩ := hz_ct_e h
  refine hz_callVv (as := []) (rest := []) hO (c_X8_advance l w hN hq6) hz_cal_X8_advance hz_K_8 hz_sh_9 (hz_lt_9 hN) tw_2_175 (Nat.le_of_ble_eq_true rfl) rfl rfl (Nat.le_of_ble_eq_true rfl) dX8_rewind_16 ?_
  exact hz_nameM (hz_some_e h).2.symm (hz_vret hO dX8_rewind_19)
def f_X8_needWord (a1 : Nat) (M : hz_M) : hz_O :=
  hz_ct (f_X8_isWord a1 M) fun r1 M2 =>
  hz_ct (f_X8_goOnIf r1 M2) fun r4 M5 =>
  some (0, M5)
set_option maxRecDepth 100000 in
set_option maxHeartbeats 4000000 in
theorem c_X8_needWord (l : Launch) (w : hz_C) {N : Nat} (hN : 178 ≤ N) (a1 : Nat) {M : hz_M} {rE : Int32} {ME : hz_M} (h : f_X8_needWord a1 M = some (rE, ME)) : hz_Ct l yX8_needWord cX8_needWord 2 none 5 w N [.ref (hz_ad w 9), .ref (hz_sa w a1)] M (hz_Qv w N ME) := by
  refine hz_ofW (by decide) rfl (Nat.le_of_ble_eq_true rfl) tw_2_202 ?_
  intro p e s m args below meth c hO
  show hz_G p l e 5 hz_z0 s m args below meth c w N 2 _ M 0 [(0, .ref (hz_ad w 9)), (1, .ref (hz_sa w a1))] []
  unfold f_X8_needWord at h
  refine hz_aload_n hO dX8_needWord_0 rfl 0 rfl ?_
  refine hz_aload_n hO dX8_needWord_1 rfl 0 rfl ?_
  refine hz_aload_n hO dX8_needWord_2 rfl 1 rfl ?_
  obtain ⟨r1, M2, hq3, h⟩ := hz_ct_e h
  refine hz_callVi (as := [.ref (hz_sa w a1)]) (rest := [.ref (hz_ad w 9)]) hO (c_X8_isWord l w hN a1 hq3) hz_cal_X8_isWord hz_K_8 hz_sh_9 (hz_lt_9 hN) tw_2_203 (Nat.le_of_ble_eq_true rfl) rfl rfl (Nat.le_of_ble_eq_true rfl) dX8_needWord_3 ?_
  obtain ⟨r4, M5, hq6, h⟩ := hz_ct_e h
  refine hz_callVv (as := [.int r1]) (rest := []) hO (c_X8_goOnIf l w hN r1 hq6) hz_cal_X8_goOnIf hz_K_8 hz_sh_9 (hz_lt_9 hN) tw_2_207 (Nat.le_of_ble_eq_true rfl) rfl rfl (Nat.le_of_ble_eq_true rfl) dX8_needWord_6 ?_
  exact hz_nameM (hz_some_e h).2.symm (hz_vret hO dX8_needWord_9)
def f_X8_needSign (a1 : Int32) (M : hz_M) : hz_O :=
  hz_jn (fun (q1 : Int32) (M2 : hz_M) =>
    hz_ct (f_X8_goOnIf q1 M2) fun r3 M4 =>
    some (0, M4)
    ) fun k6 =>
  if (M 9 2) = a1 then
    k6 (1 : Int32) M
  else
    k6 (0 : Int32) M
set_option maxRecDepth 100000 in
set_option maxHeartbeats 4000000 in
theorem c_X8_needSign (l : Launch) (w : hz_C) {N : Nat} (hN : 178 ≤ N) (a1 : Int32) {M : hz_M} {rE : Int32} {ME : hz_M} (h : f_X8_needSign a1 M = some (rE, ME)) : hz_Ct l yX8_needSign cX8_needSign 2 none 3 w N [.ref (hz_ad w 9), .int a1] M (hz_Qv w N ME) := by
  refine hz_ofW (by decide) rfl (Nat.le_of_ble_eq_true rfl) tw_2_222 ?_
  intro p e s m args below meth c hO
  show hz_G p l e 3 hz_z0 s m args below meth c w N 2 _ M 0 [(0, .ref (hz_ad w 9)), (1, .int a1)] []
  unfold f_X8_needSign at h
  refine hz_aload_n hO dX8_needSign_0 rfl 0 rfl ?_
  refine hz_aload_n hO dX8_needSign_1 rfl 0 rfl ?_
  refine hz_getI (k := 2) hO hz_K_8 hz_sh_9 (hz_lt_9 hN) rfl (Nat.le_of_ble_eq_true rfl) tw_1_112 rfl dX8_needSign_2 ?_
  refine hz_iload_n hO dX8_needSign_5 rfl 1 rfl ?_
  obtain ⟨k6, hk6, h⟩ := hz_jn_e h
  have gk6 : ∀ (q1 : Int32) (M2 : hz_M), k6 q1 M2 = some (rE, ME) → hz_G p l e 3 hz_z0 s m args below meth c w N 2 (MQ below (hz_Qv w N ME) args s 0 0 (hz_A w)) M2 14 [] [.int q1, .ref (hz_ad w 9)] := by
    intro q1 M2 h
    rw [hk6] at h
    dsimp only at h
    obtain ⟨r3, M4, hq5, h⟩ := hz_ct_e h
    refine hz_callVv (as := [.int q1]) (rest := []) hO (c_X8_goOnIf l w hN q1 hq5) hz_cal_X8_goOnIf hz_K_8 hz_sh_9 (hz_lt_9 hN) tw_2_207 (Nat.le_of_ble_eq_true rfl) rfl rfl (Nat.le_of_ble_eq_true rfl) dX8_needSign_14 ?_
    exact hz_nameM (hz_some_e h).2.symm (hz_vret hO dX8_needSign_17)
  clear hk6
  refine hz_icmp_ne (tgt := 13) hO dX8_needSign_6 (by decide) (fun hc7 => ?_) (fun hc7 => ?_)
  · rw [if_neg hc7] at h
    refine hz_iconst (v := (0 : Int32)) hO dX8_needSign_13 (by decide) ?_
    exact hz_ls [] rfl (gk6 (0 : Int32) M h)
  · rw [if_pos hc7] at h
    refine hz_iconst (v := (1 : Int32)) hO dX8_needSign_9 (by decide) ?_
    refine hz_goto (tgt := 14) hO dX8_needSign_10 (by decide) ?_
    exact hz_ls [] rfl (gk6 (1 : Int32) M h)
def f_X8_needEnd (M : hz_M) : hz_O :=
  hz_jn (fun (q1 : Int32) (M2 : hz_M) =>
    hz_ct (f_X8_goOnIf q1 M2) fun r3 M4 =>
    some (0, M4)
    ) fun k6 =>
  if (M 9 2) = 0 then
    k6 (1 : Int32) M
  else
    k6 (0 : Int32) M
set_option maxRecDepth 100000 in
set_option maxHeartbeats 4000000 in
theorem c_X8_needEnd (l : Launch) (w : hz_C) {N : Nat} (hN : 178 ≤ N) {M : hz_M} {rE : Int32} {ME : hz_M} (h : f_X8_needEnd M = some (rE, ME)) : hz_Ct l yX8_needEnd cX8_needEnd 1 none 3 w N [.ref (hz_ad w 9)] M (hz_Qv w N ME) := by
  refine hz_ofW (by decide) rfl (Nat.le_of_ble_eq_true rfl) tw_3_12 ?_
  intro p e s m args below meth c hO
  show hz_G p l e 3 hz_z0 s m args below meth c w N 1 _ M 0 [(0, .ref (hz_ad w 9))] []
  unfold f_X8_needEnd at h
  refine hz_aload_n hO dX8_needEnd_0 rfl 0 rfl ?_
  refine hz_aload_n hO dX8_needEnd_1 rfl 0 rfl ?_
  refine hz_getI (k := 2) hO hz_K_8 hz_sh_9 (hz_lt_9 hN) rfl (Nat.le_of_ble_eq_true rfl) tw_1_112 rfl dX8_needEnd_2 ?_
  obtain ⟨k6, hk6, h⟩ := hz_jn_e h
  have gk6 : ∀ (q1 : Int32) (M2 : hz_M), k6 q1 M2 = some (rE, ME) → hz_G p l e 3 hz_z0 s m args below meth c w N 1 (MQ below (hz_Qv w N ME) args s 0 0 (hz_A w)) M2 13 [] [.int q1, .ref (hz_ad w 9)] := by
    intro q1 M2 h
    rw [hk6] at h
    dsimp only at h
    obtain ⟨r3, M4, hq5, h⟩ := hz_ct_e h
    refine hz_callVv (as := [.int q1]) (rest := []) hO (c_X8_goOnIf l w hN q1 hq5) hz_cal_X8_goOnIf hz_K_8 hz_sh_9 (hz_lt_9 hN) tw_2_207 (Nat.le_of_ble_eq_true rfl) rfl rfl (Nat.le_of_ble_eq_true rfl) dX8_needEnd_13 ?_
    exact hz_nameM (hz_some_e h).2.symm (hz_vret hO dX8_needEnd_16)
  clear hk6
  refine hz_if_ne (tgt := 12) hO dX8_needEnd_5 (by decide) (fun hc7 => ?_) (fun hc7 => ?_)
  · rw [if_neg hc7] at h
    refine hz_iconst (v := (0 : Int32)) hO dX8_needEnd_12 (by decide) ?_
    exact hz_ls [] rfl (gk6 (0 : Int32) M h)
  · rw [if_pos hc7] at h
    refine hz_iconst (v := (1 : Int32)) hO dX8_needEnd_8 (by decide) ?_
    refine hz_goto (tgt := 13) hO dX8_needEnd_9 (by decide) ?_
    exact hz_ls [] rfl (gk6 (1 : Int32) M h)
def f_X10_change (a1 : Int32) (a2 : Int32) (a3 : Int32) (M : hz_M) : hz_O :=
  hz_ct (f_X1_refusal a1 a2 a3 M) fun r1 M2 =>
  if r1 = 0 then
    hz_ct (f_X2_record M2) fun r5 M6 =>
    hz_ct (f_X1_perform a1 a2 a3 M6) fun r8 M9 =>
    some (r8, M9)
  else
    hz_lm (hz_set M2 26 3 ((M2 26 3) + (1 : Int32))) fun M11 =>
    some (r1, M11)
set_option maxRecDepth 100000 in
set_option maxHeartbeats 4000000 in
theorem c_X10_change (l : Launch) (w : hz_C) {N : Nat} (hN : 178 ≤ N) (a1 : Int32) (a2 : Int32) (a3 : Int32) {M : hz_M} {rE : Int32} {ME : hz_M} (h : f_X10_change a1 a2 a3 M = some (rE, ME)) : hz_Ct l yX10_change cX10_change 5 (some .int) 5 w N [.ref (hz_ad w 0), hz_ev w a1, .int a2, .int a3] M (hz_Qi w N rE ME) := by
  refine hz_ofW (by decide) rfl (by simp [lg_sl, hz_ev_cat, hz_cr, hz_ci]) tw_5_153 ?_
  intro p e s m args below meth c hO
  rw [show lv_args 0 [.ref (hz_ad w 0), hz_ev w a1, .int a2, .int a3] = [(0, .ref (hz_ad w 0)), (1, hz_ev w a1), (2, .int a2), (3, .int a3)] from by simp [lv_args, hz_ev_cat, hz_cr, hz_ci]]
  show hz_G p l e 5 hz_z0 s m args below meth c w N 5 _ M 0 [(0, .ref (hz_ad w 0)), (1, hz_ev w a1), (2, .int a2), (3, .int a3)] []
  unfold f_X10_change at h
  refine hz_aload_n hO dX10_change_0 rfl 0 rfl ?_
  refine hz_getR (k := 5) hO 26 hz_K_10 hz_sh_0 (hz_lt_0 hN) rfl (Nat.le_of_ble_eq_true rfl) tw_3_33 rfl dX10_change_1 ?_
  refine hz_aload_nE hO dX10_change_4 rfl 1 rfl ?_
  refine hz_iload_n hO dX10_change_5 rfl 2 rfl ?_
  refine hz_iload_n hO dX10_change_6 rfl 3 rfl ?_
  obtain ⟨r1, M2, hq3, h⟩ := hz_ct_e h
  refine hz_callVi (as := [hz_ev w a1, .int a2, .int a3]) (rest := []) hO (c_X1_refusal l w hN a1 a2 a3 hq3) hz_cal_X1_refusal hz_K_2 hz_sh_26 (hz_lt_26 hN) tw_5_154 (Nat.le_of_ble_eq_true rfl) rfl rfl (Nat.le_of_ble_eq_true rfl) dX10_change_7 ?_
  refine hz_istore (ls1 := [(4, .int r1), (0, .ref (hz_ad w 0)), (1, hz_ev w a1), (2, .int a2), (3, .int a3)]) hO dX10_change_10 (Nat.le_of_ble_eq_true rfl) rfl ?_
  refine hz_iload hO dX10_change_12 0 rfl ?_
  refine hz_if_eq (tgt := 33) hO dX10_change_14 (by decide) (fun hc4 => ?_) (fun hc4 => ?_)
  · rw [if_pos hc4] at h
    refine hz_aload_n hO dX10_change_33 rfl 1 rfl ?_
    refine hz_getR (k := 7) hO 32 hz_K_10 hz_sh_0 (hz_lt_0 hN) rfl (Nat.le_of_ble_eq_true rfl) tw_3_35 rfl dX10_change_34 ?_
    refine hz_aload_n hO dX10_change_37 rfl 1 rfl ?_
    refine hz_getR (k := 3) hO 11 hz_K_10 hz_sh_0 (hz_lt_0 hN) rfl (Nat.le_of_ble_eq_true rfl) tw_3_31 rfl dX10_change_38 ?_
    obtain ⟨r5, M6, hq7, h⟩ := hz_ct_e h
    refine hz_callVv (as := [.ref (hz_ad w 11)]) (rest := []) hO (c_X2_record l w hN hq7) hz_cal_X2_record hz_K_3 hz_sh_32 (hz_lt_32 hN) tw_5_170 (Nat.le_of_ble_eq_true rfl) rfl rfl (Nat.le_of_ble_eq_true rfl) dX10_change_41 ?_
    refine hz_aload_n hO dX10_change_44 rfl 1 rfl ?_
    refine hz_getR (k := 5) hO 26 hz_K_10 hz_sh_0 (hz_lt_0 hN) rfl (Nat.le_of_ble_eq_true rfl) tw_3_33 rfl dX10_change_45 ?_
    refine hz_aload_nE hO dX10_change_48 rfl 2 rfl ?_
    refine hz_iload_n hO dX10_change_49 rfl 3 rfl ?_
    refine hz_iload_n hO dX10_change_50 rfl 4 rfl ?_
    obtain ⟨r8, M9, hq10, h⟩ := hz_ct_e h
    refine hz_callVi (as := [hz_ev w a1, .int a2, .int a3]) (rest := []) hO (c_X1_perform l w hN a1 a2 a3 hq10) hz_cal_X1_perform hz_K_2 hz_sh_26 (hz_lt_26 hN) tw_5_175 (Nat.le_of_ble_eq_true rfl) rfl rfl (Nat.le_of_ble_eq_true rfl) dX10_change_51 ?_
    exact hz_nameM (hz_some_e h).2.symm (hz_name (hz_some_e h).1.symm (hz_iret hO dX10_change_54))
  · rw [if_neg hc4] at h
    refine hz_aload_n hO dX10_change_17 rfl 1 rfl ?_
    refine hz_getR (k := 5) hO 26 hz_K_10 hz_sh_0 (hz_lt_0 hN) rfl (Nat.le_of_ble_eq_true rfl) tw_3_33 rfl dX10_change_18 ?_
    refine hz_dup hO dX10_change_21 rfl ?_
    refine hz_getI (k := 3) hO hz_K_2 hz_sh_26 (hz_lt_26 hN) rfl (Nat.le_of_ble_eq_true rfl) tw_2_25 rfl dX10_change_22 ?_
    refine hz_iconst (v := (1 : Int32)) hO dX10_change_25 (by decide) ?_
    refine hz_iadd hO dX10_change_26 ?_
    obtain ⟨M11, h_M11, h⟩ := hz_lm_e h
    refine hz_putI (k := 3) (ty := .int) hO hz_K_2 tyX1_ok nmX1 hz_sh_26 (hz_lt_26 hN) rfl (Nat.le_of_ble_eq_true rfl) tw_2_25 rfl rfl rfl rfl rfl dX10_change_27 ?_
    refine hz_nameM h_M11 ?_
    refine hz_iload hO dX10_change_30 0 rfl ?_
    exact hz_nameM (hz_some_e h).2.symm (hz_name (hz_some_e h).1.symm (hz_iret hO dX10_change_32))
def f_X3_readGuest (th : Nat) (M : hz_M) : hz_O :=
  hz_jn (fun  (M1 : hz_M) =>
    hz_ct (f_X8_needWord 2 M1) fun r2 M3 =>
    hz_ct (f_X8_checkName M3) fun r5 M6 =>
    hz_jn (fun  (M8 : hz_M) =>
      if (M8 9 6) = 0 then
        if (M8 th 3) < (16 : Int32) then
          hz_ct (f_X3_keepName th M8) fun r11 M12 =>
          hz_ct (f_X8_advance M12) fun r14 M15 =>
          hz_ct (f_X8_needNumber (0 : Int32) (99 : Int32) M15) fun r17 M18 =>
          hz_gd (hz_in (M15 th 3) 16) <|
          hz_lm (hz_set M18 (th + 1) (Int32.toNatClampNeg (M15 th 3)) r17) fun M21 =>
          hz_lm (hz_set M21 th 3 ((M21 th 3) + (1 : Int32))) fun M22 =>
          some (0, M22)
        else
          some (0, M8)
      else
        some (0, M8)
      ) fun k23 =>
    if (M6 9 6) = 0 then
      hz_ct (f_X3_guestNamed th (M6 9 3) (M6 9 4) M6) fun r25 M26 =>
      if r25 = (-1 : Int32) then
        k23 M26
      else
        hz_ct (f_X8_fail (3 : Int32) M26) fun r29 M30 =>
        k23 M30
    else
      k23 M6
    ) fun k32 =>
  if (M th 3) < (16 : Int32) then
    k32 M
  else
    hz_ct (f_X8_isWord 2 M) fun r34 M35 =>
    if r34 = 0 then
      k32 M35
    else
      hz_ct (f_X8_fail (4 : Int32) M35) fun r38 M39 =>
      k32 M39
set_option maxRecDepth 100000 in
set_option maxHeartbeats 4000000 in
theorem c_X3_readGuest (l : Launch) (w : hz_C) {N : Nat} (hN : 178 ≤ N) {th : Nat} (hHo : hz_Ho N th) {M : hz_M} {rE : Int32} {ME : hz_M} (h : f_X3_readGuest th M = some (rE, ME)) : hz_Ct l yX3_readGuest cX3_readGuest 2 none 6 w N [.ref (hz_ad w th), .ref (hz_ad w 9)] M (hz_Qv w N ME) := by
  refine hz_ofW (by decide) rfl (Nat.le_of_ble_eq_true rfl) tw_2_226 ?_
  intro p e s m args below meth c hO
  show hz_G p l e 6 hz_z0 s m args below meth c w N 2 _ M 0 [(0, .ref (hz_ad w th)), (1, .ref (hz_ad w 9))] []
  unfold f_X3_readGuest at h
  refine hz_aload_n hO dX3_readGuest_0 rfl 0 rfl ?_
  refine hz_getI (k := 3) hO hz_K_4 hHo.1 hHo.2.1 rfl (Nat.le_of_ble_eq_true rfl) tw_1_51 rfl dX3_readGuest_1 ?_
  refine hz_bipush (v := (16 : Int32)) hO dX3_readGuest_4 (by decide) ?_
  obtain ⟨k32, hk32, h⟩ := hz_jn_e h
  have gk32 : ∀  (M1 : hz_M), k32 M1 = some (rE, ME) → hz_G p l e 6 hz_z0 s m args below meth c w N 2 (MQ below (hz_Qv w N ME) args s 0 0 (hz_A w)) M1 23 [(0, .ref (hz_ad w th)), (1, .ref (hz_ad w 9))] [] := by
    intro M1 h
    rw [hk32] at h
    dsimp only at h
    refine hz_aload_n hO dX3_readGuest_23 rfl 1 rfl ?_
    refine hz_ldcS (i := 2) hO (List.mem_of_getElem? (i := 2) rfl) dX3_readGuest_24 ?_
    obtain ⟨r2, M3, hq4, h⟩ := hz_ct_e h
    refine hz_callVv (as := [.ref (hz_sa w 2)]) (rest := []) hO (c_X8_needWord l w hN 2 hq4) hz_cal_X8_needWord hz_K_8 hz_sh_9 (hz_lt_9 hN) tw_2_199 (Nat.le_of_ble_eq_true rfl) rfl rfl (Nat.le_of_ble_eq_true rfl) dX3_readGuest_26 ?_
    refine hz_aload_n hO dX3_readGuest_29 rfl 1 rfl ?_
    obtain ⟨r5, M6, hq7, h⟩ := hz_ct_e h
    refine hz_callVv (as := []) (rest := []) hO (c_X8_checkName l w hN hq7) hz_cal_X8_checkName hz_K_8 hz_sh_9 (hz_lt_9 hN) tw_2_230 (Nat.le_of_ble_eq_true rfl) rfl rfl (Nat.le_of_ble_eq_true rfl) dX3_readGuest_30 ?_
    refine hz_aload_n hO dX3_readGuest_33 rfl 1 rfl ?_
    refine hz_getI (k := 6) hO hz_K_8 hz_sh_9 (hz_lt_9 hN) rfl (Nat.le_of_ble_eq_true rfl) tw_1_119 rfl dX3_readGuest_34 ?_
    obtain ⟨k23, hk23, h⟩ := hz_jn_e h
    have gk23 : ∀  (M8 : hz_M), k23 M8 = some (rE, ME) → hz_G p l e 6 hz_z0 s m args below meth c w N 2 (MQ below (hz_Qv w N ME) args s 0 0 (hz_A w)) M8 62 [(0, .ref (hz_ad w th)), (1, .ref (hz_ad w 9))] [] := by
      intro M8 h
      rw [hk23] at h
      dsimp only at h
      refine hz_aload_n hO dX3_readGuest_62 rfl 1 rfl ?_
      refine hz_getI (k := 6) hO hz_K_8 hz_sh_9 (hz_lt_9 hN) rfl (Nat.le_of_ble_eq_true rfl) tw_1_119 rfl dX3_readGuest_63 ?_
      refine hz_if_ne (tgt := 78) hO dX3_readGuest_66 (by decide) (fun hc9 => ?_) (fun hc9 => ?_)
      · rw [if_neg hc9] at h
        exact hz_nameM (hz_some_e h).2.symm (hz_vret hO dX3_readGuest_78)
      · rw [if_pos hc9] at h
        refine hz_aload_n hO dX3_readGuest_69 rfl 0 rfl ?_
        refine hz_getI (k := 3) hO hz_K_4 hHo.1 hHo.2.1 rfl (Nat.le_of_ble_eq_true rfl) tw_1_51 rfl dX3_readGuest_70 ?_
        refine hz_bipush (v := (16 : Int32)) hO dX3_readGuest_73 (by decide) ?_
        refine hz_icmp_lt (tgt := 79) hO dX3_readGuest_75 (by decide) (fun hc10 => ?_) (fun hc10 => ?_)
        · rw [if_pos hc10] at h
          refine hz_aload_n hO dX3_readGuest_79 rfl 0 rfl ?_
          refine hz_aload_n hO dX3_readGuest_80 rfl 1 rfl ?_
          obtain ⟨r11, M12, hq13, h⟩ := hz_ct_e h
          refine hz_callVv (as := [.ref (hz_ad w 9)]) (rest := []) hO (c_X3_keepName l w hN hHo hq13) hz_cal_X3_keepName hz_K_4 hHo.1 hHo.2.1 tw_3_3 (Nat.le_of_ble_eq_true rfl) rfl rfl (Nat.le_of_ble_eq_true rfl) dX3_readGuest_81 ?_
          refine hz_aload_n hO dX3_readGuest_84 rfl 1 rfl ?_
          obtain ⟨r14, M15, hq16, h⟩ := hz_ct_e h
          refine hz_callVv (as := []) (rest := []) hO (c_X8_advance l w hN hq16) hz_cal_X8_advance hz_K_8 hz_sh_9 (hz_lt_9 hN) tw_3_8 (Nat.le_of_ble_eq_true rfl) rfl rfl (Nat.le_of_ble_eq_true rfl) dX3_readGuest_85 ?_
          refine hz_aload_n hO dX3_readGuest_88 rfl 0 rfl ?_
          refine hz_getR (k := 0) hO (th + 1) hz_K_4 hHo.1 hHo.2.1 rfl (Nat.le_of_ble_eq_true rfl) tw_1_45 rfl dX3_readGuest_89 ?_
          refine hz_aload_n hO dX3_readGuest_92 rfl 0 rfl ?_
          refine hz_getI (k := 3) hO hz_K_4 hHo.1 hHo.2.1 rfl (Nat.le_of_ble_eq_true rfl) tw_1_51 rfl dX3_readGuest_93 ?_
          refine hz_aload_n hO dX3_readGuest_96 rfl 1 rfl ?_
          refine hz_iconst (v := (0 : Int32)) hO dX3_readGuest_97 (by decide) ?_
          refine hz_bipush (v := (99 : Int32)) hO dX3_readGuest_98 (by decide) ?_
          obtain ⟨r17, M18, hq19, h⟩ := hz_ct_e h
          refine hz_callVi (as := [.int (0 : Int32), .int (99 : Int32)]) (rest := [.int (M15 th 3), .ref (hz_ad w (th + 1))]) hO (c_X8_needNumber l w hN (0 : Int32) (99 : Int32) hq19) hz_cal_X8_needNumber hz_K_8 hz_sh_9 (hz_lt_9 hN) tw_2_215 (Nat.le_of_ble_eq_true rfl) rfl rfl (Nat.le_of_ble_eq_true rfl) dX3_readGuest_100 ?_
          obtain ⟨hg20, h⟩ := hz_gd_e h
          obtain ⟨M21, h_M21, h⟩ := hz_lm_e h
          refine hz_iast hO hHo.2.2.1 hHo.2.2.2.1 hg20 dX3_readGuest_103 ?_
          refine hz_nameM h_M21 ?_
          refine hz_aload_n hO dX3_readGuest_104 rfl 0 rfl ?_
          refine hz_dup hO dX3_readGuest_105 rfl ?_
          refine hz_getI (k := 3) hO hz_K_4 hHo.1 hHo.2.1 rfl (Nat.le_of_ble_eq_true rfl) tw_1_51 rfl dX3_readGuest_106 ?_
          refine hz_iconst (v := (1 : Int32)) hO dX3_readGuest_109 (by decide) ?_
          refine hz_iadd hO dX3_readGuest_110 ?_
          obtain ⟨M22, h_M22, h⟩ := hz_lm_e h
          refine hz_putI (k := 3) (ty := .int) hO hz_K_4 tyX3_ok nmX3 hHo.1 hHo.2.1 rfl (Nat.le_of_ble_eq_true rfl) tw_1_51 rfl rfl rfl rfl rfl dX3_readGuest_111 ?_
          refine hz_nameM h_M22 ?_
          exact hz_nameM (hz_some_e h).2.symm (hz_vret hO dX3_readGuest_114)
        · rw [if_neg hc10] at h
          exact hz_nameM (hz_some_e h).2.symm (hz_vret hO dX3_readGuest_78)
    clear hk23
    refine hz_if_ne (tgt := 62) hO dX3_readGuest_37 (by decide) (fun hc24 => ?_) (fun hc24 => ?_)
    · rw [if_neg hc24] at h
      exact hz_ls [0, 1] rfl (gk23 M6 h)
    · rw [if_pos hc24] at h
      refine hz_aload_n hO dX3_readGuest_40 rfl 0 rfl ?_
      refine hz_aload_n hO dX3_readGuest_41 rfl 1 rfl ?_
      refine hz_aload_n hO dX3_readGuest_42 rfl 1 rfl ?_
      refine hz_getI (k := 3) hO hz_K_8 hz_sh_9 (hz_lt_9 hN) rfl (Nat.le_of_ble_eq_true rfl) tw_1_113 rfl dX3_readGuest_43 ?_
      refine hz_aload_n hO dX3_readGuest_46 rfl 1 rfl ?_
      refine hz_getI (k := 4) hO hz_K_8 hz_sh_9 (hz_lt_9 hN) rfl (Nat.le_of_ble_eq_true rfl) tw_1_115 rfl dX3_readGuest_47 ?_
      obtain ⟨r25, M26, hq27, h⟩ := hz_ct_e h
      refine hz_callVi (as := [.ref (hz_ad w 9), .int (M6 9 3), .int (M6 9 4)]) (rest := []) hO (c_X3_guestNamed l w hN hHo (M6 9 3) (M6 9 4) hq27) hz_cal_X3_guestNamed hz_K_4 hHo.1 hHo.2.1 tw_2_234 (Nat.le_of_ble_eq_true rfl) rfl rfl (Nat.le_of_ble_eq_true rfl) dX3_readGuest_50 ?_
      refine hz_iconst (v := (-1 : Int32)) hO dX3_readGuest_53 (by decide) ?_
      refine hz_icmp_eq (tgt := 62) hO dX3_readGuest_54 (by decide) (fun hc28 => ?_) (fun hc28 => ?_)
      · rw [if_pos hc28] at h
        exact hz_ls [0, 1] rfl (gk23 M26 h)
      · rw [if_neg hc28] at h
        refine hz_aload_n hO dX3_readGuest_57 rfl 1 rfl ?_
        refine hz_iconst (v := (3 : Int32)) hO dX3_readGuest_58 (by decide) ?_
        obtain ⟨r29, M30, hq31, h⟩ := hz_ct_e h
        refine hz_callVv (as := [.int (3 : Int32)]) (rest := []) hO (c_X8_fail l w hN (3 : Int32) hq31) hz_cal_X8_fail hz_K_8 hz_sh_9 (hz_lt_9 hN) tw_2_229 (Nat.le_of_ble_eq_true rfl) rfl rfl (Nat.le_of_ble_eq_true rfl) dX3_readGuest_59 ?_
        exact hz_ls [0, 1] rfl (gk23 M30 h)
  clear hk32
  refine hz_icmp_lt (tgt := 23) hO dX3_readGuest_6 (by decide) (fun hc33 => ?_) (fun hc33 => ?_)
  · rw [if_pos hc33] at h
    exact hz_ls [0, 1] rfl (gk32 M h)
  · rw [if_neg hc33] at h
    refine hz_aload_n hO dX3_readGuest_9 rfl 1 rfl ?_
    refine hz_ldcS (i := 2) hO (List.mem_of_getElem? (i := 2) rfl) dX3_readGuest_10 ?_
    obtain ⟨r34, M35, hq36, h⟩ := hz_ct_e h
    refine hz_callVi (as := [.ref (hz_sa w 2)]) (rest := []) hO (c_X8_isWord l w hN 2 hq36) hz_cal_X8_isWord hz_K_8 hz_sh_9 (hz_lt_9 hN) tw_2_228 (Nat.le_of_ble_eq_true rfl) rfl rfl (Nat.le_of_ble_eq_true rfl) dX3_readGuest_12 ?_
    refine hz_if_eq (tgt := 23) hO dX3_readGuest_15 (by decide) (fun hc37 => ?_) (fun hc37 => ?_)
    · rw [if_pos hc37] at h
      exact hz_ls [0, 1] rfl (gk32 M35 h)
    · rw [if_neg hc37] at h
      refine hz_aload_n hO dX3_readGuest_18 rfl 1 rfl ?_
      refine hz_iconst (v := (4 : Int32)) hO dX3_readGuest_19 (by decide) ?_
      obtain ⟨r38, M39, hq40, h⟩ := hz_ct_e h
      refine hz_callVv (as := [.int (4 : Int32)]) (rest := []) hO (c_X8_fail l w hN (4 : Int32) hq40) hz_cal_X8_fail hz_K_8 hz_sh_9 (hz_lt_9 hN) tw_2_229 (Nat.le_of_ble_eq_true rfl) rfl rfl (Nat.le_of_ble_eq_true rfl) dX3_readGuest_20 ?_
      exact hz_ls [0, 1] rfl (gk32 M39 h)
def f_X10_enter (a1 : Int32) (M : hz_M) : hz_O :=
  hz_ct (f_X3_isGuest a1 M) fun r1 M2 =>
  hz_ct (f_X10_need r1 M2) fun r4 M5 =>
  hz_ct (f_X10_change (1 : Int32) a1 (0 : Int32) M5) fun r7 M8 =>
  some (r7, M8)
set_option maxRecDepth 100000 in
set_option maxHeartbeats 4000000 in
theorem c_X10_enter (l : Launch) (w : hz_C) {N : Nat} (hN : 178 ≤ N) (a1 : Int32) {M : hz_M} {rE : Int32} {ME : hz_M} (h : f_X10_enter a1 M = some (rE, ME)) : hz_Ct l yX10_enter cX10_enter 2 (some .int) 6 w N [.ref (hz_ad w 0), .int a1] M (hz_Qi w N rE ME) := by
  refine hz_ofW (by decide) rfl (Nat.le_of_ble_eq_true rfl) tw_5_147 ?_
  intro p e s m args below meth c hO
  show hz_G p l e 6 hz_z0 s m args below meth c w N 2 _ M 0 [(0, .ref (hz_ad w 0)), (1, .int a1)] []
  unfold f_X10_enter at h
  refine hz_aload_n hO dX10_enter_0 rfl 0 rfl ?_
  refine hz_getR (k := 0) hO 1 hz_K_10 hz_sh_0 (hz_lt_0 hN) rfl (Nat.le_of_ble_eq_true rfl) tw_3_28 rfl dX10_enter_1 ?_
  refine hz_iload_n hO dX10_enter_4 rfl 1 rfl ?_
  obtain ⟨r1, M2, hq3, h⟩ := hz_ct_e h
  refine hz_callVi (as := [.int a1]) (rest := []) hO (c_X3_isGuest l w hN a1 hq3) hz_cal_X3_isGuest hz_K_4 hz_sh_1 (hz_lt_1 hN) tw_4_57 (Nat.le_of_ble_eq_true rfl) rfl rfl (Nat.le_of_ble_eq_true rfl) dX10_enter_5 ?_
  obtain ⟨r4, M5, hq6, h⟩ := hz_ct_e h
  refine hz_callSv (as := [.int r1]) (rest := []) hO (c_X10_need l w hN r1 hq6) hz_cal_X10_need tw_4_61 (Nat.le_of_ble_eq_true rfl) rfl rfl (Nat.le_of_ble_eq_true rfl) dX10_enter_8 ?_
  refine hz_aload_n hO dX10_enter_11 rfl 0 rfl ?_
  refine hz_getsE (k := 0) (x := (1 : Int32)) hO (by decide) rfl (by decide) tw_5_148 rfl dX10_enter_12 ?_
  refine hz_iload_n hO dX10_enter_15 rfl 1 rfl ?_
  refine hz_iconst (v := (0 : Int32)) hO dX10_enter_16 (by decide) ?_
  obtain ⟨r7, M8, hq9, h⟩ := hz_ct_e h
  refine hz_callVi (as := [hz_ev w (1 : Int32), .int a1, .int (0 : Int32)]) (rest := []) hO (c_X10_change l w hN (1 : Int32) a1 (0 : Int32) hq9) hz_cal_X10_change hz_K_10 hz_sh_0 (hz_lt_0 hN) tw_5_150 (Nat.le_of_ble_eq_true rfl) rfl rfl (Nat.le_of_ble_eq_true rfl) dX10_enter_17 ?_
  exact hz_nameM (hz_some_e h).2.symm (hz_name (hz_some_e h).1.symm (hz_iret hO dX10_enter_20))
def f_X10_sit (a1 : Int32) (a2 : Int32) (M : hz_M) : hz_O :=
  hz_ct (f_X3_isGuest a1 M) fun r1 M2 =>
  hz_ct (f_X10_need r1 M2) fun r4 M5 =>
  hz_ct (f_X3_isStep a2 M5) fun r7 M8 =>
  hz_ct (f_X10_need r7 M8) fun r10 M11 =>
  hz_ct (f_X10_change (2 : Int32) a1 a2 M11) fun r13 M14 =>
  some (r13, M14)
set_option maxRecDepth 100000 in
set_option maxHeartbeats 4000000 in
theorem c_X10_sit (l : Launch) (w : hz_C) {N : Nat} (hN : 178 ≤ N) (a1 : Int32) (a2 : Int32) {M : hz_M} {rE : Int32} {ME : hz_M} (h : f_X10_sit a1 a2 M = some (rE, ME)) : hz_Ct l yX10_sit cX10_sit 3 (some .int) 6 w N [.ref (hz_ad w 0), .int a1, .int a2] M (hz_Qi w N rE ME) := by
  refine hz_ofW (by decide) rfl (Nat.le_of_ble_eq_true rfl) tw_6_26 ?_
  intro p e s m args below meth c hO
  show hz_G p l e 6 hz_z0 s m args below meth c w N 3 _ M 0 [(0, .ref (hz_ad w 0)), (1, .int a1), (2, .int a2)] []
  unfold f_X10_sit at h
  refine hz_aload_n hO dX10_sit_0 rfl 0 rfl ?_
  refine hz_getR (k := 0) hO 1 hz_K_10 hz_sh_0 (hz_lt_0 hN) rfl (Nat.le_of_ble_eq_true rfl) tw_3_28 rfl dX10_sit_1 ?_
  refine hz_iload_n hO dX10_sit_4 rfl 1 rfl ?_
  obtain ⟨r1, M2, hq3, h⟩ := hz_ct_e h
  refine hz_callVi (as := [.int a1]) (rest := []) hO (c_X3_isGuest l w hN a1 hq3) hz_cal_X3_isGuest hz_K_4 hz_sh_1 (hz_lt_1 hN) tw_4_57 (Nat.le_of_ble_eq_true rfl) rfl rfl (Nat.le_of_ble_eq_true rfl) dX10_sit_5 ?_
  obtain ⟨r4, M5, hq6, h⟩ := hz_ct_e h
  refine hz_callSv (as := [.int r1]) (rest := []) hO (c_X10_need l w hN r1 hq6) hz_cal_X10_need tw_4_61 (Nat.le_of_ble_eq_true rfl) rfl rfl (Nat.le_of_ble_eq_true rfl) dX10_sit_8 ?_
  refine hz_aload_n hO dX10_sit_11 rfl 0 rfl ?_
  refine hz_getR (k := 0) hO 1 hz_K_10 hz_sh_0 (hz_lt_0 hN) rfl (Nat.le_of_ble_eq_true rfl) tw_3_28 rfl dX10_sit_12 ?_
  refine hz_iload_n hO dX10_sit_15 rfl 2 rfl ?_
  obtain ⟨r7, M8, hq9, h⟩ := hz_ct_e h
  refine hz_callVi (as := [.int a2]) (rest := []) hO (c_X3_isStep l w hN a2 hq9) hz_cal_X3_isStep hz_K_4 hz_sh_1 (hz_lt_1 hN) tw_4_193 (Nat.le_of_ble_eq_true rfl) rfl rfl (Nat.le_of_ble_eq_true rfl) dX10_sit_16 ?_
  obtain ⟨r10, M11, hq12, h⟩ := hz_ct_e h
  refine hz_callSv (as := [.int r7]) (rest := []) hO (c_X10_need l w hN r7 hq12) hz_cal_X10_need tw_4_61 (Nat.le_of_ble_eq_true rfl) rfl rfl (Nat.le_of_ble_eq_true rfl) dX10_sit_19 ?_
  refine hz_aload_n hO dX10_sit_22 rfl 0 rfl ?_
  refine hz_getsE (k := 1) (x := (2 : Int32)) hO (by decide) rfl (by decide) tw_6_27 rfl dX10_sit_23 ?_
  refine hz_iload_n hO dX10_sit_26 rfl 1 rfl ?_
  refine hz_iload_n hO dX10_sit_27 rfl 2 rfl ?_
  obtain ⟨r13, M14, hq15, h⟩ := hz_ct_e h
  refine hz_callVi (as := [hz_ev w (2 : Int32), .int a1, .int a2]) (rest := []) hO (c_X10_change l w hN (2 : Int32) a1 a2 hq15) hz_cal_X10_change hz_K_10 hz_sh_0 (hz_lt_0 hN) tw_5_150 (Nat.le_of_ble_eq_true rfl) rfl rfl (Nat.le_of_ble_eq_true rfl) dX10_sit_28 ?_
  exact hz_nameM (hz_some_e h).2.symm (hz_name (hz_some_e h).1.symm (hz_iret hO dX10_sit_31))
def f_X10_hall (a1 : Int32) (M : hz_M) : hz_O :=
  hz_ct (f_X3_isGuest a1 M) fun r1 M2 =>
  hz_ct (f_X10_need r1 M2) fun r4 M5 =>
  hz_ct (f_X10_change (3 : Int32) a1 (0 : Int32) M5) fun r7 M8 =>
  some (r7, M8)
set_option maxRecDepth 100000 in
set_option maxHeartbeats 4000000 in
theorem c_X10_hall (l : Launch) (w : hz_C) {N : Nat} (hN : 178 ≤ N) (a1 : Int32) {M : hz_M} {rE : Int32} {ME : hz_M} (h : f_X10_hall a1 M = some (rE, ME)) : hz_Ct l yX10_hall cX10_hall 2 (some .int) 6 w N [.ref (hz_ad w 0), .int a1] M (hz_Qi w N rE ME) := by
  refine hz_ofW (by decide) rfl (Nat.le_of_ble_eq_true rfl) tw_6_32 ?_
  intro p e s m args below meth c hO
  show hz_G p l e 6 hz_z0 s m args below meth c w N 2 _ M 0 [(0, .ref (hz_ad w 0)), (1, .int a1)] []
  unfold f_X10_hall at h
  refine hz_aload_n hO dX10_hall_0 rfl 0 rfl ?_
  refine hz_getR (k := 0) hO 1 hz_K_10 hz_sh_0 (hz_lt_0 hN) rfl (Nat.le_of_ble_eq_true rfl) tw_3_28 rfl dX10_hall_1 ?_
  refine hz_iload_n hO dX10_hall_4 rfl 1 rfl ?_
  obtain ⟨r1, M2, hq3, h⟩ := hz_ct_e h
  refine hz_callVi (as := [.int a1]) (rest := []) hO (c_X3_isGuest l w hN a1 hq3) hz_cal_X3_isGuest hz_K_4 hz_sh_1 (hz_lt_1 hN) tw_4_57 (Nat.le_of_ble_eq_true rfl) rfl rfl (Nat.le_of_ble_eq_true rfl) dX10_hall_5 ?_
  obtain ⟨r4, M5, hq6, h⟩ := hz_ct_e h
  refine hz_callSv (as := [.int r1]) (rest := []) hO (c_X10_need l w hN r1 hq6) hz_cal_X10_need tw_4_61 (Nat.le_of_ble_eq_true rfl) rfl rfl (Nat.le_of_ble_eq_true rfl) dX10_hall_8 ?_
  refine hz_aload_n hO dX10_hall_11 rfl 0 rfl ?_
  refine hz_getsE (k := 2) (x := (3 : Int32)) hO (by decide) rfl (by decide) tw_6_33 rfl dX10_hall_12 ?_
  refine hz_iload_n hO dX10_hall_15 rfl 1 rfl ?_
  refine hz_iconst (v := (0 : Int32)) hO dX10_hall_16 (by decide) ?_
  obtain ⟨r7, M8, hq9, h⟩ := hz_ct_e h
  refine hz_callVi (as := [hz_ev w (3 : Int32), .int a1, .int (0 : Int32)]) (rest := []) hO (c_X10_change l w hN (3 : Int32) a1 (0 : Int32) hq9) hz_cal_X10_change hz_K_10 hz_sh_0 (hz_lt_0 hN) tw_5_150 (Nat.le_of_ble_eq_true rfl) rfl rfl (Nat.le_of_ble_eq_true rfl) dX10_hall_17 ?_
  exact hz_nameM (hz_some_e h).2.symm (hz_name (hz_some_e h).1.symm (hz_iret hO dX10_hall_20))
def f_X10_hang (a1 : Int32) (a2 : Int32) (M : hz_M) : hz_O :=
  hz_ct (f_X3_isGuest a1 M) fun r1 M2 =>
  hz_ct (f_X10_need r1 M2) fun r4 M5 =>
  hz_ct (f_X3_isPeg a2 M5) fun r7 M8 =>
  hz_ct (f_X10_need r7 M8) fun r10 M11 =>
  hz_ct (f_X10_change (4 : Int32) a1 a2 M11) fun r13 M14 =>
  some (r13, M14)
set_option maxRecDepth 100000 in
set_option maxHeartbeats 4000000 in
theorem c_X10_hang (l : Launch) (w : hz_C) {N : Nat} (hN : 178 ≤ N) (a1 : Int32) (a2 : Int32) {M : hz_M} {rE : Int32} {ME : hz_M} (h : f_X10_hang a1 a2 M = some (rE, ME)) : hz_Ct l yX10_hang cX10_hang 3 (some .int) 6 w N [.ref (hz_ad w 0), .int a1, .int a2] M (hz_Qi w N rE ME) := by
  refine hz_ofW (by decide) rfl (Nat.le_of_ble_eq_true rfl) tw_6_38 ?_
  intro p e s m args below meth c hO
  show hz_G p l e 6 hz_z0 s m args below meth c w N 3 _ M 0 [(0, .ref (hz_ad w 0)), (1, .int a1), (2, .int a2)] []
  unfold f_X10_hang at h
  refine hz_aload_n hO dX10_hang_0 rfl 0 rfl ?_
  refine hz_getR (k := 0) hO 1 hz_K_10 hz_sh_0 (hz_lt_0 hN) rfl (Nat.le_of_ble_eq_true rfl) tw_3_28 rfl dX10_hang_1 ?_
  refine hz_iload_n hO dX10_hang_4 rfl 1 rfl ?_
  obtain ⟨r1, M2, hq3, h⟩ := hz_ct_e h
  refine hz_callVi (as := [.int a1]) (rest := []) hO (c_X3_isGuest l w hN a1 hq3) hz_cal_X3_isGuest hz_K_4 hz_sh_1 (hz_lt_1 hN) tw_4_57 (Nat.le_of_ble_eq_true rfl) rfl rfl (Nat.le_of_ble_eq_true rfl) dX10_hang_5 ?_
  obtain ⟨r4, M5, hq6, h⟩ := hz_ct_e h
  refine hz_callSv (as := [.int r1]) (rest := []) hO (c_X10_need l w hN r1 hq6) hz_cal_X10_need tw_4_61 (Nat.le_of_ble_eq_true rfl) rfl rfl (Nat.le_of_ble_eq_true rfl) dX10_hang_8 ?_
  refine hz_aload_n hO dX10_hang_11 rfl 0 rfl ?_
  refine hz_getR (k := 0) hO 1 hz_K_10 hz_sh_0 (hz_lt_0 hN) rfl (Nat.le_of_ble_eq_true rfl) tw_3_28 rfl dX10_hang_12 ?_
  refine hz_iload_n hO dX10_hang_15 rfl 2 rfl ?_
  obtain ⟨r7, M8, hq9, h⟩ := hz_ct_e h
  refine hz_callVi (as := [.int a2]) (rest := []) hO (c_X3_isPeg l w hN a2 hq9) hz_cal_X3_isPeg hz_K_4 hz_sh_1 (hz_lt_1 hN) tw_5_0 (Nat.le_of_ble_eq_true rfl) rfl rfl (Nat.le_of_ble_eq_true rfl) dX10_hang_16 ?_
  obtain ⟨r10, M11, hq12, h⟩ := hz_ct_e h
  refine hz_callSv (as := [.int r7]) (rest := []) hO (c_X10_need l w hN r7 hq12) hz_cal_X10_need tw_4_61 (Nat.le_of_ble_eq_true rfl) rfl rfl (Nat.le_of_ble_eq_true rfl) dX10_hang_19 ?_
  refine hz_aload_n hO dX10_hang_22 rfl 0 rfl ?_
  refine hz_getsE (k := 3) (x := (4 : Int32)) hO (by decide) rfl (by decide) tw_6_39 rfl dX10_hang_23 ?_
  refine hz_iload_n hO dX10_hang_26 rfl 1 rfl ?_
  refine hz_iload_n hO dX10_hang_27 rfl 2 rfl ?_
  obtain ⟨r13, M14, hq15, h⟩ := hz_ct_e h
  refine hz_callVi (as := [hz_ev w (4 : Int32), .int a1, .int a2]) (rest := []) hO (c_X10_change l w hN (4 : Int32) a1 a2 hq15) hz_cal_X10_change hz_K_10 hz_sh_0 (hz_lt_0 hN) tw_5_150 (Nat.le_of_ble_eq_true rfl) rfl rfl (Nat.le_of_ble_eq_true rfl) dX10_hang_28 ?_
  exact hz_nameM (hz_some_e h).2.symm (hz_name (hz_some_e h).1.symm (hz_iret hO dX10_hang_31))
def f_X10_take (a1 : Int32) (a2 : Int32) (M : hz_M) : hz_O :=
  hz_ct (f_X3_isGuest a1 M) fun r1 M2 =>
  hz_ct (f_X10_need r1 M2) fun r4 M5 =>
  hz_ct (f_X3_isPeg a2 M5) fun r7 M8 =>
  hz_ct (f_X10_need r7 M8) fun r10 M11 =>
  hz_ct (f_X10_change (5 : Int32) a1 a2 M11) fun r13 M14 =>
  some (r13, M14)
set_option maxRecDepth 100000 in
set_option maxHeartbeats 4000000 in
theorem c_X10_take (l : Launch) (w : hz_C) {N : Nat} (hN : 178 ≤ N) (a1 : Int32) (a2 : Int32) {M : hz_M} {rE : Int32} {ME : hz_M} (h : f_X10_take a1 a2 M = some (rE, ME)) : hz_Ct l yX10_take cX10_take 3 (some .int) 6 w N [.ref (hz_ad w 0), .int a1, .int a2] M (hz_Qi w N rE ME) := by
  refine hz_ofW (by decide) rfl (Nat.le_of_ble_eq_true rfl) tw_6_44 ?_
  intro p e s m args below meth c hO
  show hz_G p l e 6 hz_z0 s m args below meth c w N 3 _ M 0 [(0, .ref (hz_ad w 0)), (1, .int a1), (2, .int a2)] []
  unfold f_X10_take at h
  refine hz_aload_n hO dX10_take_0 rfl 0 rfl ?_
  refine hz_getR (k := 0) hO 1 hz_K_10 hz_sh_0 (hz_lt_0 hN) rfl (Nat.le_of_ble_eq_true rfl) tw_3_28 rfl dX10_take_1 ?_
  refine hz_iload_n hO dX10_take_4 rfl 1 rfl ?_
  obtain ⟨r1, M2, hq3, h⟩ := hz_ct_e h
  refine hz_callVi (as := [.int a1]) (rest := []) hO (c_X3_isGuest l w hN a1 hq3) hz_cal_X3_isGuest hz_K_4 hz_sh_1 (hz_lt_1 hN) tw_4_57 (Nat.le_of_ble_eq_true rfl) rfl rfl (Nat.le_of_ble_eq_true rfl) dX10_take_5 ?_
  obtain ⟨r4, M5, hq6, h⟩ := hz_ct_e h
  refine hz_callSv (as := [.int r1]) (rest := []) hO (c_X10_need l w hN r1 hq6) hz_cal_X10_need tw_4_61 (Nat.le_of_ble_eq_true rfl) rfl rfl (Nat.le_of_ble_eq_true rfl) dX10_take_8 ?_
  refine hz_aload_n hO dX10_take_11 rfl 0 rfl ?_
  refine hz_getR (k := 0) hO 1 hz_K_10 hz_sh_0 (hz_lt_0 hN) rfl (Nat.le_of_ble_eq_true rfl) tw_3_28 rfl dX10_take_12 ?_
  refine hz_iload_n hO dX10_take_15 rfl 2 rfl ?_
  obtain ⟨r7, M8, hq9, h⟩ := hz_ct_e h
  refine hz_callVi (as := [.int a2]) (rest := []) hO (c_X3_isPeg l w hN a2 hq9) hz_cal_X3_isPeg hz_K_4 hz_sh_1 (hz_lt_1 hN) tw_5_0 (Nat.le_of_ble_eq_true rfl) rfl rfl (Nat.le_of_ble_eq_true rfl) dX10_take_16 ?_
  obtain ⟨r10, M11, hq12, h⟩ := hz_ct_e h
  refine hz_callSv (as := [.int r7]) (rest := []) hO (c_X10_need l w hN r7 hq12) hz_cal_X10_need tw_4_61 (Nat.le_of_ble_eq_true rfl) rfl rfl (Nat.le_of_ble_eq_true rfl) dX10_take_19 ?_
  refine hz_aload_n hO dX10_take_22 rfl 0 rfl ?_
  refine hz_getsE (k := 4) (x := (5 : Int32)) hO (by decide) rfl (by decide) tw_6_45 rfl dX10_take_23 ?_
  refine hz_iload_n hO dX10_take_26 rfl 1 rfl ?_
  refine hz_iload_n hO dX10_take_27 rfl 2 rfl ?_
  obtain ⟨r13, M14, hq15, h⟩ := hz_ct_e h
  refine hz_callVi (as := [hz_ev w (5 : Int32), .int a1, .int a2]) (rest := []) hO (c_X10_change l w hN (5 : Int32) a1 a2 hq15) hz_cal_X10_change hz_K_10 hz_sh_0 (hz_lt_0 hN) tw_5_150 (Nat.le_of_ble_eq_true rfl) rfl rfl (Nat.le_of_ble_eq_true rfl) dX10_take_28 ?_
  exact hz_nameM (hz_some_e h).2.symm (hz_name (hz_some_e h).1.symm (hz_iret hO dX10_take_31))
def f_X10_leave (a1 : Int32) (M : hz_M) : hz_O :=
  hz_ct (f_X3_isGuest a1 M) fun r1 M2 =>
  hz_ct (f_X10_need r1 M2) fun r4 M5 =>
  hz_ct (f_X10_change (6 : Int32) a1 (0 : Int32) M5) fun r7 M8 =>
  some (r7, M8)
set_option maxRecDepth 100000 in
set_option maxHeartbeats 4000000 in
theorem c_X10_leave (l : Launch) (w : hz_C) {N : Nat} (hN : 178 ≤ N) (a1 : Int32) {M : hz_M} {rE : Int32} {ME : hz_M} (h : f_X10_leave a1 M = some (rE, ME)) : hz_Ct l yX10_leave cX10_leave 2 (some .int) 6 w N [.ref (hz_ad w 0), .int a1] M (hz_Qi w N rE ME) := by
  refine hz_ofW (by decide) rfl (Nat.le_of_ble_eq_true rfl) tw_6_50 ?_
  intro p e s m args below meth c hO
  show hz_G p l e 6 hz_z0 s m args below meth c w N 2 _ M 0 [(0, .ref (hz_ad w 0)), (1, .int a1)] []
  unfold f_X10_leave at h
  refine hz_aload_n hO dX10_leave_0 rfl 0 rfl ?_
  refine hz_getR (k := 0) hO 1 hz_K_10 hz_sh_0 (hz_lt_0 hN) rfl (Nat.le_of_ble_eq_true rfl) tw_3_28 rfl dX10_leave_1 ?_
  refine hz_iload_n hO dX10_leave_4 rfl 1 rfl ?_
  obtain ⟨r1, M2, hq3, h⟩ := hz_ct_e h
  refine hz_callVi (as := [.int a1]) (rest := []) hO (c_X3_isGuest l w hN a1 hq3) hz_cal_X3_isGuest hz_K_4 hz_sh_1 (hz_lt_1 hN) tw_4_57 (Nat.le_of_ble_eq_true rfl) rfl rfl (Nat.le_of_ble_eq_true rfl) dX10_leave_5 ?_
  obtain ⟨r4, M5, hq6, h⟩ := hz_ct_e h
  refine hz_callSv (as := [.int r1]) (rest := []) hO (c_X10_need l w hN r1 hq6) hz_cal_X10_need tw_4_61 (Nat.le_of_ble_eq_true rfl) rfl rfl (Nat.le_of_ble_eq_true rfl) dX10_leave_8 ?_
  refine hz_aload_n hO dX10_leave_11 rfl 0 rfl ?_
  refine hz_getsE (k := 5) (x := (6 : Int32)) hO (by decide) rfl (by decide) tw_6_51 rfl dX10_leave_12 ?_
  refine hz_iload_n hO dX10_leave_15 rfl 1 rfl ?_
  refine hz_iconst (v := (0 : Int32)) hO dX10_leave_16 (by decide) ?_
  obtain ⟨r7, M8, hq9, h⟩ := hz_ct_e h
  refine hz_callVi (as := [hz_ev w (6 : Int32), .int a1, .int (0 : Int32)]) (rest := []) hO (c_X10_change l w hN (6 : Int32) a1 (0 : Int32) hq9) hz_cal_X10_change hz_K_10 hz_sh_0 (hz_lt_0 hN) tw_5_150 (Nat.le_of_ble_eq_true rfl) rfl rfl (Nat.le_of_ble_eq_true rfl) dX10_leave_17 ?_
  exact hz_nameM (hz_some_e h).2.symm (hz_name (hz_some_e h).1.symm (hz_iret hO dX10_leave_20))
def f_X10_speak (a1 : Int32) (M : hz_M) : hz_O :=
  hz_ct (f_X3_isGuest a1 M) fun r1 M2 =>
  hz_ct (f_X10_need r1 M2) fun r4 M5 =>
  hz_ct (f_X10_change (7 : Int32) a1 (0 : Int32) M5) fun r7 M8 =>
  some (r7, M8)
set_option maxRecDepth 100000 in
set_option maxHeartbeats 4000000 in
theorem c_X10_speak (l : Launch) (w : hz_C) {N : Nat} (hN : 178 ≤ N) (a1 : Int32) {M : hz_M} {rE : Int32} {ME : hz_M} (h : f_X10_speak a1 M = some (rE, ME)) : hz_Ct l yX10_speak cX10_speak 2 (some .int) 6 w N [.ref (hz_ad w 0), .int a1] M (hz_Qi w N rE ME) := by
  refine hz_ofW (by decide) rfl (Nat.le_of_ble_eq_true rfl) tw_6_61 ?_
  intro p e s m args below meth c hO
  show hz_G p l e 6 hz_z0 s m args below meth c w N 2 _ M 0 [(0, .ref (hz_ad w 0)), (1, .int a1)] []
  unfold f_X10_speak at h
  refine hz_aload_n hO dX10_speak_0 rfl 0 rfl ?_
  refine hz_getR (k := 0) hO 1 hz_K_10 hz_sh_0 (hz_lt_0 hN) rfl (Nat.le_of_ble_eq_true rfl) tw_3_28 rfl dX10_speak_1 ?_
  refine hz_iload_n hO dX10_speak_4 rfl 1 rfl ?_
  obtain ⟨r1, M2, hq3, h⟩ := hz_ct_e h
  refine hz_callVi (as := [.int a1]) (rest := []) hO (c_X3_isGuest l w hN a1 hq3) hz_cal_X3_isGuest hz_K_4 hz_sh_1 (hz_lt_1 hN) tw_4_57 (Nat.le_of_ble_eq_true rfl) rfl rfl (Nat.le_of_ble_eq_true rfl) dX10_speak_5 ?_
  obtain ⟨r4, M5, hq6, h⟩ := hz_ct_e h
  refine hz_callSv (as := [.int r1]) (rest := []) hO (c_X10_need l w hN r1 hq6) hz_cal_X10_need tw_4_61 (Nat.le_of_ble_eq_true rfl) rfl rfl (Nat.le_of_ble_eq_true rfl) dX10_speak_8 ?_
  refine hz_aload_n hO dX10_speak_11 rfl 0 rfl ?_
  refine hz_getsE (k := 6) (x := (7 : Int32)) hO (by decide) rfl (by decide) tw_6_62 rfl dX10_speak_12 ?_
  refine hz_iload_n hO dX10_speak_15 rfl 1 rfl ?_
  refine hz_iconst (v := (0 : Int32)) hO dX10_speak_16 (by decide) ?_
  obtain ⟨r7, M8, hq9, h⟩ := hz_ct_e h
  refine hz_callVi (as := [hz_ev w (7 : Int32), .int a1, .int (0 : Int32)]) (rest := []) hO (c_X10_change l w hN (7 : Int32) a1 (0 : Int32) hq9) hz_cal_X10_change hz_K_10 hz_sh_0 (hz_lt_0 hN) tw_5_150 (Nat.le_of_ble_eq_true rfl) rfl rfl (Nat.le_of_ble_eq_true rfl) dX10_speak_17 ?_
  exact hz_nameM (hz_some_e h).2.symm (hz_name (hz_some_e h).1.symm (hz_iret hO dX10_speak_20))
def f_X10_wash (M : hz_M) : hz_O :=
  hz_ct (f_X10_change (8 : Int32) (0 : Int32) (0 : Int32) M) fun r1 M2 =>
  some (r1, M2)
set_option maxRecDepth 100000 in
set_option maxHeartbeats 4000000 in
theorem c_X10_wash (l : Launch) (w : hz_C) {N : Nat} (hN : 178 ≤ N) {M : hz_M} {rE : Int32} {ME : hz_M} (h : f_X10_wash M = some (rE, ME)) : hz_Ct l yX10_wash cX10_wash 1 (some .int) 6 w N [.ref (hz_ad w 0)] M (hz_Qi w N rE ME) := by
  refine hz_ofW (by decide) rfl (Nat.le_of_ble_eq_true rfl) tw_6_73 ?_
  intro p e s m args below meth c hO
  show hz_G p l e 6 hz_z0 s m args below meth c w N 1 _ M 0 [(0, .ref (hz_ad w 0))] []
  unfold f_X10_wash at h
  refine hz_aload_n hO dX10_wash_0 rfl 0 rfl ?_
  refine hz_getsE (k := 7) (x := (8 : Int32)) hO (by decide) rfl (by decide) tw_6_74 rfl dX10_wash_1 ?_
  refine hz_iconst (v := (0 : Int32)) hO dX10_wash_4 (by decide) ?_
  refine hz_iconst (v := (0 : Int32)) hO dX10_wash_5 (by decide) ?_
  obtain ⟨r1, M2, hq3, h⟩ := hz_ct_e h
  refine hz_callVi (as := [hz_ev w (8 : Int32), .int (0 : Int32), .int (0 : Int32)]) (rest := []) hO (c_X10_change l w hN (8 : Int32) (0 : Int32) (0 : Int32) hq3) hz_cal_X10_change hz_K_10 hz_sh_0 (hz_lt_0 hN) tw_5_150 (Nat.le_of_ble_eq_true rfl) rfl rfl (Nat.le_of_ble_eq_true rfl) dX10_wash_6 ?_
  exact hz_nameM (hz_some_e h).2.symm (hz_name (hz_some_e h).1.symm (hz_iret hO dX10_wash_9))
def f_X10_valve (a1 : Int32) (a2 : Int32) (M : hz_M) : hz_O :=
  hz_ct (f_X3_isValve a1 M) fun r1 M2 =>
  hz_ct (f_X10_need r1 M2) fun r4 M5 =>
  hz_ct (f_X10_isOpening a2 M5) fun r7 M8 =>
  hz_ct (f_X10_need r7 M8) fun r10 M11 =>
  hz_ct (f_X10_change (9 : Int32) a1 a2 M11) fun r13 M14 =>
  some (r13, M14)
set_option maxRecDepth 100000 in
set_option maxHeartbeats 4000000 in
theorem c_X10_valve (l : Launch) (w : hz_C) {N : Nat} (hN : 178 ≤ N) (a1 : Int32) (a2 : Int32) {M : hz_M} {rE : Int32} {ME : hz_M} (h : f_X10_valve a1 a2 M = some (rE, ME)) : hz_Ct l yX10_valve cX10_valve 3 (some .int) 6 w N [.ref (hz_ad w 0), .int a1, .int a2] M (hz_Qi w N rE ME) := by
  refine hz_ofW (by decide) rfl (Nat.le_of_ble_eq_true rfl) tw_6_84 ?_
  intro p e s m args below meth c hO
  show hz_G p l e 6 hz_z0 s m args below meth c w N 3 _ M 0 [(0, .ref (hz_ad w 0)), (1, .int a1), (2, .int a2)] []
  unfold f_X10_valve at h
  refine hz_aload_n hO dX10_valve_0 rfl 0 rfl ?_
  refine hz_getR (k := 0) hO 1 hz_K_10 hz_sh_0 (hz_lt_0 hN) rfl (Nat.le_of_ble_eq_true rfl) tw_3_28 rfl dX10_valve_1 ?_
  refine hz_iload_n hO dX10_valve_4 rfl 1 rfl ?_
  obtain ⟨r1, M2, hq3, h⟩ := hz_ct_e h
  refine hz_callVi (as := [.int a1]) (rest := []) hO (c_X3_isValve l w hN a1 hq3) hz_cal_X3_isValve hz_K_4 hz_sh_1 (hz_lt_1 hN) tw_5_13 (Nat.le_of_ble_eq_true rfl) rfl rfl (Nat.le_of_ble_eq_true rfl) dX10_valve_5 ?_
  obtain ⟨r4, M5, hq6, h⟩ := hz_ct_e h
  refine hz_callSv (as := [.int r1]) (rest := []) hO (c_X10_need l w hN r1 hq6) hz_cal_X10_need tw_4_61 (Nat.le_of_ble_eq_true rfl) rfl rfl (Nat.le_of_ble_eq_true rfl) dX10_valve_8 ?_
  refine hz_iload_n hO dX10_valve_11 rfl 2 rfl ?_
  obtain ⟨r7, M8, hq9, h⟩ := hz_ct_e h
  refine hz_callSi (as := [.int a2]) (rest := []) hO (c_X10_isOpening l w hN a2 hq9) hz_cal_X10_isOpening tw_5_134 (Nat.le_of_ble_eq_true rfl) rfl rfl (Nat.le_of_ble_eq_true rfl) dX10_valve_12 ?_
  obtain ⟨r10, M11, hq12, h⟩ := hz_ct_e h
  refine hz_callSv (as := [.int r7]) (rest := []) hO (c_X10_need l w hN r7 hq12) hz_cal_X10_need tw_4_61 (Nat.le_of_ble_eq_true rfl) rfl rfl (Nat.le_of_ble_eq_true rfl) dX10_valve_15 ?_
  refine hz_aload_n hO dX10_valve_18 rfl 0 rfl ?_
  refine hz_getsE (k := 8) (x := (9 : Int32)) hO (by decide) rfl (by decide) tw_6_85 rfl dX10_valve_19 ?_
  refine hz_iload_n hO dX10_valve_22 rfl 1 rfl ?_
  refine hz_iload_n hO dX10_valve_23 rfl 2 rfl ?_
  obtain ⟨r13, M14, hq15, h⟩ := hz_ct_e h
  refine hz_callVi (as := [hz_ev w (9 : Int32), .int a1, .int a2]) (rest := []) hO (c_X10_change l w hN (9 : Int32) a1 a2 hq15) hz_cal_X10_change hz_K_10 hz_sh_0 (hz_lt_0 hN) tw_5_150 (Nat.le_of_ble_eq_true rfl) rfl rfl (Nat.le_of_ble_eq_true rfl) dX10_valve_24 ?_
  exact hz_nameM (hz_some_e h).2.symm (hz_name (hz_some_e h).1.symm (hz_iret hO dX10_valve_27))
def f_X10_waits (a1 : Int32) (M : hz_M) : hz_O :=
  hz_jn (fun (v1_1 : Int32) (q2 : Int32) (M3 : hz_M) =>
    hz_ct (f_X10_need q2 M3) fun r4 M5 =>
    hz_ct (f_X10_change (10 : Int32) (0 : Int32) v1_1 M5) fun r7 M8 =>
    some (r7, M8)
    ) fun k10 =>
  hz_jn (fun (v1_11 : Int32) (M12 : hz_M) =>
    k10 v1_11 (0 : Int32) M12
    ) fun k13 =>
  if a1 < (1 : Int32) then
    k13 a1 M
  else
    if (60 : Int32) < a1 then
      k13 a1 M
    else
      k10 a1 (1 : Int32) M
set_option maxRecDepth 100000 in
set_option maxHeartbeats 4000000 in
theorem c_X10_waits (l : Launch) (w : hz_C) {N : Nat} (hN : 178 ≤ N) (a1 : Int32) {M : hz_M} {rE : Int32} {ME : hz_M} (h : f_X10_waits a1 M = some (rE, ME)) : hz_Ct l yX10_waits cX10_waits 2 (some .int) 6 w N [.ref (hz_ad w 0), .int a1] M (hz_Qi w N rE ME) := by
  refine hz_ofW (by decide) rfl (Nat.le_of_ble_eq_true rfl) tw_6_98 ?_
  intro p e s m args below meth c hO
  show hz_G p l e 6 hz_z0 s m args below meth c w N 2 _ M 0 [(0, .ref (hz_ad w 0)), (1, .int a1)] []
  unfold f_X10_waits at h
  refine hz_iload_n hO dX10_waits_0 rfl 1 rfl ?_
  refine hz_iconst (v := (1 : Int32)) hO dX10_waits_1 (by decide) ?_
  obtain ⟨k10, hk10, h⟩ := hz_jn_e h
  have gk10 : ∀ (v1_1 : Int32) (q2 : Int32) (M3 : hz_M), k10 v1_1 q2 M3 = some (rE, ME) → hz_G p l e 6 hz_z0 s m args below meth c w N 2 (MQ below (hz_Qi w N rE ME) args s 0 0 (hz_A w)) M3 16 [(0, .ref (hz_ad w 0)), (1, .int v1_1)] [.int q2] := by
    intro v1_1 q2 M3 h
    rw [hk10] at h
    dsimp only at h
    obtain ⟨r4, M5, hq6, h⟩ := hz_ct_e h
    refine hz_callSv (as := [.int q2]) (rest := []) hO (c_X10_need l w hN q2 hq6) hz_cal_X10_need tw_4_61 (Nat.le_of_ble_eq_true rfl) rfl rfl (Nat.le_of_ble_eq_true rfl) dX10_waits_16 ?_
    refine hz_aload_n hO dX10_waits_19 rfl 0 rfl ?_
    refine hz_getsE (k := 9) (x := (10 : Int32)) hO (by decide) rfl (by decide) tw_6_99 rfl dX10_waits_20 ?_
    refine hz_iconst (v := (0 : Int32)) hO dX10_waits_23 (by decide) ?_
    refine hz_iload_n hO dX10_waits_24 rfl 1 rfl ?_
    obtain ⟨r7, M8, hq9, h⟩ := hz_ct_e h
    refine hz_callVi (as := [hz_ev w (10 : Int32), .int (0 : Int32), .int v1_1]) (rest := []) hO (c_X10_change l w hN (10 : Int32) (0 : Int32) v1_1 hq9) hz_cal_X10_change hz_K_10 hz_sh_0 (hz_lt_0 hN) tw_5_150 (Nat.le_of_ble_eq_true rfl) rfl rfl (Nat.le_of_ble_eq_true rfl) dX10_waits_25 ?_
    exact hz_nameM (hz_some_e h).2.symm (hz_name (hz_some_e h).1.symm (hz_iret hO dX10_waits_28))
  clear hk10
  obtain ⟨k13, hk13, h⟩ := hz_jn_e h
  have gk13 : ∀ (v1_11 : Int32) (M12 : hz_M), k13 v1_11 M12 = some (rE, ME) → hz_G p l e 6 hz_z0 s m args below meth c w N 2 (MQ below (hz_Qi w N rE ME) args s 0 0 (hz_A w)) M12 15 [(0, .ref (hz_ad w 0)), (1, .int v1_11)] [] := by
    intro v1_11 M12 h
    rw [hk13] at h
    dsimp only at h
    refine hz_iconst (v := (0 : Int32)) hO dX10_waits_15 (by decide) ?_
    exact hz_ls [0, 1] rfl (gk10 v1_11 (0 : Int32) M12 h)
  clear hk13
  refine hz_icmp_lt (tgt := 15) hO dX10_waits_2 (by decide) (fun hc14 => ?_) (fun hc14 => ?_)
  · rw [if_pos hc14] at h
    exact hz_ls [0, 1] rfl (gk13 a1 M h)
  · rw [if_neg hc14] at h
    refine hz_iload_n hO dX10_waits_5 rfl 1 rfl ?_
    refine hz_bipush (v := (60 : Int32)) hO dX10_waits_6 (by decide) ?_
    refine hz_icmp_gt (tgt := 15) hO dX10_waits_8 (by decide) (fun hc15 => ?_) (fun hc15 => ?_)
    · rw [if_pos hc15] at h
      exact hz_ls [0, 1] rfl (gk13 a1 M h)
    · rw [if_neg hc15] at h
      refine hz_iconst (v := (1 : Int32)) hO dX10_waits_11 (by decide) ?_
      refine hz_goto (tgt := 16) hO dX10_waits_12 (by decide) ?_
      exact hz_ls [0, 1] rfl (gk10 a1 (1 : Int32) M h)
def f_X3_read_L106 (th : Nat) (kk145 : hz_M → hz_O) : Nat → Int32 → hz_M → hz_O
  | 0, _, _ => none
  | n + 1, v2_45, M46 =>
    if (16 : Int32) < v2_45 then
      kk145 M46
    else
      if (M46 9 6) = 0 then
        if (M46 9 2) = (59 : Int32) then
          hz_ct (f_X8_needSign (59 : Int32) M46) fun r50 M51 =>
          hz_ct (f_X3_readGuest th M51) fun r53 M54 =>
          hz_lt (v2_45 + (1 : Int32)) fun x56 =>
          f_X3_read_L106 th kk145 n x56 M54
        else
          kk145 M46
      else
        kk145 M46
def f_X3_read (th : Nat) (M : hz_M) : hz_O :=
  hz_lm (hz_set M th 3 (0 : Int32)) fun M1 =>
  hz_ct (f_X8_rewind M1) fun r2 M3 =>
  hz_ct (f_X8_needWord 1 M3) fun r5 M6 =>
  hz_ct (f_X8_needNumber (1 : Int32) (12 : Int32) M6) fun r8 M9 =>
  hz_lm (hz_set M9 th 4 r8) fun M11 =>
  hz_ct (f_X8_needNumber (1 : Int32) (16 : Int32) M11) fun r12 M13 =>
  hz_lm (hz_set M13 th 5 r12) fun M15 =>
  hz_ct (f_X8_needNumber (0 : Int32) (M15 th 5) M15) fun r16 M17 =>
  hz_lm (hz_set M17 th 6 r16) fun M19 =>
  hz_ct (f_X8_needNumber (1 : Int32) (4 : Int32) M19) fun r20 M21 =>
  hz_lm (hz_set M21 th 7 r20) fun M23 =>
  hz_ct (f_X8_needNumber (1 : Int32) (6 : Int32) M23) fun r24 M25 =>
  hz_lm (hz_set M25 th 8 r24) fun M27 =>
  hz_ct (f_X8_needNumber (1 : Int32) (9 : Int32) M27) fun r28 M29 =>
  hz_lm (hz_set M29 th 9 r28) fun M31 =>
  hz_ct (f_X8_needNumber (2 : Int32) (60 : Int32) M31) fun r32 M33 =>
  hz_lm (hz_set M33 th 10 r32) fun M35 =>
  hz_ct (f_X8_needNumber (0 : Int32) (30 : Int32) M35) fun r36 M37 =>
  hz_lm (hz_set M37 th 11 r36) fun M39 =>
  hz_jn (fun  (M40 : hz_M) =>
    hz_ct (f_X8_needEnd M40) fun r41 M42 =>
    some (0, M42)
    ) fun k44 =>
  f_X3_read_L106 th k44 hz_FU (0 : Int32) M39
set_option maxRecDepth 100000 in
set_option maxHeartbeats 4000000 in
theorem g_X3_read_L106 {p : Program} {l : Launch} {e : Env} {s : State} {m : MethodId} {args : Array Value} {below : List Frame} {meth : Method} {c : Code} {w : hz_C} {N : Nat} (hN : 178 ≤ N) {th : Nat} (hHo : hz_Ho N th) {rE : Int32} {ME : hz_M} (hO : hz_Ok p s m args meth c w cX3_read 3 RX3 none) (kk145 : hz_M → hz_O) (gkk145 : ∀  (M : hz_M), kk145 M = some (rE, ME) → hz_G p l e 7 hz_z0 s m args below meth c w N 3 (MQ below (hz_Qv w N ME) args s 0 0 (hz_A w)) M 145 [(1, .ref (hz_ad w 9))] []) : ∀ (n : Nat) (v2_45 : Int32) (M46 : hz_M), f_X3_read_L106 th kk145 n v2_45 M46 = some (rE, ME) → hz_G p l e 7 hz_z0 s m args below meth c w N 3 (MQ below (hz_Qv w N ME) args s 0 0 (hz_A w)) M46 106 [(0, .ref (hz_ad w th)), (1, .ref (hz_ad w 9)), (2, .int v2_45)] [] := by
  intro n
  induction n with
  | zero =>
    intro v2_45 M46 h
    rw [f_X3_read_L106] at h
    cases h
  | succ n ih =>
    intro v2_45 M46 h
    rw [f_X3_read_L106] at h
    refine hz_iload_n hO dX3_read_106 rfl 2 rfl ?_
    refine hz_bipush (v := (16 : Int32)) hO dX3_read_107 (by decide) ?_
    refine hz_icmp_gt (tgt := 145) hO dX3_read_109 (by decide) (fun hc47 => ?_) (fun hc47 => ?_)
    · rw [if_pos hc47] at h
      exact hz_ls [1] rfl (gkk145 M46 h)
    · rw [if_neg hc47] at h
      refine hz_aload_n hO dX3_read_112 rfl 1 rfl ?_
      refine hz_getI (k := 6) hO hz_K_8 hz_sh_9 (hz_lt_9 hN) rfl (Nat.le_of_ble_eq_true rfl) tw_1_119 rfl dX3_read_113 ?_
      refine hz_if_ne (tgt := 145) hO dX3_read_116 (by decide) (fun hc48 => ?_) (fun hc48 => ?_)
      · rw [if_neg hc48] at h
        exact hz_ls [1] rfl (gkk145 M46 h)
      · rw [if_pos hc48] at h
        refine hz_aload_n hO dX3_read_119 rfl 1 rfl ?_
        refine hz_getI (k := 2) hO hz_K_8 hz_sh_9 (hz_lt_9 hN) rfl (Nat.le_of_ble_eq_true rfl) tw_1_111 rfl dX3_read_120 ?_
        refine hz_bipush (v := (59 : Int32)) hO dX3_read_123 (by decide) ?_
        refine hz_icmp_ne (tgt := 145) hO dX3_read_125 (by decide) (fun hc49 => ?_) (fun hc49 => ?_)
        · rw [if_neg hc49] at h
          exact hz_ls [1] rfl (gkk145 M46 h)
        · rw [if_pos hc49] at h
          refine hz_aload_n hO dX3_read_128 rfl 1 rfl ?_
          refine hz_bipush (v := (59 : Int32)) hO dX3_read_129 (by decide) ?_
          obtain ⟨r50, M51, hq52, h⟩ := hz_ct_e h
          refine hz_callVv (as := [.int (59 : Int32)]) (rest := []) hO (c_X8_needSign l w hN (59 : Int32) hq52) hz_cal_X8_needSign hz_K_8 hz_sh_9 (hz_lt_9 hN) tw_2_219 (Nat.le_of_ble_eq_true rfl) rfl rfl (Nat.le_of_ble_eq_true rfl) dX3_read_131 ?_
          refine hz_aload_n hO dX3_read_134 rfl 0 rfl ?_
          refine hz_aload_n hO dX3_read_135 rfl 1 rfl ?_
          obtain ⟨r53, M54, hq55, h⟩ := hz_ct_e h
          refine hz_callVv (as := [.ref (hz_ad w 9)]) (rest := []) hO (c_X3_readGuest l w hN hHo hq55) hz_cal_X3_readGuest hz_K_4 hHo.1 hHo.2.1 tw_2_223 (Nat.le_of_ble_eq_true rfl) rfl rfl (Nat.le_of_ble_eq_true rfl) dX3_read_136 ?_
          obtain ⟨x56, h_x56, h⟩ := hz_lt_e h
          refine hz_iinc (k := 2) (v := x56) (ls1 := [(2, .int x56), (0, .ref (hz_ad w th)), (1, .ref (hz_ad w 9))]) hO dX3_read_139 rfl (by rw [h_x56]; rfl) (Nat.le_of_ble_eq_true rfl) rfl ?_
          refine hz_goto (tgt := 106) hO dX3_read_142 (by decide) ?_
          exact hz_ls [1, 2, 0] rfl (ih x56 M54 h)
set_option maxRecDepth 100000 in
set_option maxHeartbeats 4000000 in
theorem c_X3_read (l : Launch) (w : hz_C) {N : Nat} (hN : 178 ≤ N) {th : Nat} (hHo : hz_Ho N th) {M : hz_M} {rE : Int32} {ME : hz_M} (h : f_X3_read th M = some (rE, ME)) : hz_Ct l yX3_read cX3_read 3 none 7 w N [.ref (hz_ad w th), .ref (hz_ad w 9)] M (hz_Qv w N ME) := by
  refine hz_ofW (by decide) rfl (Nat.le_of_ble_eq_true rfl) tw_2_170 ?_
  intro p e s m args below meth c hO
  show hz_G p l e 7 hz_z0 s m args below meth c w N 3 _ M 0 [(0, .ref (hz_ad w th)), (1, .ref (hz_ad w 9))] []
  unfold f_X3_read at h
  refine hz_aload_n hO dX3_read_0 rfl 0 rfl ?_
  refine hz_iconst (v := (0 : Int32)) hO dX3_read_1 (by decide) ?_
  obtain ⟨M1, h_M1, h⟩ := hz_lm_e h
  refine hz_putI (k := 3) (ty := .int) hO hz_K_4 tyX3_ok nmX3 hHo.1 hHo.2.1 rfl (Nat.le_of_ble_eq_true rfl) tw_1_51 rfl rfl rfl rfl rfl dX3_read_2 ?_
  refine hz_nameM h_M1 ?_
  refine hz_aload_n hO dX3_read_5 rfl 1 rfl ?_
  obtain ⟨r2, M3, hq4, h⟩ := hz_ct_e h
  refine hz_callVv (as := []) (rest := []) hO (c_X8_rewind l w hN hq4) hz_cal_X8_rewind hz_K_8 hz_sh_9 (hz_lt_9 hN) tw_2_171 (Nat.le_of_ble_eq_true rfl) rfl rfl (Nat.le_of_ble_eq_true rfl) dX3_read_6 ?_
  refine hz_aload_n hO dX3_read_9 rfl 1 rfl ?_
  refine hz_ldcS (i := 1) hO (List.mem_of_getElem? (i := 1) rfl) dX3_read_10 ?_
  obtain ⟨r5, M6, hq7, h⟩ := hz_ct_e h
  refine hz_callVv (as := [.ref (hz_sa w 1)]) (rest := []) hO (c_X8_needWord l w hN 1 hq7) hz_cal_X8_needWord hz_K_8 hz_sh_9 (hz_lt_9 hN) tw_2_199 (Nat.le_of_ble_eq_true rfl) rfl rfl (Nat.le_of_ble_eq_true rfl) dX3_read_12 ?_
  refine hz_aload_n hO dX3_read_15 rfl 0 rfl ?_
  refine hz_aload_n hO dX3_read_16 rfl 1 rfl ?_
  refine hz_iconst (v := (1 : Int32)) hO dX3_read_17 (by decide) ?_
  refine hz_bipush (v := (12 : Int32)) hO dX3_read_18 (by decide) ?_
  obtain ⟨r8, M9, hq10, h⟩ := hz_ct_e h
  refine hz_callVi (as := [.int (1 : Int32), .int (12 : Int32)]) (rest := [.ref (hz_ad w th)]) hO (c_X8_needNumber l w hN (1 : Int32) (12 : Int32) hq10) hz_cal_X8_needNumber hz_K_8 hz_sh_9 (hz_lt_9 hN) tw_2_215 (Nat.le_of_ble_eq_true rfl) rfl rfl (Nat.le_of_ble_eq_true rfl) dX3_read_20 ?_
  obtain ⟨M11, h_M11, h⟩ := hz_lm_e h
  refine hz_putI (k := 4) (ty := .int) hO hz_K_4 tyX3_ok nmX3 hHo.1 hHo.2.1 rfl (Nat.le_of_ble_eq_true rfl) tw_1_54 rfl rfl rfl rfl rfl dX3_read_23 ?_
  refine hz_nameM h_M11 ?_
  refine hz_aload_n hO dX3_read_26 rfl 0 rfl ?_
  refine hz_aload_n hO dX3_read_27 rfl 1 rfl ?_
  refine hz_iconst (v := (1 : Int32)) hO dX3_read_28 (by decide) ?_
  refine hz_bipush (v := (16 : Int32)) hO dX3_read_29 (by decide) ?_
  obtain ⟨r12, M13, hq14, h⟩ := hz_ct_e h
  refine hz_callVi (as := [.int (1 : Int32), .int (16 : Int32)]) (rest := [.ref (hz_ad w th)]) hO (c_X8_needNumber l w hN (1 : Int32) (16 : Int32) hq14) hz_cal_X8_needNumber hz_K_8 hz_sh_9 (hz_lt_9 hN) tw_2_215 (Nat.le_of_ble_eq_true rfl) rfl rfl (Nat.le_of_ble_eq_true rfl) dX3_read_31 ?_
  obtain ⟨M15, h_M15, h⟩ := hz_lm_e h
  refine hz_putI (k := 5) (ty := .int) hO hz_K_4 tyX3_ok nmX3 hHo.1 hHo.2.1 rfl (Nat.le_of_ble_eq_true rfl) tw_1_58 rfl rfl rfl rfl rfl dX3_read_34 ?_
  refine hz_nameM h_M15 ?_
  refine hz_aload_n hO dX3_read_37 rfl 0 rfl ?_
  refine hz_aload_n hO dX3_read_38 rfl 1 rfl ?_
  refine hz_iconst (v := (0 : Int32)) hO dX3_read_39 (by decide) ?_
  refine hz_aload_n hO dX3_read_40 rfl 0 rfl ?_
  refine hz_getI (k := 5) hO hz_K_4 hHo.1 hHo.2.1 rfl (Nat.le_of_ble_eq_true rfl) tw_1_58 rfl dX3_read_41 ?_
  obtain ⟨r16, M17, hq18, h⟩ := hz_ct_e h
  refine hz_callVi (as := [.int (0 : Int32), .int (M15 th 5)]) (rest := [.ref (hz_ad w th)]) hO (c_X8_needNumber l w hN (0 : Int32) (M15 th 5) hq18) hz_cal_X8_needNumber hz_K_8 hz_sh_9 (hz_lt_9 hN) tw_2_215 (Nat.le_of_ble_eq_true rfl) rfl rfl (Nat.le_of_ble_eq_true rfl) dX3_read_44 ?_
  obtain ⟨M19, h_M19, h⟩ := hz_lm_e h
  refine hz_putI (k := 6) (ty := .int) hO hz_K_4 tyX3_ok nmX3 hHo.1 hHo.2.1 rfl (Nat.le_of_ble_eq_true rfl) tw_1_61 rfl rfl rfl rfl rfl dX3_read_47 ?_
  refine hz_nameM h_M19 ?_
  refine hz_aload_n hO dX3_read_50 rfl 0 rfl ?_
  refine hz_aload_n hO dX3_read_51 rfl 1 rfl ?_
  refine hz_iconst (v := (1 : Int32)) hO dX3_read_52 (by decide) ?_
  refine hz_iconst (v := (4 : Int32)) hO dX3_read_53 (by decide) ?_
  obtain ⟨r20, M21, hq22, h⟩ := hz_ct_e h
  refine hz_callVi (as := [.int (1 : Int32), .int (4 : Int32)]) (rest := [.ref (hz_ad w th)]) hO (c_X8_needNumber l w hN (1 : Int32) (4 : Int32) hq22) hz_cal_X8_needNumber hz_K_8 hz_sh_9 (hz_lt_9 hN) tw_2_215 (Nat.le_of_ble_eq_true rfl) rfl rfl (Nat.le_of_ble_eq_true rfl) dX3_read_54 ?_
  obtain ⟨M23, h_M23, h⟩ := hz_lm_e h
  refine hz_putI (k := 7) (ty := .int) hO hz_K_4 tyX3_ok nmX3 hHo.1 hHo.2.1 rfl (Nat.le_of_ble_eq_true rfl) tw_1_65 rfl rfl rfl rfl rfl dX3_read_57 ?_
  refine hz_nameM h_M23 ?_
  refine hz_aload_n hO dX3_read_60 rfl 0 rfl ?_
  refine hz_aload_n hO dX3_read_61 rfl 1 rfl ?_
  refine hz_iconst (v := (1 : Int32)) hO dX3_read_62 (by decide) ?_
  refine hz_bipush (v := (6 : Int32)) hO dX3_read_63 (by decide) ?_
  obtain ⟨r24, M25, hq26, h⟩ := hz_ct_e h
  refine hz_callVi (as := [.int (1 : Int32), .int (6 : Int32)]) (rest := [.ref (hz_ad w th)]) hO (c_X8_needNumber l w hN (1 : Int32) (6 : Int32) hq26) hz_cal_X8_needNumber hz_K_8 hz_sh_9 (hz_lt_9 hN) tw_2_215 (Nat.le_of_ble_eq_true rfl) rfl rfl (Nat.le_of_ble_eq_true rfl) dX3_read_65 ?_
  obtain ⟨M27, h_M27, h⟩ := hz_lm_e h
  refine hz_putI (k := 8) (ty := .int) hO hz_K_4 tyX3_ok nmX3 hHo.1 hHo.2.1 rfl (Nat.le_of_ble_eq_true rfl) tw_1_68 rfl rfl rfl rfl rfl dX3_read_68 ?_
  refine hz_nameM h_M27 ?_
  refine hz_aload_n hO dX3_read_71 rfl 0 rfl ?_
  refine hz_aload_n hO dX3_read_72 rfl 1 rfl ?_
  refine hz_iconst (v := (1 : Int32)) hO dX3_read_73 (by decide) ?_
  refine hz_bipush (v := (9 : Int32)) hO dX3_read_74 (by decide) ?_
  obtain ⟨r28, M29, hq30, h⟩ := hz_ct_e h
  refine hz_callVi (as := [.int (1 : Int32), .int (9 : Int32)]) (rest := [.ref (hz_ad w th)]) hO (c_X8_needNumber l w hN (1 : Int32) (9 : Int32) hq30) hz_cal_X8_needNumber hz_K_8 hz_sh_9 (hz_lt_9 hN) tw_2_215 (Nat.le_of_ble_eq_true rfl) rfl rfl (Nat.le_of_ble_eq_true rfl) dX3_read_76 ?_
  obtain ⟨M31, h_M31, h⟩ := hz_lm_e h
  refine hz_putI (k := 9) (ty := .int) hO hz_K_4 tyX3_ok nmX3 hHo.1 hHo.2.1 rfl (Nat.le_of_ble_eq_true rfl) tw_1_71 rfl rfl rfl rfl rfl dX3_read_79 ?_
  refine hz_nameM h_M31 ?_
  refine hz_aload_n hO dX3_read_82 rfl 0 rfl ?_
  refine hz_aload_n hO dX3_read_83 rfl 1 rfl ?_
  refine hz_iconst (v := (2 : Int32)) hO dX3_read_84 (by decide) ?_
  refine hz_bipush (v := (60 : Int32)) hO dX3_read_85 (by decide) ?_
  obtain ⟨r32, M33, hq34, h⟩ := hz_ct_e h
  refine hz_callVi (as := [.int (2 : Int32), .int (60 : Int32)]) (rest := [.ref (hz_ad w th)]) hO (c_X8_needNumber l w hN (2 : Int32) (60 : Int32) hq34) hz_cal_X8_needNumber hz_K_8 hz_sh_9 (hz_lt_9 hN) tw_2_215 (Nat.le_of_ble_eq_true rfl) rfl rfl (Nat.le_of_ble_eq_true rfl) dX3_read_87 ?_
  obtain ⟨M35, h_M35, h⟩ := hz_lm_e h
  refine hz_putI (k := 10) (ty := .int) hO hz_K_4 tyX3_ok nmX3 hHo.1 hHo.2.1 rfl (Nat.le_of_ble_eq_true rfl) tw_1_73 rfl rfl rfl rfl rfl dX3_read_90 ?_
  refine hz_nameM h_M35 ?_
  refine hz_aload_n hO dX3_read_93 rfl 0 rfl ?_
  refine hz_aload_n hO dX3_read_94 rfl 1 rfl ?_
  refine hz_iconst (v := (0 : Int32)) hO dX3_read_95 (by decide) ?_
  refine hz_bipush (v := (30 : Int32)) hO dX3_read_96 (by decide) ?_
  obtain ⟨r36, M37, hq38, h⟩ := hz_ct_e h
  refine hz_callVi (as := [.int (0 : Int32), .int (30 : Int32)]) (rest := [.ref (hz_ad w th)]) hO (c_X8_needNumber l w hN (0 : Int32) (30 : Int32) hq38) hz_cal_X8_needNumber hz_K_8 hz_sh_9 (hz_lt_9 hN) tw_2_215 (Nat.le_of_ble_eq_true rfl) rfl rfl (Nat.le_of_ble_eq_true rfl) dX3_read_98 ?_
  obtain ⟨M39, h_M39, h⟩ := hz_lm_e h
  refine hz_putI (k := 11) (ty := .int) hO hz_K_4 tyX3_ok nmX3 hHo.1 hHo.2.1 rfl (Nat.le_of_ble_eq_true rfl) tw_1_75 rfl rfl rfl rfl rfl dX3_read_101 ?_
  refine hz_nameM h_M39 ?_
  refine hz_iconst (v := (0 : Int32)) hO dX3_read_104 (by decide) ?_
  refine hz_istore_n (ls1 := [(2, .int (0 : Int32)), (0, .ref (hz_ad w th)), (1, .ref (hz_ad w 9))]) hO dX3_read_105 rfl (Nat.le_of_ble_eq_true rfl) rfl ?_
  obtain ⟨k44, hk44, h⟩ := hz_jn_e h
  have gk44 : ∀  (M40 : hz_M), k44 M40 = some (rE, ME) → hz_G p l e 7 hz_z0 s m args below meth c w N 3 (MQ below (hz_Qv w N ME) args s 0 0 (hz_A w)) M40 145 [(1, .ref (hz_ad w 9))] [] := by
    intro M40 h
    rw [hk44] at h
    dsimp only at h
    refine hz_aload_n hO dX3_read_145 rfl 0 rfl ?_
    obtain ⟨r41, M42, hq43, h⟩ := hz_ct_e h
    refine hz_callVv (as := []) (rest := []) hO (c_X8_needEnd l w hN hq43) hz_cal_X8_needEnd hz_K_8 hz_sh_9 (hz_lt_9 hN) tw_3_9 (Nat.le_of_ble_eq_true rfl) rfl rfl (Nat.le_of_ble_eq_true rfl) dX3_read_146 ?_
    exact hz_nameM (hz_some_e h).2.symm (hz_vret hO dX3_read_149)
  clear hk44
  exact hz_ls [1, 2, 0] rfl (g_X3_read_L106 hN hHo hO _ gk44 _ (0 : Int32) M39 h)
def f_X10_load (M : hz_M) : hz_O :=
  hz_ct (f_X3_read 5 M) fun r1 M2 =>
  hz_ct (f_X10_endReading M2) fun r4 M5 =>
  if (M5 9 6) = 0 then
    hz_ct (f_X3_copyFrom M5) fun r8 M9 =>
    hz_ct (f_X7_begin M9) fun r11 M12 =>
    hz_lm (hz_set M12 26 3 (0 : Int32)) fun M14 =>
    hz_ct (f_X2_forgetAll M14) fun r15 M16 =>
    some ((M16 1 3), M16)
  else
    some (((-20 : Int32) - (M5 9 6)), M5)
set_option maxRecDepth 100000 in
set_option maxHeartbeats 4000000 in
theorem c_X10_load (l : Launch) (w : hz_C) {N : Nat} (hN : 178 ≤ N) {M : hz_M} {rE : Int32} {ME : hz_M} (h : f_X10_load M = some (rE, ME)) : hz_Ct l yX10_load cX10_load 1 (some .int) 8 w N [.ref (hz_ad w 0)] M (hz_Qi w N rE ME) := by
  refine hz_ofW (by decide) rfl (Nat.le_of_ble_eq_true rfl) tw_7_125 ?_
  intro p e s m args below meth c hO
  show hz_G p l e 8 hz_z0 s m args below meth c w N 1 _ M 0 [(0, .ref (hz_ad w 0))] []
  unfold f_X10_load at h
  refine hz_aload_n hO dX10_load_0 rfl 0 rfl ?_
  refine hz_getR (k := 1) hO 5 hz_K_10 hz_sh_0 (hz_lt_0 hN) rfl (Nat.le_of_ble_eq_true rfl) tw_3_29 rfl dX10_load_1 ?_
  refine hz_aload_n hO dX10_load_4 rfl 0 rfl ?_
  refine hz_getR (k := 2) hO 9 hz_K_10 hz_sh_0 (hz_lt_0 hN) rfl (Nat.le_of_ble_eq_true rfl) tw_3_30 rfl dX10_load_5 ?_
  obtain ⟨r1, M2, hq3, h⟩ := hz_ct_e h
  refine hz_callVv (as := [.ref (hz_ad w 9)]) (rest := []) hO (c_X3_read l w hN (hz_ho_5 hN) hq3) hz_cal_X3_read hz_K_4 hz_sh_5 (hz_lt_5 hN) tw_2_167 (Nat.le_of_ble_eq_true rfl) rfl rfl (Nat.le_of_ble_eq_true rfl) dX10_load_8 ?_
  refine hz_aload_n hO dX10_load_11 rfl 0 rfl ?_
  obtain ⟨r4, M5, hq6, h⟩ := hz_ct_e h
  refine hz_callVv (as := []) (rest := []) hO (c_X10_endReading l w hN hq6) hz_cal_X10_endReading hz_K_10 hz_sh_0 (hz_lt_0 hN) tw_7_126 (Nat.le_of_ble_eq_true rfl) rfl rfl (Nat.le_of_ble_eq_true rfl) dX10_load_12 ?_
  refine hz_aload_n hO dX10_load_15 rfl 0 rfl ?_
  refine hz_getR (k := 2) hO 9 hz_K_10 hz_sh_0 (hz_lt_0 hN) rfl (Nat.le_of_ble_eq_true rfl) tw_3_30 rfl dX10_load_16 ?_
  refine hz_getI (k := 6) hO hz_K_8 hz_sh_9 (hz_lt_9 hN) rfl (Nat.le_of_ble_eq_true rfl) tw_1_118 rfl dX10_load_19 ?_
  refine hz_if_eq (tgt := 36) hO dX10_load_22 (by decide) (fun hc7 => ?_) (fun hc7 => ?_)
  · rw [if_pos hc7] at h
    refine hz_aload_n hO dX10_load_36 rfl 0 rfl ?_
    refine hz_getR (k := 0) hO 1 hz_K_10 hz_sh_0 (hz_lt_0 hN) rfl (Nat.le_of_ble_eq_true rfl) tw_3_28 rfl dX10_load_37 ?_
    refine hz_aload_n hO dX10_load_40 rfl 0 rfl ?_
    refine hz_getR (k := 1) hO 5 hz_K_10 hz_sh_0 (hz_lt_0 hN) rfl (Nat.le_of_ble_eq_true rfl) tw_3_29 rfl dX10_load_41 ?_
    obtain ⟨r8, M9, hq10, h⟩ := hz_ct_e h
    refine hz_callVv (as := [.ref (hz_ad w 5)]) (rest := []) hO (c_X3_copyFrom l w hN hq10) hz_cal_X3_copyFrom hz_K_4 hz_sh_1 (hz_lt_1 hN) tw_7_130 (Nat.le_of_ble_eq_true rfl) rfl rfl (Nat.le_of_ble_eq_true rfl) dX10_load_44 ?_
    refine hz_aload_n hO dX10_load_47 rfl 0 rfl ?_
    refine hz_getR (k := 3) hO 11 hz_K_10 hz_sh_0 (hz_lt_0 hN) rfl (Nat.le_of_ble_eq_true rfl) tw_3_31 rfl dX10_load_48 ?_
    obtain ⟨r11, M12, hq13, h⟩ := hz_ct_e h
    refine hz_callVv (as := []) (rest := []) hO (c_X7_begin l w hN hq13) hz_cal_X7_begin hz_K_7 hz_sh_11 (hz_lt_11 hN) tw_3_17 (Nat.le_of_ble_eq_true rfl) rfl rfl (Nat.le_of_ble_eq_true rfl) dX10_load_51 ?_
    refine hz_aload_n hO dX10_load_54 rfl 0 rfl ?_
    refine hz_getR (k := 5) hO 26 hz_K_10 hz_sh_0 (hz_lt_0 hN) rfl (Nat.le_of_ble_eq_true rfl) tw_3_33 rfl dX10_load_55 ?_
    refine hz_iconst (v := (0 : Int32)) hO dX10_load_58 (by decide) ?_
    obtain ⟨M14, h_M14, h⟩ := hz_lm_e h
    refine hz_putI (k := 3) (ty := .int) hO hz_K_2 tyX1_ok nmX1 hz_sh_26 (hz_lt_26 hN) rfl (Nat.le_of_ble_eq_true rfl) tw_2_25 rfl rfl rfl rfl rfl dX10_load_59 ?_
    refine hz_nameM h_M14 ?_
    refine hz_aload_n hO dX10_load_62 rfl 0 rfl ?_
    refine hz_getR (k := 7) hO 32 hz_K_10 hz_sh_0 (hz_lt_0 hN) rfl (Nat.le_of_ble_eq_true rfl) tw_3_35 rfl dX10_load_63 ?_
    obtain ⟨r15, M16, hq17, h⟩ := hz_ct_e h
    refine hz_callVv (as := []) (rest := []) hO (c_X2_forgetAll l w hN hq17) hz_cal_X2_forgetAll hz_K_3 hz_sh_32 (hz_lt_32 hN) tw_7_135 (Nat.le_of_ble_eq_true rfl) rfl rfl (Nat.le_of_ble_eq_true rfl) dX10_load_66 ?_
    refine hz_aload_n hO dX10_load_69 rfl 0 rfl ?_
    refine hz_getR (k := 0) hO 1 hz_K_10 hz_sh_0 (hz_lt_0 hN) rfl (Nat.le_of_ble_eq_true rfl) tw_3_28 rfl dX10_load_70 ?_
    refine hz_getI (k := 3) hO hz_K_4 hz_sh_1 (hz_lt_1 hN) rfl (Nat.le_of_ble_eq_true rfl) tw_1_52 rfl dX10_load_73 ?_
    exact hz_nameM (hz_some_e h).2.symm (hz_name (hz_some_e h).1.symm (hz_iret hO dX10_load_76))
  · rw [if_neg hc7] at h
    refine hz_bipush (v := (-20 : Int32)) hO dX10_load_25 (by decide) ?_
    refine hz_aload_n hO dX10_load_27 rfl 0 rfl ?_
    refine hz_getR (k := 2) hO 9 hz_K_10 hz_sh_0 (hz_lt_0 hN) rfl (Nat.le_of_ble_eq_true rfl) tw_3_30 rfl dX10_load_28 ?_
    refine hz_getI (k := 6) hO hz_K_8 hz_sh_9 (hz_lt_9 hN) rfl (Nat.le_of_ble_eq_true rfl) tw_1_118 rfl dX10_load_31 ?_
    refine hz_isub hO dX10_load_34 ?_
    exact hz_nameM (hz_some_e h).2.symm (hz_name (hz_some_e h).1.symm (hz_iret hO dX10_load_35))
