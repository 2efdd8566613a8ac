-- X10_errorPosition X10_driest X10_gap X10_silenceIn X10_reportByte X10_isOpening X10_isSetting X10_endReading X10_feed X10_find X10_report
def f_X10_errorPosition (M : hz_M) : hz_O :=
  some ((M 0 9), M)
set_option maxRecDepth 100000 in
set_option maxHeartbeats 4000000 in
theorem c_X10_errorPosition (l : Launch) (w : hz_C) {N : Nat} (hN : 178 ≤ N) {M : hz_M} {rE : Int32} {ME : hz_M} (h : f_X10_errorPosition M = some (rE, ME)) : hz_Ct l yX10_errorPosition cX10_errorPosition 1 (some .int) 0 w N [.ref (hz_ad w 0)] M (hz_Qi w N rE ME) := by
  refine hz_ofW (by decide) rfl (Nat.le_of_ble_eq_true rfl) tw_4_137 ?_
  intro p e s m args below meth c hO
  show hz_G p l e 0 hz_z0 s m args below meth c w N 1 _ M 0 [(0, .ref (hz_ad w 0))] []
  unfold f_X10_errorPosition at h
  refine hz_aload_n hO dX10_errorPosition_0 rfl 0 rfl ?_
  refine hz_getI (k := 9) hO hz_K_8 hz_sh_0 (hz_lt_0 hN) rfl (Nat.le_of_ble_eq_true rfl) tw_3_52 rfl dX10_errorPosition_1 ?_
  exact hz_nameM (hz_some_e h).2.symm (hz_name (hz_some_e h).1.symm (hz_iret hO dX10_errorPosition_4))
def f_X10_driest (M : hz_M) : hz_O :=
  hz_ct (f_X7_driestOnPegs M) fun r1 M2 =>
  some (r1, M2)
set_option maxRecDepth 100000 in
set_option maxHeartbeats 4000000 in
theorem c_X10_driest (l : Launch) (w : hz_C) {N : Nat} (hN : 178 ≤ N) {M : hz_M} {rE : Int32} {ME : hz_M} (h : f_X10_driest M = some (rE, ME)) : hz_Ct l yX10_driest cX10_driest 1 (some .int) 1 w N [.ref (hz_ad w 0)] M (hz_Qi w N rE ME) := by
  refine hz_ofW (by decide) rfl (Nat.le_of_ble_eq_true rfl) tw_4_141 ?_
  intro p e s m args below meth c hO
  show hz_G p l e 1 hz_z0 s m args below meth c w N 1 _ M 0 [(0, .ref (hz_ad w 0))] []
  unfold f_X10_driest at h
  refine hz_aload_n hO dX10_driest_0 rfl 0 rfl ?_
  refine hz_getR (k := 3) hO 11 hz_K_8 hz_sh_0 (hz_lt_0 hN) rfl (Nat.le_of_ble_eq_true rfl) tw_3_46 rfl dX10_driest_1 ?_
  obtain ⟨r1, M2, hq3, h⟩ := hz_ct_e h
  refine hz_callVi (as := []) (rest := []) hO (c_X7_driestOnPegs l w hN hq3) hz_cal_X7_driestOnPegs hz_K_5 hz_sh_11 (hz_lt_11 hN) tw_4_142 (Nat.le_of_ble_eq_true rfl) rfl rfl (Nat.le_of_ble_eq_true rfl) dX10_driest_4 ?_
  exact hz_nameM (hz_some_e h).2.symm (hz_name (hz_some_e h).1.symm (hz_iret hO dX10_driest_7))
def f_X10_gap (M : hz_M) : hz_O :=
  hz_ct (f_X7_guestsInside M) fun r1 M2 =>
  hz_ct (f_X7_towelsOnPegs M2) fun r4 M5 =>
  hz_ct (f_X7_towelsWithGuests M5) fun r7 M8 =>
  hz_ct (f_X7_towelsInBasket M8) fun r10 M11 =>
  hz_lt (((((M2 1 6) - r4) - r7) - r10)) fun x13 =>
  hz_lt ((((M11 24 (Int32.toNatClampNeg (0 : Int32))) - (M11 24 (Int32.toNatClampNeg (1 : Int32)))) - r1)) fun x14 =>
  hz_ct (f_X7_lockersInUse M11) fun r15 M16 =>
  hz_lt ((r15 - r1)) fun x18 =>
  hz_ct (f_X7_pegsUntold M16) fun r19 M20 =>
  some (((((if 0 ≤ x13 then x13 else 0 - x13) + r19) + (if 0 ≤ x14 then x14 else 0 - x14)) + (if 0 ≤ x18 then x18 else 0 - x18)), M20)
set_option maxRecDepth 100000 in
set_option maxHeartbeats 4000000 in
theorem c_X10_gap (l : Launch) (w : hz_C) {N : Nat} (hN : 178 ≤ N) {M : hz_M} {rE : Int32} {ME : hz_M} (h : f_X10_gap M = some (rE, ME)) : hz_Ct l yX10_gap cX10_gap 5 (some .int) 2 w N [.ref (hz_ad w 0)] M (hz_Qi w N rE ME) := by
  refine hz_ofW (by decide) rfl (Nat.le_of_ble_eq_true rfl) tw_4_151 ?_
  intro p e s m args below meth c hO
  show hz_G p l e 2 hz_z0 s m args below meth c w N 5 _ M 0 [(0, .ref (hz_ad w 0))] []
  unfold f_X10_gap at h
  refine hz_aload_n hO dX10_gap_0 rfl 0 rfl ?_
  refine hz_getR (k := 3) hO 11 hz_K_8 hz_sh_0 (hz_lt_0 hN) rfl (Nat.le_of_ble_eq_true rfl) tw_3_46 rfl dX10_gap_1 ?_
  obtain ⟨r1, M2, hq3, h⟩ := hz_ct_e h
  refine hz_callVi (as := []) (rest := []) hO (c_X7_guestsInside l w hN hq3) hz_cal_X7_guestsInside hz_K_5 hz_sh_11 (hz_lt_11 hN) tw_4_152 (Nat.le_of_ble_eq_true rfl) rfl rfl (Nat.le_of_ble_eq_true rfl) dX10_gap_4 ?_
  refine hz_istore_n (ls1 := [(1, .int r1), (0, .ref (hz_ad w 0))]) hO dX10_gap_7 rfl (Nat.le_of_ble_eq_true rfl) rfl ?_
  refine hz_aload_n hO dX10_gap_8 rfl 1 rfl ?_
  refine hz_getR (k := 0) hO 1 hz_K_8 hz_sh_0 (hz_lt_0 hN) rfl (Nat.le_of_ble_eq_true rfl) tw_3_43 rfl dX10_gap_9 ?_
  refine hz_getI (k := 6) hO hz_K_2 hz_sh_1 (hz_lt_1 hN) rfl (Nat.le_of_ble_eq_true rfl) tw_1_63 rfl dX10_gap_12 ?_
  refine hz_aload_n hO dX10_gap_15 rfl 1 rfl ?_
  refine hz_getR (k := 3) hO 11 hz_K_8 hz_sh_0 (hz_lt_0 hN) rfl (Nat.le_of_ble_eq_true rfl) tw_3_46 rfl dX10_gap_16 ?_
  obtain ⟨r4, M5, hq6, h⟩ := hz_ct_e h
  refine hz_callVi (as := []) (rest := [.int (M2 1 6)]) hO (c_X7_towelsOnPegs l w hN hq6) hz_cal_X7_towelsOnPegs hz_K_5 hz_sh_11 (hz_lt_11 hN) tw_4_156 (Nat.le_of_ble_eq_true rfl) rfl rfl (Nat.le_of_ble_eq_true rfl) dX10_gap_19 ?_
  refine hz_isub hO dX10_gap_22 ?_
  refine hz_aload_n hO dX10_gap_23 rfl 1 rfl ?_
  refine hz_getR (k := 3) hO 11 hz_K_8 hz_sh_0 (hz_lt_0 hN) rfl (Nat.le_of_ble_eq_true rfl) tw_3_46 rfl dX10_gap_24 ?_
  obtain ⟨r7, M8, hq9, h⟩ := hz_ct_e h
  refine hz_callVi (as := []) (rest := [.int ((M2 1 6) - r4)]) hO (c_X7_towelsWithGuests l w hN hq9) hz_cal_X7_towelsWithGuests hz_K_5 hz_sh_11 (hz_lt_11 hN) tw_4_160 (Nat.le_of_ble_eq_true rfl) rfl rfl (Nat.le_of_ble_eq_true rfl) dX10_gap_27 ?_
  refine hz_isub hO dX10_gap_30 ?_
  refine hz_aload_n hO dX10_gap_31 rfl 1 rfl ?_
  refine hz_getR (k := 3) hO 11 hz_K_8 hz_sh_0 (hz_lt_0 hN) rfl (Nat.le_of_ble_eq_true rfl) tw_3_46 rfl dX10_gap_32 ?_
  obtain ⟨r10, M11, hq12, h⟩ := hz_ct_e h
  refine hz_callVi (as := []) (rest := [.int (((M2 1 6) - r4) - r7)]) hO (c_X7_towelsInBasket l w hN hq12) hz_cal_X7_towelsInBasket hz_K_5 hz_sh_11 (hz_lt_11 hN) tw_4_164 (Nat.le_of_ble_eq_true rfl) rfl rfl (Nat.le_of_ble_eq_true rfl) dX10_gap_35 ?_
  refine hz_isub hO dX10_gap_38 ?_
  obtain ⟨x13, h_x13, h⟩ := hz_lt_e h
  refine hz_name h_x13 ?_
  refine hz_istore_n (ls1 := [(2, .int x13), (1, .int r1), (0, .ref (hz_ad w 0))]) hO dX10_gap_39 rfl (Nat.le_of_ble_eq_true rfl) rfl ?_
  refine hz_aload_n hO dX10_gap_40 rfl 2 rfl ?_
  refine hz_getR (k := 3) hO 11 hz_K_8 hz_sh_0 (hz_lt_0 hN) rfl (Nat.le_of_ble_eq_true rfl) tw_3_46 rfl dX10_gap_41 ?_
  refine hz_getR (k := 13) hO 24 hz_K_5 hz_sh_11 (hz_lt_11 hN) rfl (Nat.le_of_ble_eq_true rfl) tw_1_195 rfl dX10_gap_44 ?_
  refine hz_iconst (v := (0 : Int32)) hO dX10_gap_47 (by decide) ?_
  refine hz_iald hO hz_sh_24 (hz_lt_24 hN) (by decide) dX10_gap_48 ?_
  refine hz_aload_n hO dX10_gap_49 rfl 2 rfl ?_
  refine hz_getR (k := 3) hO 11 hz_K_8 hz_sh_0 (hz_lt_0 hN) rfl (Nat.le_of_ble_eq_true rfl) tw_3_46 rfl dX10_gap_50 ?_
  refine hz_getR (k := 13) hO 24 hz_K_5 hz_sh_11 (hz_lt_11 hN) rfl (Nat.le_of_ble_eq_true rfl) tw_1_195 rfl dX10_gap_53 ?_
  refine hz_iconst (v := (1 : Int32)) hO dX10_gap_56 (by decide) ?_
  refine hz_iald hO hz_sh_24 (hz_lt_24 hN) (by decide) dX10_gap_57 ?_
  refine hz_isub hO dX10_gap_58 ?_
  refine hz_iload_n hO dX10_gap_59 rfl 1 rfl ?_
  refine hz_isub hO dX10_gap_60 ?_
  obtain ⟨x14, h_x14, h⟩ := hz_lt_e h
  refine hz_name h_x14 ?_
  refine hz_istore_n (ls1 := [(3, .int x14), (2, .int x13), (1, .int r1), (0, .ref (hz_ad w 0))]) hO dX10_gap_61 rfl (Nat.le_of_ble_eq_true rfl) rfl ?_
  refine hz_aload_n hO dX10_gap_62 rfl 3 rfl ?_
  refine hz_getR (k := 3) hO 11 hz_K_8 hz_sh_0 (hz_lt_0 hN) rfl (Nat.le_of_ble_eq_true rfl) tw_3_46 rfl dX10_gap_63 ?_
  obtain ⟨r15, M16, hq17, h⟩ := hz_ct_e h
  refine hz_callVi (as := []) (rest := []) hO (c_X7_lockersInUse l w hN hq17) hz_cal_X7_lockersInUse hz_K_5 hz_sh_11 (hz_lt_11 hN) tw_4_169 (Nat.le_of_ble_eq_true rfl) rfl rfl (Nat.le_of_ble_eq_true rfl) dX10_gap_66 ?_
  refine hz_iload_n hO dX10_gap_69 rfl 2 rfl ?_
  refine hz_isub hO dX10_gap_70 ?_
  obtain ⟨x18, h_x18, h⟩ := hz_lt_e h
  refine hz_name h_x18 ?_
  refine hz_istore (ls1 := [(4, .int x18), (3, .int x14), (2, .int x13), (1, .int r1), (0, .ref (hz_ad w 0))]) hO dX10_gap_71 (Nat.le_of_ble_eq_true rfl) rfl ?_
  refine hz_iload_n hO dX10_gap_73 rfl 2 rfl ?_
  refine hz_mabs hO tw_4_173 (Nat.le_of_ble_eq_true rfl) (Nat.le_of_ble_eq_true rfl) dX10_gap_74 ?_
  refine hz_aload_n hO dX10_gap_77 rfl 4 rfl ?_
  refine hz_getR (k := 3) hO 11 hz_K_8 hz_sh_0 (hz_lt_0 hN) rfl (Nat.le_of_ble_eq_true rfl) tw_3_46 rfl dX10_gap_78 ?_
  obtain ⟨r19, M20, hq21, h⟩ := hz_ct_e h
  refine hz_callVi (as := []) (rest := [.int (if 0 ≤ x13 then x13 else 0 - x13)]) hO (c_X7_pegsUntold l w hN hq21) hz_cal_X7_pegsUntold hz_K_5 hz_sh_11 (hz_lt_11 hN) tw_4_176 (Nat.le_of_ble_eq_true rfl) rfl rfl (Nat.le_of_ble_eq_true rfl) dX10_gap_81 ?_
  refine hz_iadd hO dX10_gap_84 ?_
  refine hz_iload_n hO dX10_gap_85 rfl 1 rfl ?_
  refine hz_mabs hO tw_4_173 (Nat.le_of_ble_eq_true rfl) (Nat.le_of_ble_eq_true rfl) dX10_gap_86 ?_
  refine hz_iadd hO dX10_gap_89 ?_
  refine hz_iload hO dX10_gap_90 0 rfl ?_
  refine hz_mabs hO tw_4_173 (Nat.le_of_ble_eq_true rfl) (Nat.le_of_ble_eq_true rfl) dX10_gap_92 ?_
  refine hz_iadd hO dX10_gap_95 ?_
  exact hz_nameM (hz_some_e h).2.symm (hz_name (hz_some_e h).1.symm (hz_iret hO dX10_gap_96))
def f_X10_silenceIn (M : hz_M) : hz_O :=
  hz_ct (f_X7_isSilence M) fun r1 M2 =>
  if r1 = 0 then
    if (M2 11 19) ≤ 0 then
      some ((-1 : Int32), M2)
    else
      hz_ct (f_X7_minutesToGong M2) fun r6 M7 =>
      some (r6, M7)
  else
    some ((0 : Int32), M2)
set_option maxRecDepth 100000 in
set_option maxHeartbeats 4000000 in
theorem c_X10_silenceIn (l : Launch) (w : hz_C) {N : Nat} (hN : 178 ≤ N) {M : hz_M} {rE : Int32} {ME : hz_M} (h : f_X10_silenceIn M = some (rE, ME)) : hz_Ct l yX10_silenceIn cX10_silenceIn 1 (some .int) 1 w N [.ref (hz_ad w 0)] M (hz_Qi w N rE ME) := by
  refine hz_ofW (by decide) rfl (Nat.le_of_ble_eq_true rfl) tw_4_201 ?_
  intro p e s m args below meth c hO
  show hz_G p l e 1 hz_z0 s m args below meth c w N 1 _ M 0 [(0, .ref (hz_ad w 0))] []
  unfold f_X10_silenceIn at h
  refine hz_aload_n hO dX10_silenceIn_0 rfl 0 rfl ?_
  refine hz_getR (k := 3) hO 11 hz_K_8 hz_sh_0 (hz_lt_0 hN) rfl (Nat.le_of_ble_eq_true rfl) tw_3_46 rfl dX10_silenceIn_1 ?_
  obtain ⟨r1, M2, hq3, h⟩ := hz_ct_e h
  refine hz_callVi (as := []) (rest := []) hO (c_X7_isSilence l w hN hq3) hz_cal_X7_isSilence hz_K_5 hz_sh_11 (hz_lt_11 hN) tw_4_202 (Nat.le_of_ble_eq_true rfl) rfl rfl (Nat.le_of_ble_eq_true rfl) dX10_silenceIn_4 ?_
  refine hz_if_eq (tgt := 12) hO dX10_silenceIn_7 (by decide) (fun hc4 => ?_) (fun hc4 => ?_)
  · rw [if_pos hc4] at h
    refine hz_aload_n hO dX10_silenceIn_12 rfl 0 rfl ?_
    refine hz_getR (k := 3) hO 11 hz_K_8 hz_sh_0 (hz_lt_0 hN) rfl (Nat.le_of_ble_eq_true rfl) tw_3_46 rfl dX10_silenceIn_13 ?_
    refine hz_getI (k := 19) hO hz_K_5 hz_sh_11 (hz_lt_11 hN) rfl (Nat.le_of_ble_eq_true rfl) tw_1_208 rfl dX10_silenceIn_16 ?_
    refine hz_if_le (tgt := 32) hO dX10_silenceIn_19 (by decide) (fun hc5 => ?_) (fun hc5 => ?_)
    · rw [if_pos hc5] at h
      refine hz_iconst (v := (-1 : Int32)) hO dX10_silenceIn_32 (by decide) ?_
      exact hz_nameM (hz_some_e h).2.symm (hz_name (hz_some_e h).1.symm (hz_iret hO dX10_silenceIn_33))
    · rw [if_neg hc5] at h
      refine hz_aload_n hO dX10_silenceIn_22 rfl 0 rfl ?_
      refine hz_getR (k := 3) hO 11 hz_K_8 hz_sh_0 (hz_lt_0 hN) rfl (Nat.le_of_ble_eq_true rfl) tw_3_46 rfl dX10_silenceIn_23 ?_
      obtain ⟨r6, M7, hq8, h⟩ := hz_ct_e h
      refine hz_callVi (as := []) (rest := []) hO (c_X7_minutesToGong l w hN hq8) hz_cal_X7_minutesToGong hz_K_5 hz_sh_11 (hz_lt_11 hN) tw_4_203 (Nat.le_of_ble_eq_true rfl) rfl rfl (Nat.le_of_ble_eq_true rfl) dX10_silenceIn_26 ?_
      refine hz_goto (tgt := 33) hO dX10_silenceIn_29 (by decide) ?_
      exact hz_nameM (hz_some_e h).2.symm (hz_name (hz_some_e h).1.symm (hz_iret hO dX10_silenceIn_33))
  · rw [if_neg hc4] at h
    refine hz_iconst (v := (0 : Int32)) hO dX10_silenceIn_10 (by decide) ?_
    exact hz_nameM (hz_some_e h).2.symm (hz_name (hz_some_e h).1.symm (hz_iret hO dX10_silenceIn_11))
def f_X10_reportByte (a1 : Int32) (M : hz_M) : hz_O :=
  hz_ct (f_X5_byteAt a1 M) fun r1 M2 =>
  some (r1, M2)
set_option maxRecDepth 100000 in
set_option maxHeartbeats 4000000 in
theorem c_X10_reportByte (l : Launch) (w : hz_C) {N : Nat} (hN : 178 ≤ N) (a1 : Int32) {M : hz_M} {rE : Int32} {ME : hz_M} (h : f_X10_reportByte a1 M = some (rE, ME)) : hz_Ct l yX10_reportByte cX10_reportByte 2 (some .int) 1 w N [.ref (hz_ad w 0), .int a1] M (hz_Qi w N rE ME) := by
  refine hz_ofW (by decide) rfl (Nat.le_of_ble_eq_true rfl) tw_5_15 ?_
  intro p e s m args below meth c hO
  show hz_G p l e 1 hz_z0 s m args below meth c w N 2 _ M 0 [(0, .ref (hz_ad w 0)), (1, .int a1)] []
  unfold f_X10_reportByte at h
  refine hz_aload_n hO dX10_reportByte_0 rfl 0 rfl ?_
  refine hz_getR (k := 8) hO 176 hz_K_8 hz_sh_0 (hz_lt_0 hN) rfl (Nat.le_of_ble_eq_true rfl) tw_3_51 rfl dX10_reportByte_1 ?_
  refine hz_iload_n hO dX10_reportByte_4 rfl 1 rfl ?_
  obtain ⟨r1, M2, hq3, h⟩ := hz_ct_e h
  refine hz_callVi (as := [.int a1]) (rest := []) hO (c_X5_byteAt l w hN a1 hq3) hz_cal_X5_byteAt hz_K_3 hz_sh_176 (hz_lt_176 hN) tw_5_16 (Nat.le_of_ble_eq_true rfl) rfl rfl (Nat.le_of_ble_eq_true rfl) dX10_reportByte_5 ?_
  exact hz_nameM (hz_some_e h).2.symm (hz_name (hz_some_e h).1.symm (hz_iret hO dX10_reportByte_8))
def f_X10_isOpening (a0 : Int32) (M : hz_M) : hz_O :=
  if a0 < 0 then
    some ((0 : Int32), M)
  else
    if (9 : Int32) < a0 then
      some ((0 : Int32), M)
    else
      some ((1 : Int32), M)
set_option maxRecDepth 100000 in
set_option maxHeartbeats 4000000 in
theorem c_X10_isOpening (l : Launch) (w : hz_C) {N : Nat} (hN : 178 ≤ N) (a0 : Int32) {M : hz_M} {rE : Int32} {ME : hz_M} (h : f_X10_isOpening a0 M = some (rE, ME)) : hz_Ct l yX10_isOpening cX10_isOpening 1 (some .boolean) 0 w N [.int a0] M (hz_Qi w N rE ME) := by
  refine hz_ofW (by decide) rfl (Nat.le_of_ble_eq_true rfl) tw_6_15 ?_
  intro p e s m args below meth c hO
  show hz_G p l e 0 hz_z0 s m args below meth c w N 1 _ M 0 [(0, .int a0)] []
  unfold f_X10_isOpening at h
  refine hz_iload_n hO dX10_isOpening_0 rfl 0 rfl ?_
  refine hz_if_lt (tgt := 14) hO dX10_isOpening_1 (by decide) (fun hc1 => ?_) (fun hc1 => ?_)
  · rw [if_pos hc1] at h
    refine hz_iconst (v := (0 : Int32)) hO dX10_isOpening_14 (by decide) ?_
    exact hz_nameM (hz_some_e h).2.symm (hz_name (hz_some_e h).1.symm (hz_zret hO (by rw [← (hz_some_e h).1]; decide) dX10_isOpening_15))
  · rw [if_neg hc1] at h
    refine hz_iload_n hO dX10_isOpening_4 rfl 0 rfl ?_
    refine hz_bipush (v := (9 : Int32)) hO dX10_isOpening_5 (by decide) ?_
    refine hz_icmp_gt (tgt := 14) hO dX10_isOpening_7 (by decide) (fun hc2 => ?_) (fun hc2 => ?_)
    · rw [if_pos hc2] at h
      refine hz_iconst (v := (0 : Int32)) hO dX10_isOpening_14 (by decide) ?_
      exact hz_nameM (hz_some_e h).2.symm (hz_name (hz_some_e h).1.symm (hz_zret hO (by rw [← (hz_some_e h).1]; decide) dX10_isOpening_15))
    · rw [if_neg hc2] at h
      refine hz_iconst (v := (1 : Int32)) hO dX10_isOpening_10 (by decide) ?_
      refine hz_goto (tgt := 15) hO dX10_isOpening_11 (by decide) ?_
      exact hz_nameM (hz_some_e h).2.symm (hz_name (hz_some_e h).1.symm (hz_zret hO (by rw [← (hz_some_e h).1]; decide) dX10_isOpening_15))
def f_X10_isSetting (a0 : Int32) (a1 : Int32) (M : hz_M) : hz_O :=
  if a0 = 6 then
    if a1 < (1 : Int32) then
      some ((0 : Int32), M)
    else
      if (9 : Int32) < a1 then
        some ((0 : Int32), M)
      else
        some ((1 : Int32), M)
  else
  if a0 = 7 then
    if a1 < (2 : Int32) then
      some ((0 : Int32), M)
    else
      if (60 : Int32) < a1 then
        some ((0 : Int32), M)
      else
        some ((1 : Int32), M)
  else
  if a0 = 8 then
    if a1 < 0 then
      some ((0 : Int32), M)
    else
      if (30 : Int32) < a1 then
        some ((0 : Int32), M)
      else
        some ((1 : Int32), M)
  else
  some ((0 : Int32), M)
set_option maxRecDepth 100000 in
set_option maxHeartbeats 4000000 in
theorem c_X10_isSetting (l : Launch) (w : hz_C) {N : Nat} (hN : 178 ≤ N) (a0 : Int32) (a1 : Int32) {M : hz_M} {rE : Int32} {ME : hz_M} (h : f_X10_isSetting a0 a1 M = some (rE, ME)) : hz_Ct l yX10_isSetting cX10_isSetting 2 (some .boolean) 0 w N [.int a0, .int a1] M (hz_Qi w N rE ME) := by
  refine hz_ofW (by decide) rfl (Nat.le_of_ble_eq_true rfl) tw_6_102 ?_
  intro p e s m args below meth c hO
  show hz_G p l e 0 hz_z0 s m args below meth c w N 2 _ M 0 [(0, .int a0), (1, .int a1)] []
  unfold f_X10_isSetting at h
  refine hz_iload_n hO dX10_isSetting_0 rfl 0 rfl ?_
  by_cases hc1 : a0 = (6 : Int32)
  · rw [if_pos hc1] at h
    refine hz_tin (tgt := 28) hO hc1 dX10_isSetting_1 (by decide) (by decide) rfl (by decide) ?_
    refine hz_iload_n hO dX10_isSetting_28 rfl 1 rfl ?_
    refine hz_iconst (v := (1 : Int32)) hO dX10_isSetting_29 (by decide) ?_
    refine hz_icmp_lt (tgt := 43) hO dX10_isSetting_30 (by decide) (fun hc2 => ?_) (fun hc2 => ?_)
    · rw [if_pos hc2] at h
      refine hz_iconst (v := (0 : Int32)) hO dX10_isSetting_43 (by decide) ?_
      exact hz_nameM (hz_some_e h).2.symm (hz_name (hz_some_e h).1.symm (hz_zret hO (by rw [← (hz_some_e h).1]; decide) dX10_isSetting_44))
    · rw [if_neg hc2] at h
      refine hz_iload_n hO dX10_isSetting_33 rfl 1 rfl ?_
      refine hz_bipush (v := (9 : Int32)) hO dX10_isSetting_34 (by decide) ?_
      refine hz_icmp_gt (tgt := 43) hO dX10_isSetting_36 (by decide) (fun hc3 => ?_) (fun hc3 => ?_)
      · rw [if_pos hc3] at h
        refine hz_iconst (v := (0 : Int32)) hO dX10_isSetting_43 (by decide) ?_
        exact hz_nameM (hz_some_e h).2.symm (hz_name (hz_some_e h).1.symm (hz_zret hO (by rw [← (hz_some_e h).1]; decide) dX10_isSetting_44))
      · rw [if_neg hc3] at h
        refine hz_iconst (v := (1 : Int32)) hO dX10_isSetting_39 (by decide) ?_
        refine hz_goto (tgt := 44) hO dX10_isSetting_40 (by decide) ?_
        exact hz_nameM (hz_some_e h).2.symm (hz_name (hz_some_e h).1.symm (hz_zret hO (by rw [← (hz_some_e h).1]; decide) dX10_isSetting_44))
  · rw [if_neg hc1] at h
    by_cases hc4 : a0 = (7 : Int32)
    · rw [if_pos hc4] at h
      refine hz_tin (tgt := 45) hO hc4 dX10_isSetting_1 (by decide) (by decide) rfl (by decide) ?_
      refine hz_iload_n hO dX10_isSetting_45 rfl 1 rfl ?_
      refine hz_iconst (v := (2 : Int32)) hO dX10_isSetting_46 (by decide) ?_
      refine hz_icmp_lt (tgt := 60) hO dX10_isSetting_47 (by decide) (fun hc5 => ?_) (fun hc5 => ?_)
      · rw [if_pos hc5] at h
        refine hz_iconst (v := (0 : Int32)) hO dX10_isSetting_60 (by decide) ?_
        exact hz_nameM (hz_some_e h).2.symm (hz_name (hz_some_e h).1.symm (hz_zret hO (by rw [← (hz_some_e h).1]; decide) dX10_isSetting_61))
      · rw [if_neg hc5] at h
        refine hz_iload_n hO dX10_isSetting_50 rfl 1 rfl ?_
        refine hz_bipush (v := (60 : Int32)) hO dX10_isSetting_51 (by decide) ?_
        refine hz_icmp_gt (tgt := 60) hO dX10_isSetting_53 (by decide) (fun hc6 => ?_) (fun hc6 => ?_)
        · rw [if_pos hc6] at h
          refine hz_iconst (v := (0 : Int32)) hO dX10_isSetting_60 (by decide) ?_
          exact hz_nameM (hz_some_e h).2.symm (hz_name (hz_some_e h).1.symm (hz_zret hO (by rw [← (hz_some_e h).1]; decide) dX10_isSetting_61))
        · rw [if_neg hc6] at h
          refine hz_iconst (v := (1 : Int32)) hO dX10_isSetting_56 (by decide) ?_
          refine hz_goto (tgt := 61) hO dX10_isSetting_57 (by decide) ?_
          exact hz_nameM (hz_some_e h).2.symm (hz_name (hz_some_e h).1.symm (hz_zret hO (by rw [← (hz_some_e h).1]; decide) dX10_isSetting_61))
    · rw [if_neg hc4] at h
      by_cases hc7 : a0 = (8 : Int32)
      · rw [if_pos hc7] at h
        refine hz_tin (tgt := 62) hO hc7 dX10_isSetting_1 (by decide) (by decide) rfl (by decide) ?_
        refine hz_iload_n hO dX10_isSetting_62 rfl 1 rfl ?_
        refine hz_if_lt (tgt := 76) hO dX10_isSetting_63 (by decide) (fun hc8 => ?_) (fun hc8 => ?_)
        · rw [if_pos hc8] at h
          refine hz_iconst (v := (0 : Int32)) hO dX10_isSetting_76 (by decide) ?_
          exact hz_nameM (hz_some_e h).2.symm (hz_name (hz_some_e h).1.symm (hz_zret hO (by rw [← (hz_some_e h).1]; decide) dX10_isSetting_77))
        · rw [if_neg hc8] at h
          refine hz_iload_n hO dX10_isSetting_66 rfl 1 rfl ?_
          refine hz_bipush (v := (30 : Int32)) hO dX10_isSetting_67 (by decide) ?_
          refine hz_icmp_gt (tgt := 76) hO dX10_isSetting_69 (by decide) (fun hc9 => ?_) (fun hc9 => ?_)
          · rw [if_pos hc9] at h
            refine hz_iconst (v := (0 : Int32)) hO dX10_isSetting_76 (by decide) ?_
            exact hz_nameM (hz_some_e h).2.symm (hz_name (hz_some_e h).1.symm (hz_zret hO (by rw [← (hz_some_e h).1]; decide) dX10_isSetting_77))
          · rw [if_neg hc9] at h
            refine hz_iconst (v := (1 : Int32)) hO dX10_isSetting_72 (by decide) ?_
            refine hz_goto (tgt := 77) hO dX10_isSetting_73 (by decide) ?_
            exact hz_nameM (hz_some_e h).2.symm (hz_name (hz_some_e h).1.symm (hz_zret hO (by rw [← (hz_some_e h).1]; decide) dX10_isSetting_77))
      · rw [if_neg hc7] at h
        have hn6 : ¬ a0.toInt = 6 := lv_neT hc1 rfl
        have hn7 : ¬ a0.toInt = 7 := lv_neT hc4 rfl
        have hn8 : ¬ a0.toInt = 8 := lv_neT hc7 rfl
        refine hz_tout (tgt := 78) hO dX10_isSetting_1 (by omega) (by decide) ?_
        refine hz_iconst (v := (0 : Int32)) hO dX10_isSetting_78 (by decide) ?_
        exact hz_nameM (hz_some_e h).2.symm (hz_name (hz_some_e h).1.symm (hz_zret hO (by rw [← (hz_some_e h).1]; decide) dX10_isSetting_79))
def f_X10_endReading (M : hz_M) : hz_O :=
  hz_jn (fun (q1 : Int32) (M2 : hz_M) =>
    hz_lm (hz_set M2 0 9 q1) fun M3 =>
    hz_ct (f_X8_clear M3) fun r4 M5 =>
    some (0, M5)
    ) fun k7 =>
  if (M 9 6) = 0 then
    k7 (-1 : Int32) M
  else
    k7 (M 9 7) M
set_option maxRecDepth 100000 in
set_option maxHeartbeats 4000000 in
theorem c_X10_endReading (l : Launch) (w : hz_C) {N : Nat} (hN : 178 ≤ N) {M : hz_M} {rE : Int32} {ME : hz_M} (h : f_X10_endReading M = some (rE, ME)) : hz_Ct l yX10_endReading cX10_endReading 1 none 1 w N [.ref (hz_ad w 0)] M (hz_Qv w N ME) := by
  refine hz_ofW (by decide) rfl (Nat.le_of_ble_eq_true rfl) tw_3_93 ?_
  intro p e s m args below meth c hO
  show hz_G p l e 1 hz_z0 s m args below meth c w N 1 _ M 0 [(0, .ref (hz_ad w 0))] []
  unfold f_X10_endReading at h
  refine hz_aload_n hO dX10_endReading_0 rfl 0 rfl ?_
  refine hz_aload_n hO dX10_endReading_1 rfl 0 rfl ?_
  refine hz_getR (k := 2) hO 9 hz_K_8 hz_sh_0 (hz_lt_0 hN) rfl (Nat.le_of_ble_eq_true rfl) tw_3_45 rfl dX10_endReading_2 ?_
  refine hz_getI (k := 6) hO hz_K_6 hz_sh_9 (hz_lt_9 hN) rfl (Nat.le_of_ble_eq_true rfl) tw_1_123 rfl dX10_endReading_5 ?_
  obtain ⟨k7, hk7, h⟩ := hz_jn_e h
  have gk7 : ∀ (q1 : Int32) (M2 : hz_M), k7 q1 M2 = some (rE, ME) → hz_G p l e 1 hz_z0 s m args below meth c w N 1 (MQ below (hz_Qv w N ME) args s 0 0 (hz_A w)) M2 22 [(0, .ref (hz_ad w 0))] [.int q1, .ref (hz_ad w 0)] := by
    intro q1 M2 h
    rw [hk7] at h
    dsimp only at h
    obtain ⟨M3, h_M3, h⟩ := hz_lm_e h
    refine hz_putI (k := 9) (ty := .int) hO hz_K_8 tyX10_ok nmX10 hz_sh_0 (hz_lt_0 hN) rfl (Nat.le_of_ble_eq_true rfl) tw_3_52 rfl rfl rfl rfl rfl dX10_endReading_22 ?_
    refine hz_nameM h_M3 ?_
    refine hz_aload_n hO dX10_endReading_25 rfl 0 rfl ?_
    refine hz_getR (k := 2) hO 9 hz_K_8 hz_sh_0 (hz_lt_0 hN) rfl (Nat.le_of_ble_eq_true rfl) tw_3_45 rfl dX10_endReading_26 ?_
    obtain ⟨r4, M5, hq6, h⟩ := hz_ct_e h
    refine hz_callVv (as := []) (rest := []) hO (c_X8_clear l w hN hq6) hz_cal_X8_clear hz_K_6 hz_sh_9 (hz_lt_9 hN) tw_3_28 (Nat.le_of_ble_eq_true rfl) rfl rfl (Nat.le_of_ble_eq_true rfl) dX10_endReading_29 ?_
    exact hz_nameM (hz_some_e h).2.symm (hz_vret hO dX10_endReading_32)
  clear hk7
  refine hz_if_ne (tgt := 15) hO dX10_endReading_8 (by decide) (fun hc8 => ?_) (fun hc8 => ?_)
  · rw [if_neg hc8] at h
    refine hz_aload_n hO dX10_endReading_15 rfl 0 rfl ?_
    refine hz_getR (k := 2) hO 9 hz_K_8 hz_sh_0 (hz_lt_0 hN) rfl (Nat.le_of_ble_eq_true rfl) tw_3_45 rfl dX10_endReading_16 ?_
    refine hz_getI (k := 7) hO hz_K_6 hz_sh_9 (hz_lt_9 hN) rfl (Nat.le_of_ble_eq_true rfl) tw_1_127 rfl dX10_endReading_19 ?_
    exact hz_ls [0] rfl (gk7 (M 9 7) M h)
  · rw [if_pos hc8] at h
    refine hz_iconst (v := (-1 : Int32)) hO dX10_endReading_11 (by decide) ?_
    refine hz_goto (tgt := 22) hO dX10_endReading_12 (by decide) ?_
    exact hz_ls [0] rfl (gk7 (-1 : Int32) M h)
def f_X10_feed (a1 : Int32) (a2 : Int32) (a3 : Int32) (a4 : Int32) (a5 : Int32) (M : hz_M) : hz_O :=
  hz_ct (f_X8_bytesIn a1 M) fun r1 M2 =>
  hz_ct (f_X8_bytesIn a2 M2) fun r4 M5 =>
  hz_ct (f_X8_bytesIn a3 M5) fun r7 M8 =>
  hz_ct (f_X8_bytesIn a4 M8) fun r10 M11 =>
  hz_ct (f_X8_bytesIn a5 M11) fun r13 M14 =>
  hz_lt (((((r1 + r4) + r7) + r10) + r13)) fun x16 =>
  if ((M14 9 1) + x16) ≤ (600 : Int32) then
    hz_ct (f_X8_append a1 M14) fun r18 M19 =>
    hz_ct (f_X8_append a2 M19) fun r21 M22 =>
    hz_ct (f_X8_append a3 M22) fun r24 M25 =>
    hz_ct (f_X8_append a4 M25) fun r27 M28 =>
    hz_ct (f_X8_append a5 M28) fun r30 M31 =>
    some ((M31 9 1), M31)
  else
    some ((-1 : Int32), M14)
set_option maxRecDepth 100000 in
set_option maxHeartbeats 4000000 in
theorem c_X10_feed (l : Launch) (w : hz_C) {N : Nat} (hN : 178 ≤ N) (a1 : Int32) (a2 : Int32) (a3 : Int32) (a4 : Int32) (a5 : Int32) {M : hz_M} {rE : Int32} {ME : hz_M} (h : f_X10_feed a1 a2 a3 a4 a5 M = some (rE, ME)) : hz_Ct l yX10_feed cX10_feed 7 (some .int) 2 w N [.ref (hz_ad w 0), .int a1, .int a2, .int a3, .int a4, .int a5] M (hz_Qi w N rE ME) := by
  refine hz_ofW (by decide) rfl (Nat.le_of_ble_eq_true rfl) tw_3_78 ?_
  intro p e s m args below meth c hO
  show hz_G p l e 2 hz_z0 s m args below meth c w N 7 _ M 0 [(0, .ref (hz_ad w 0)), (1, .int a1), (2, .int a2), (3, .int a3), (4, .int a4), (5, .int a5)] []
  unfold f_X10_feed at h
  refine hz_iload_n hO dX10_feed_0 rfl 1 rfl ?_
  obtain ⟨r1, M2, hq3, h⟩ := hz_ct_e h
  refine hz_callSi (as := [.int a1]) (rest := []) hO (c_X8_bytesIn l w hN a1 hq3) hz_cal_X8_bytesIn tw_3_79 (Nat.le_of_ble_eq_true rfl) rfl rfl (Nat.le_of_ble_eq_true rfl) dX10_feed_1 ?_
  refine hz_iload_n hO dX10_feed_4 rfl 2 rfl ?_
  obtain ⟨r4, M5, hq6, h⟩ := hz_ct_e h
  refine hz_callSi (as := [.int a2]) (rest := [.int r1]) hO (c_X8_bytesIn l w hN a2 hq6) hz_cal_X8_bytesIn tw_3_79 (Nat.le_of_ble_eq_true rfl) rfl rfl (Nat.le_of_ble_eq_true rfl) dX10_feed_5 ?_
  refine hz_iadd hO dX10_feed_8 ?_
  refine hz_iload_n hO dX10_feed_9 rfl 3 rfl ?_
  obtain ⟨r7, M8, hq9, h⟩ := hz_ct_e h
  refine hz_callSi (as := [.int a3]) (rest := [.int (r1 + r4)]) hO (c_X8_bytesIn l w hN a3 hq9) hz_cal_X8_bytesIn tw_3_79 (Nat.le_of_ble_eq_true rfl) rfl rfl (Nat.le_of_ble_eq_true rfl) dX10_feed_10 ?_
  refine hz_iadd hO dX10_feed_13 ?_
  refine hz_iload hO dX10_feed_14 4 rfl ?_
  obtain ⟨r10, M11, hq12, h⟩ := hz_ct_e h
  refine hz_callSi (as := [.int a4]) (rest := [.int ((r1 + r4) + r7)]) hO (c_X8_bytesIn l w hN a4 hq12) hz_cal_X8_bytesIn tw_3_79 (Nat.le_of_ble_eq_true rfl) rfl rfl (Nat.le_of_ble_eq_true rfl) dX10_feed_16 ?_
  refine hz_iadd hO dX10_feed_19 ?_
  refine hz_iload hO dX10_feed_20 5 rfl ?_
  obtain ⟨r13, M14, hq15, h⟩ := hz_ct_e h
  refine hz_callSi (as := [.int a5]) (rest := [.int (((r1 + r4) + r7) + r10)]) hO (c_X8_bytesIn l w hN a5 hq15) hz_cal_X8_bytesIn tw_3_79 (Nat.le_of_ble_eq_true rfl) rfl rfl (Nat.le_of_ble_eq_true rfl) dX10_feed_22 ?_
  refine hz_iadd hO dX10_feed_25 ?_
  obtain ⟨x16, h_x16, h⟩ := hz_lt_e h
  refine hz_name h_x16 ?_
  refine hz_istore (ls1 := [(6, .int x16), (0, .ref (hz_ad w 0)), (1, .int a1), (2, .int a2), (3, .int a3), (4, .int a4), (5, .int a5)]) hO dX10_feed_26 (Nat.le_of_ble_eq_true rfl) rfl ?_
  refine hz_aload_n hO dX10_feed_28 rfl 1 rfl ?_
  refine hz_getR (k := 2) hO 9 hz_K_8 hz_sh_0 (hz_lt_0 hN) rfl (Nat.le_of_ble_eq_true rfl) tw_3_45 rfl dX10_feed_29 ?_
  refine hz_getI (k := 1) hO hz_K_6 hz_sh_9 (hz_lt_9 hN) rfl (Nat.le_of_ble_eq_true rfl) tw_1_111 rfl dX10_feed_32 ?_
  refine hz_iload hO dX10_feed_35 0 rfl ?_
  refine hz_iadd hO dX10_feed_37 ?_
  refine hz_sipush (v := (600 : Int32)) hO dX10_feed_38 (by decide) ?_
  refine hz_icmp_le (tgt := 46) hO dX10_feed_41 (by decide) (fun hc17 => ?_) (fun hc17 => ?_)
  · rw [if_pos hc17] at h
    refine hz_aload_n hO dX10_feed_46 rfl 1 rfl ?_
    refine hz_getR (k := 2) hO 9 hz_K_8 hz_sh_0 (hz_lt_0 hN) rfl (Nat.le_of_ble_eq_true rfl) tw_3_45 rfl dX10_feed_47 ?_
    refine hz_iload_n hO dX10_feed_50 rfl 2 rfl ?_
    obtain ⟨r18, M19, hq20, h⟩ := hz_ct_e h
    refine hz_callVv (as := [.int a1]) (rest := []) hO (c_X8_append l w hN a1 hq20) hz_cal_X8_append hz_K_6 hz_sh_9 (hz_lt_9 hN) tw_3_82 (Nat.le_of_ble_eq_true rfl) rfl rfl (Nat.le_of_ble_eq_true rfl) dX10_feed_51 ?_
    refine hz_aload_n hO dX10_feed_54 rfl 1 rfl ?_
    refine hz_getR (k := 2) hO 9 hz_K_8 hz_sh_0 (hz_lt_0 hN) rfl (Nat.le_of_ble_eq_true rfl) tw_3_45 rfl dX10_feed_55 ?_
    refine hz_iload_n hO dX10_feed_58 rfl 3 rfl ?_
    obtain ⟨r21, M22, hq23, h⟩ := hz_ct_e h
    refine hz_callVv (as := [.int a2]) (rest := []) hO (c_X8_append l w hN a2 hq23) hz_cal_X8_append hz_K_6 hz_sh_9 (hz_lt_9 hN) tw_3_82 (Nat.le_of_ble_eq_true rfl) rfl rfl (Nat.le_of_ble_eq_true rfl) dX10_feed_59 ?_
    refine hz_aload_n hO dX10_feed_62 rfl 1 rfl ?_
    refine hz_getR (k := 2) hO 9 hz_K_8 hz_sh_0 (hz_lt_0 hN) rfl (Nat.le_of_ble_eq_true rfl) tw_3_45 rfl dX10_feed_63 ?_
    refine hz_iload_n hO dX10_feed_66 rfl 4 rfl ?_
    obtain ⟨r24, M25, hq26, h⟩ := hz_ct_e h
    refine hz_callVv (as := [.int a3]) (rest := []) hO (c_X8_append l w hN a3 hq26) hz_cal_X8_append hz_K_6 hz_sh_9 (hz_lt_9 hN) tw_3_82 (Nat.le_of_ble_eq_true rfl) rfl rfl (Nat.le_of_ble_eq_true rfl) dX10_feed_67 ?_
    refine hz_aload_n hO dX10_feed_70 rfl 1 rfl ?_
    refine hz_getR (k := 2) hO 9 hz_K_8 hz_sh_0 (hz_lt_0 hN) rfl (Nat.le_of_ble_eq_true rfl) tw_3_45 rfl dX10_feed_71 ?_
    refine hz_iload hO dX10_feed_74 5 rfl ?_
    obtain ⟨r27, M28, hq29, h⟩ := hz_ct_e h
    refine hz_callVv (as := [.int a4]) (rest := []) hO (c_X8_append l w hN a4 hq29) hz_cal_X8_append hz_K_6 hz_sh_9 (hz_lt_9 hN) tw_3_82 (Nat.le_of_ble_eq_true rfl) rfl rfl (Nat.le_of_ble_eq_true rfl) dX10_feed_76 ?_
    refine hz_aload_n hO dX10_feed_79 rfl 1 rfl ?_
    refine hz_getR (k := 2) hO 9 hz_K_8 hz_sh_0 (hz_lt_0 hN) rfl (Nat.le_of_ble_eq_true rfl) tw_3_45 rfl dX10_feed_80 ?_
    refine hz_iload hO dX10_feed_83 6 rfl ?_
    obtain ⟨r30, M31, hq32, h⟩ := hz_ct_e h
    refine hz_callVv (as := [.int a5]) (rest := []) hO (c_X8_append l w hN a5 hq32) hz_cal_X8_append hz_K_6 hz_sh_9 (hz_lt_9 hN) tw_3_82 (Nat.le_of_ble_eq_true rfl) rfl rfl (Nat.le_of_ble_eq_true rfl) dX10_feed_85 ?_
    refine hz_aload_n hO dX10_feed_88 rfl 1 rfl ?_
    refine hz_getR (k := 2) hO 9 hz_K_8 hz_sh_0 (hz_lt_0 hN) rfl (Nat.le_of_ble_eq_true rfl) tw_3_45 rfl dX10_feed_89 ?_
    refine hz_getI (k := 1) hO hz_K_6 hz_sh_9 (hz_lt_9 hN) rfl (Nat.le_of_ble_eq_true rfl) tw_1_111 rfl dX10_feed_92 ?_
    exact hz_nameM (hz_some_e h).2.symm (hz_name (hz_some_e h).1.symm (hz_iret hO dX10_feed_95))
  · rw [if_neg hc17] at h
    refine hz_iconst (v := (-1 : Int32)) hO dX10_feed_44 (by decide) ?_
    exact hz_nameM (hz_some_e h).2.symm (hz_name (hz_some_e h).1.symm (hz_iret hO dX10_feed_45))
def f_X10_find (M : hz_M) : hz_O :=
  hz_ct (f_X3_guestNamed 1 (0 : Int32) (M 9 1) M) fun r1 M2 =>
  some (r1, M2)
set_option maxRecDepth 100000 in
set_option maxHeartbeats 4000000 in
theorem c_X10_find (l : Launch) (w : hz_C) {N : Nat} (hN : 178 ≤ N) {M : hz_M} {rE : Int32} {ME : hz_M} (h : f_X10_find M = some (rE, ME)) : hz_Ct l yX10_find cX10_find 1 (some .int) 3 w N [.ref (hz_ad w 0)] M (hz_Qi w N rE ME) := by
  refine hz_ofW (by decide) rfl (Nat.le_of_ble_eq_true rfl) tw_4_146 ?_
  intro p e s m args below meth c hO
  show hz_G p l e 3 hz_z0 s m args below meth c w N 1 _ M 0 [(0, .ref (hz_ad w 0))] []
  unfold f_X10_find at h
  refine hz_aload_n hO dX10_find_0 rfl 0 rfl ?_
  refine hz_getR (k := 0) hO 1 hz_K_8 hz_sh_0 (hz_lt_0 hN) rfl (Nat.le_of_ble_eq_true rfl) tw_3_43 rfl dX10_find_1 ?_
  refine hz_aload_n hO dX10_find_4 rfl 0 rfl ?_
  refine hz_getR (k := 2) hO 9 hz_K_8 hz_sh_0 (hz_lt_0 hN) rfl (Nat.le_of_ble_eq_true rfl) tw_3_45 rfl dX10_find_5 ?_
  refine hz_iconst (v := (0 : Int32)) hO dX10_find_8 (by decide) ?_
  refine hz_aload_n hO dX10_find_9 rfl 0 rfl ?_
  refine hz_getR (k := 2) hO 9 hz_K_8 hz_sh_0 (hz_lt_0 hN) rfl (Nat.le_of_ble_eq_true rfl) tw_3_45 rfl dX10_find_10 ?_
  refine hz_getI (k := 1) hO hz_K_6 hz_sh_9 (hz_lt_9 hN) rfl (Nat.le_of_ble_eq_true rfl) tw_1_111 rfl dX10_find_13 ?_
  obtain ⟨r1, M2, hq3, h⟩ := hz_ct_e h
  refine hz_callVi (as := [.ref (hz_ad w 9), .int (0 : Int32), .int (M 9 1)]) (rest := []) hO (c_X3_guestNamed l w hN (hz_ho_1 hN) (0 : Int32) (M 9 1) hq3) hz_cal_X3_guestNamed hz_K_2 hz_sh_1 (hz_lt_1 hN) tw_4_147 (Nat.le_of_ble_eq_true rfl) rfl rfl (Nat.le_of_ble_eq_true rfl) dX10_find_16 ?_
  exact hz_nameM (hz_some_e h).2.symm (hz_name (hz_some_e h).1.symm (hz_iret hO dX10_find_19))
def f_X10_report (M : hz_M) : hz_O :=
  hz_ct (f_X5_write M) fun r1 M2 =>
  some ((M2 176 2), M2)
set_option maxRecDepth 100000 in
set_option maxHeartbeats 4000000 in
theorem c_X10_report (l : Launch) (w : hz_C) {N : Nat} (hN : 178 ≤ N) {M : hz_M} {rE : Int32} {ME : hz_M} (h : f_X10_report M = some (rE, ME)) : hz_Ct l yX10_report cX10_report 1 (some .int) 5 w N [.ref (hz_ad w 0)] M (hz_Qi w N rE ME) := by
  refine hz_ofW (by decide) rfl (Nat.le_of_ble_eq_true rfl) tw_4_222 ?_
  intro p e s m args below meth c hO
  show hz_G p l e 5 hz_z0 s m args below meth c w N 1 _ M 0 [(0, .ref (hz_ad w 0))] []
  unfold f_X10_report at h
  refine hz_aload_n hO dX10_report_0 rfl 0 rfl ?_
  refine hz_getR (k := 8) hO 176 hz_K_8 hz_sh_0 (hz_lt_0 hN) rfl (Nat.le_of_ble_eq_true rfl) tw_3_51 rfl dX10_report_1 ?_
  refine hz_aload_n hO dX10_report_4 rfl 0 rfl ?_
  refine hz_getR (k := 3) hO 11 hz_K_8 hz_sh_0 (hz_lt_0 hN) rfl (Nat.le_of_ble_eq_true rfl) tw_3_46 rfl dX10_report_5 ?_
  obtain ⟨r1, M2, hq3, h⟩ := hz_ct_e h
  refine hz_callVv (as := [.ref (hz_ad w 11)]) (rest := []) hO (c_X5_write l w hN hq3) hz_cal_X5_write hz_K_3 hz_sh_176 (hz_lt_176 hN) tw_4_223 (Nat.le_of_ble_eq_true rfl) rfl rfl (Nat.le_of_ble_eq_true rfl) dX10_report_8 ?_
  refine hz_aload_n hO dX10_report_11 rfl 0 rfl ?_
  refine hz_getR (k := 8) hO 176 hz_K_8 hz_sh_0 (hz_lt_0 hN) rfl (Nat.le_of_ble_eq_true rfl) tw_3_51 rfl dX10_report_12 ?_
  refine hz_getI (k := 2) hO hz_K_3 hz_sh_176 (hz_lt_176 hN) rfl (Nat.le_of_ble_eq_true rfl) tw_2_117 rfl dX10_report_15 ?_
  exact hz_nameM (hz_some_e h).2.symm (hz_name (hz_some_e h).1.symm (hz_iret hO dX10_report_18))
