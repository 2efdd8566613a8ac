-- X3_letterOf X7_begin X7_strainedAt X7_pass X8_append X8_appendText X8_advance X8_goOnIf X8_needNumber X9_reason X9_cause X10_feed X10_guest X10_towel X10_peg X10_locker X10_opening X10_step X10_letter X10_why X10_highest X10_account X10_heatBits X10_heatIn X10_downIn X10_dryIn
def f_X3_letterOf (a1 : Int32) (a2 : Int32) (M : hz_M) : hz_O :=
  hz_ct (f_X3_isGuest a1 M) fun r1 M2 =>
  if r1 = 0 then
    some ((-1 : Int32), M2)
  else
    if a2 < 0 then
      some ((-1 : Int32), M2)
    else
      hz_gd (hz_in a1 16) <|
      if a2 < (M2 4 (Int32.toNatClampNeg a1)) then
        hz_gd (hz_in ((a1 * (6 : Int32)) + a2) 96) <|
        some ((M2 3 (Int32.toNatClampNeg ((a1 * (6 : Int32)) + a2))), M2)
      else
        some ((-1 : Int32), M2)
set_option maxRecDepth 100000 in
set_option maxHeartbeats 4000000 in
theorem c_X3_letterOf (l : Launch) (w : hz_C) {N : Nat} (hN : 178 ≤ N) (a1 : Int32) (a2 : Int32) {M : hz_M} {rE : Int32} {ME : hz_M} (h : f_X3_letterOf a1 a2 M = some (rE, ME)) : hz_Ct l yX3_letterOf cX3_letterOf 3 (some .int) 1 w N [.ref (hz_ad w 1), .int a1, .int a2] M (hz_Qi w N rE ME) := by
  refine hz_ofW (by decide) rfl (Nat.le_of_ble_eq_true rfl) tw_4_184 ?_
  intro p e s m args below meth c hO
  show hz_G p l e 1 hz_z0 s m args below meth c w N 3 _ M 0 [(0, .ref (hz_ad w 1)), (1, .int a1), (2, .int a2)] []
  unfold f_X3_letterOf at h
  refine hz_aload_n hO dX3_letterOf_0 rfl 0 rfl ?_
  refine hz_iload_n hO dX3_letterOf_1 rfl 1 rfl ?_
  obtain ⟨r1, M2, hq3, h⟩ := hz_ct_e h
  refine hz_callVi (as := [.int a1]) (rest := []) hO (c_X3_isGuest l w hN a1 hq3) hz_cal_X3_isGuest hz_K_4 hz_sh_1 (hz_lt_1 hN) tw_4_185 (Nat.le_of_ble_eq_true rfl) rfl rfl (Nat.le_of_ble_eq_true rfl) dX3_letterOf_2 ?_
  refine hz_if_eq (tgt := 22) hO dX3_letterOf_5 (by decide) (fun hc4 => ?_) (fun hc4 => ?_)
  · rw [if_pos hc4] at h
    refine hz_iconst (v := (-1 : Int32)) hO dX3_letterOf_22 (by decide) ?_
    exact hz_nameM (hz_some_e h).2.symm (hz_name (hz_some_e h).1.symm (hz_iret hO dX3_letterOf_23))
  · rw [if_neg hc4] at h
    refine hz_iload_n hO dX3_letterOf_8 rfl 2 rfl ?_
    refine hz_if_lt (tgt := 22) hO dX3_letterOf_9 (by decide) (fun hc5 => ?_) (fun hc5 => ?_)
    · rw [if_pos hc5] at h
      refine hz_iconst (v := (-1 : Int32)) hO dX3_letterOf_22 (by decide) ?_
      exact hz_nameM (hz_some_e h).2.symm (hz_name (hz_some_e h).1.symm (hz_iret hO dX3_letterOf_23))
    · rw [if_neg hc5] at h
      refine hz_iload_n hO dX3_letterOf_12 rfl 2 rfl ?_
      refine hz_aload_n hO dX3_letterOf_13 rfl 0 rfl ?_
      refine hz_getR (k := 2) hO 4 hz_K_4 hz_sh_1 (hz_lt_1 hN) rfl (Nat.le_of_ble_eq_true rfl) tw_1_50 rfl dX3_letterOf_14 ?_
      refine hz_iload_n hO dX3_letterOf_17 rfl 1 rfl ?_
      obtain ⟨hg6, h⟩ := hz_gd_e h
      refine hz_iald hO hz_sh_4 (hz_lt_4 hN) hg6 dX3_letterOf_18 ?_
      refine hz_icmp_lt (tgt := 24) hO dX3_letterOf_19 (by decide) (fun hc7 => ?_) (fun hc7 => ?_)
      · rw [if_pos hc7] at h
        refine hz_aload_n hO dX3_letterOf_24 rfl 0 rfl ?_
        refine hz_getR (k := 1) hO 3 hz_K_4 hz_sh_1 (hz_lt_1 hN) rfl (Nat.le_of_ble_eq_true rfl) tw_1_49 rfl dX3_letterOf_25 ?_
        refine hz_iload_n hO dX3_letterOf_28 rfl 1 rfl ?_
        refine hz_bipush (v := (6 : Int32)) hO dX3_letterOf_29 (by decide) ?_
        refine hz_imul hO dX3_letterOf_31 ?_
        refine hz_iload_n hO dX3_letterOf_32 rfl 2 rfl ?_
        refine hz_iadd hO dX3_letterOf_33 ?_
        obtain ⟨hg8, h⟩ := hz_gd_e h
        refine hz_iald hO hz_sh_3 (hz_lt_3 hN) hg8 dX3_letterOf_34 ?_
        exact hz_nameM (hz_some_e h).2.symm (hz_name (hz_some_e h).1.symm (hz_iret hO dX3_letterOf_35))
      · rw [if_neg hc7] at h
        refine hz_iconst (v := (-1 : Int32)) hO dX3_letterOf_22 (by decide) ?_
        exact hz_nameM (hz_some_e h).2.symm (hz_name (hz_some_e h).1.symm (hz_iret hO dX3_letterOf_23))
def f_X7_begin_L155 : Nat → Int32 → hz_M → hz_O
  | 0, _, _ => none
  | n + 1, v1_20, M21 =>
    if (M21 1 6) ≤ v1_20 then
      some (0, M21)
    else
      hz_ct (f_X7_putOnPeg v1_20 v1_20 M21) fun r23 M24 =>
      hz_lt (v1_20 + (1 : Int32)) fun x26 =>
      f_X7_begin_L155 n x26 M24
def f_X7_begin (M : hz_M) : hz_O :=
  hz_lm (hz_set M 11 14 (0 : Int32)) fun M1 =>
  hz_lm (hz_set M1 11 15 (30 : Int32)) fun M2 =>
  hz_lm (hz_set M2 11 16 (-1 : Int32)) fun M3 =>
  hz_lm (hz_set M3 11 17 (M3 1 9)) fun M4 =>
  hz_lm (hz_set M4 11 18 (M4 1 10)) fun M5 =>
  hz_lm (hz_set M5 11 19 (M5 1 11)) fun M6 =>
  hz_lm (hz_fil M6 12 4 (0 : Int32)) fun M7 =>
  hz_lm (hz_fil M7 13 16 (-1 : Int32)) fun M8 =>
  hz_lm (hz_fil M8 14 16 (-1 : Int32)) fun M9 =>
  hz_lm (hz_fil M9 15 16 (-1 : Int32)) fun M10 =>
  hz_lm (hz_fil M10 16 16 (0 : Int32)) fun M11 =>
  hz_lm (hz_fil M11 17 16 (0 : Int32)) fun M12 =>
  hz_lm (hz_fil M12 18 16 (-1 : Int32)) fun M13 =>
  hz_lm (hz_fil M13 19 12 (-1 : Int32)) fun M14 =>
  hz_lm (hz_fil M14 20 16 (0 : Int32)) fun M15 =>
  hz_lm (hz_fil M15 21 16 (-1 : Int32)) fun M16 =>
  hz_lm (hz_fil M16 22 16 (-1 : Int32)) fun M17 =>
  hz_lm (hz_fil M17 23 16 (-1 : Int32)) fun M18 =>
  hz_lm (hz_fil M18 24 9 (0 : Int32)) fun M19 =>
  f_X7_begin_L155 hz_FU (0 : Int32) M19
set_option maxRecDepth 100000 in
set_option maxHeartbeats 4000000 in
theorem g_X7_begin_L155 {p : Program} {l : Launch} {e : Env} {s : State} {m : MethodId} {args : Array Value} {below : List Frame} {meth : Method} {c : Code} {w : hz_C} {N : Nat} (hN : 178 ≤ N) {rE : Int32} {ME : hz_M} (hO : hz_Ok p s m args meth c w cX7_begin 2 RX7 none) : ∀ (n : Nat) (v1_20 : Int32) (M21 : hz_M), f_X7_begin_L155 n v1_20 M21 = some (rE, ME) → hz_G p l e 1 hz_z0 s m args below meth c w N 2 (MQ below (hz_Qv w N ME) args s 0 0 (hz_A w)) M21 155 [(0, .ref (hz_ad w 11)), (1, .int v1_20)] [] := by
  intro n
  induction n with
  | zero =>
    intro v1_20 M21 h
    rw [f_X7_begin_L155] at h
    cases h
  | succ n ih =>
    intro v1_20 M21 h
    rw [f_X7_begin_L155] at h
    refine hz_iload_n hO dX7_begin_155 rfl 1 rfl ?_
    refine hz_aload_n hO dX7_begin_156 rfl 0 rfl ?_
    refine hz_getR (k := 0) hO 1 hz_K_7 hz_sh_11 (hz_lt_11 hN) rfl (Nat.le_of_ble_eq_true rfl) tw_1_146 rfl dX7_begin_157 ?_
    refine hz_getI (k := 6) hO hz_K_4 hz_sh_1 (hz_lt_1 hN) rfl (Nat.le_of_ble_eq_true rfl) tw_1_62 rfl dX7_begin_160 ?_
    refine hz_icmp_ge (tgt := 178) hO dX7_begin_163 (by decide) (fun hc22 => ?_) (fun hc22 => ?_)
    · rw [if_pos hc22] at h
      exact hz_nameM (hz_some_e h).2.symm (hz_vret hO dX7_begin_178)
    · rw [if_neg hc22] at h
      refine hz_aload_n hO dX7_begin_166 rfl 0 rfl ?_
      refine hz_iload_n hO dX7_begin_167 rfl 1 rfl ?_
      refine hz_iload_n hO dX7_begin_168 rfl 1 rfl ?_
      obtain ⟨r23, M24, hq25, h⟩ := hz_ct_e h
      refine hz_callVv (as := [.int v1_20, .int v1_20]) (rest := []) hO (c_X7_putOnPeg l w hN v1_20 v1_20 hq25) hz_cal_X7_putOnPeg hz_K_7 hz_sh_11 (hz_lt_11 hN) tw_3_24 (Nat.le_of_ble_eq_true rfl) rfl rfl (Nat.le_of_ble_eq_true rfl) dX7_begin_169 ?_
      obtain ⟨x26, h_x26, h⟩ := hz_lt_e h
      refine hz_iinc (k := 1) (v := x26) (ls1 := [(1, .int x26), (0, .ref (hz_ad w 11))]) hO dX7_begin_172 rfl (by rw [h_x26]; rfl) (Nat.le_of_ble_eq_true rfl) rfl ?_
      refine hz_goto (tgt := 155) hO dX7_begin_175 (by decide) ?_
      exact hz_ls [1, 0] rfl (ih x26 M24 h)
set_option maxRecDepth 100000 in
set_option maxHeartbeats 4000000 in
theorem c_X7_begin (l : Launch) (w : hz_C) {N : Nat} (hN : 178 ≤ N) {M : hz_M} {rE : Int32} {ME : hz_M} (h : f_X7_begin M = some (rE, ME)) : hz_Ct l yX7_begin cX7_begin 2 none 1 w N [.ref (hz_ad w 11)] M (hz_Qv w N ME) := by
  refine hz_ofW (by decide) rfl (Nat.le_of_ble_eq_true rfl) tw_3_20 ?_
  intro p e s m args below meth c hO
  show hz_G p l e 1 hz_z0 s m args below meth c w N 2 _ M 0 [(0, .ref (hz_ad w 11))] []
  unfold f_X7_begin at h
  refine hz_aload_n hO dX7_begin_0 rfl 0 rfl ?_
  refine hz_iconst (v := (0 : Int32)) hO dX7_begin_1 (by decide) ?_
  obtain ⟨M1, h_M1, h⟩ := hz_lm_e h
  refine hz_putI (k := 14) (ty := .int) hO hz_K_7 tyX7_ok nmX7 hz_sh_11 (hz_lt_11 hN) rfl (Nat.le_of_ble_eq_true rfl) tw_1_189 rfl rfl rfl rfl rfl dX7_begin_2 ?_
  refine hz_nameM h_M1 ?_
  refine hz_aload_n hO dX7_begin_5 rfl 0 rfl ?_
  refine hz_bipush (v := (30 : Int32)) hO dX7_begin_6 (by decide) ?_
  obtain ⟨M2, h_M2, h⟩ := hz_lm_e h
  refine hz_putI (k := 15) (ty := .int) hO hz_K_7 tyX7_ok nmX7 hz_sh_11 (hz_lt_11 hN) rfl (Nat.le_of_ble_eq_true rfl) tw_1_192 rfl rfl rfl rfl rfl dX7_begin_8 ?_
  refine hz_nameM h_M2 ?_
  refine hz_aload_n hO dX7_begin_11 rfl 0 rfl ?_
  refine hz_iconst (v := (-1 : Int32)) hO dX7_begin_12 (by decide) ?_
  obtain ⟨M3, h_M3, h⟩ := hz_lm_e h
  refine hz_putI (k := 16) (ty := .int) hO hz_K_7 tyX7_ok nmX7 hz_sh_11 (hz_lt_11 hN) rfl (Nat.le_of_ble_eq_true rfl) tw_1_194 rfl rfl rfl rfl rfl dX7_begin_13 ?_
  refine hz_nameM h_M3 ?_
  refine hz_aload_n hO dX7_begin_16 rfl 0 rfl ?_
  refine hz_aload_n hO dX7_begin_17 rfl 0 rfl ?_
  refine hz_getR (k := 0) hO 1 hz_K_7 hz_sh_11 (hz_lt_11 hN) rfl (Nat.le_of_ble_eq_true rfl) tw_1_146 rfl dX7_begin_18 ?_
  refine hz_getI (k := 9) hO hz_K_4 hz_sh_1 (hz_lt_1 hN) rfl (Nat.le_of_ble_eq_true rfl) tw_1_70 rfl dX7_begin_21 ?_
  obtain ⟨M4, h_M4, h⟩ := hz_lm_e h
  refine hz_putI (k := 17) (ty := .int) hO hz_K_7 tyX7_ok nmX7 hz_sh_11 (hz_lt_11 hN) rfl (Nat.le_of_ble_eq_true rfl) tw_1_195 rfl rfl rfl rfl rfl dX7_begin_24 ?_
  refine hz_nameM h_M4 ?_
  refine hz_aload_n hO dX7_begin_27 rfl 0 rfl ?_
  refine hz_aload_n hO dX7_begin_28 rfl 0 rfl ?_
  refine hz_getR (k := 0) hO 1 hz_K_7 hz_sh_11 (hz_lt_11 hN) rfl (Nat.le_of_ble_eq_true rfl) tw_1_146 rfl dX7_begin_29 ?_
  refine hz_getI (k := 10) hO hz_K_4 hz_sh_1 (hz_lt_1 hN) rfl (Nat.le_of_ble_eq_true rfl) tw_1_72 rfl dX7_begin_32 ?_
  obtain ⟨M5, h_M5, h⟩ := hz_lm_e h
  refine hz_putI (k := 18) (ty := .int) hO hz_K_7 tyX7_ok nmX7 hz_sh_11 (hz_lt_11 hN) rfl (Nat.le_of_ble_eq_true rfl) tw_1_198 rfl rfl rfl rfl rfl dX7_begin_35 ?_
  refine hz_nameM h_M5 ?_
  refine hz_aload_n hO dX7_begin_38 rfl 0 rfl ?_
  refine hz_aload_n hO dX7_begin_39 rfl 0 rfl ?_
  refine hz_getR (k := 0) hO 1 hz_K_7 hz_sh_11 (hz_lt_11 hN) rfl (Nat.le_of_ble_eq_true rfl) tw_1_146 rfl dX7_begin_40 ?_
  refine hz_getI (k := 11) hO hz_K_4 hz_sh_1 (hz_lt_1 hN) rfl (Nat.le_of_ble_eq_true rfl) tw_1_74 rfl dX7_begin_43 ?_
  obtain ⟨M6, h_M6, h⟩ := hz_lm_e h
  refine hz_putI (k := 19) (ty := .int) hO hz_K_7 tyX7_ok nmX7 hz_sh_11 (hz_lt_11 hN) rfl (Nat.le_of_ble_eq_true rfl) tw_1_200 rfl rfl rfl rfl rfl dX7_begin_46 ?_
  refine hz_nameM h_M6 ?_
  refine hz_aload_n hO dX7_begin_49 rfl 0 rfl ?_
  refine hz_getR (k := 1) hO 12 hz_K_7 hz_sh_11 (hz_lt_11 hN) rfl (Nat.le_of_ble_eq_true rfl) tw_1_147 rfl dX7_begin_50 ?_
  refine hz_iconst (v := (0 : Int32)) hO dX7_begin_53 (by decide) ?_
  obtain ⟨M7, h_M7, h⟩ := hz_lm_e h
  refine hz_callSv (as := [.ref (hz_ad w 12), .int (0 : Int32)]) (rest := []) hO (c_J7_fill_53178 l w hz_sh_12 (hz_lt_12 hN) (by decide) (0 : Int32)) hz_cal_J7_fill_53178 tw_3_21 (Nat.le_of_ble_eq_true rfl) rfl rfl (Nat.le_of_ble_eq_true rfl) dX7_begin_54 ?_
  refine hz_nameM h_M7 ?_
  refine hz_aload_n hO dX7_begin_57 rfl 0 rfl ?_
  refine hz_getR (k := 2) hO 13 hz_K_7 hz_sh_11 (hz_lt_11 hN) rfl (Nat.le_of_ble_eq_true rfl) tw_1_150 rfl dX7_begin_58 ?_
  refine hz_iconst (v := (-1 : Int32)) hO dX7_begin_61 (by decide) ?_
  obtain ⟨M8, h_M8, h⟩ := hz_lm_e h
  refine hz_callSv (as := [.ref (hz_ad w 13), .int (-1 : Int32)]) (rest := []) hO (c_J7_fill_53178 l w hz_sh_13 (hz_lt_13 hN) (by decide) (-1 : Int32)) hz_cal_J7_fill_53178 tw_3_21 (Nat.le_of_ble_eq_true rfl) rfl rfl (Nat.le_of_ble_eq_true rfl) dX7_begin_62 ?_
  refine hz_nameM h_M8 ?_
  refine hz_aload_n hO dX7_begin_65 rfl 0 rfl ?_
  refine hz_getR (k := 3) hO 14 hz_K_7 hz_sh_11 (hz_lt_11 hN) rfl (Nat.le_of_ble_eq_true rfl) tw_1_154 rfl dX7_begin_66 ?_
  refine hz_iconst (v := (-1 : Int32)) hO dX7_begin_69 (by decide) ?_
  obtain ⟨M9, h_M9, h⟩ := hz_lm_e h
  refine hz_callSv (as := [.ref (hz_ad w 14), .int (-1 : Int32)]) (rest := []) hO (c_J7_fill_53178 l w hz_sh_14 (hz_lt_14 hN) (by decide) (-1 : Int32)) hz_cal_J7_fill_53178 tw_3_21 (Nat.le_of_ble_eq_true rfl) rfl rfl (Nat.le_of_ble_eq_true rfl) dX7_begin_70 ?_
  refine hz_nameM h_M9 ?_
  refine hz_aload_n hO dX7_begin_73 rfl 0 rfl ?_
  refine hz_getR (k := 4) hO 15 hz_K_7 hz_sh_11 (hz_lt_11 hN) rfl (Nat.le_of_ble_eq_true rfl) tw_1_157 rfl dX7_begin_74 ?_
  refine hz_iconst (v := (-1 : Int32)) hO dX7_begin_77 (by decide) ?_
  obtain ⟨M10, h_M10, h⟩ := hz_lm_e h
  refine hz_callSv (as := [.ref (hz_ad w 15), .int (-1 : Int32)]) (rest := []) hO (c_J7_fill_53178 l w hz_sh_15 (hz_lt_15 hN) (by decide) (-1 : Int32)) hz_cal_J7_fill_53178 tw_3_21 (Nat.le_of_ble_eq_true rfl) rfl rfl (Nat.le_of_ble_eq_true rfl) dX7_begin_78 ?_
  refine hz_nameM h_M10 ?_
  refine hz_aload_n hO dX7_begin_81 rfl 0 rfl ?_
  refine hz_getR (k := 5) hO 16 hz_K_7 hz_sh_11 (hz_lt_11 hN) rfl (Nat.le_of_ble_eq_true rfl) tw_1_161 rfl dX7_begin_82 ?_
  refine hz_iconst (v := (0 : Int32)) hO dX7_begin_85 (by decide) ?_
  obtain ⟨M11, h_M11, h⟩ := hz_lm_e h
  refine hz_callSv (as := [.ref (hz_ad w 16), .int (0 : Int32)]) (rest := []) hO (c_J7_fill_53178 l w hz_sh_16 (hz_lt_16 hN) (by decide) (0 : Int32)) hz_cal_J7_fill_53178 tw_3_21 (Nat.le_of_ble_eq_true rfl) rfl rfl (Nat.le_of_ble_eq_true rfl) dX7_begin_86 ?_
  refine hz_nameM h_M11 ?_
  refine hz_aload_n hO dX7_begin_89 rfl 0 rfl ?_
  refine hz_getR (k := 6) hO 17 hz_K_7 hz_sh_11 (hz_lt_11 hN) rfl (Nat.le_of_ble_eq_true rfl) tw_1_164 rfl dX7_begin_90 ?_
  refine hz_iconst (v := (0 : Int32)) hO dX7_begin_93 (by decide) ?_
  obtain ⟨M12, h_M12, h⟩ := hz_lm_e h
  refine hz_callSv (as := [.ref (hz_ad w 17), .int (0 : Int32)]) (rest := []) hO (c_J7_fill_53178 l w hz_sh_17 (hz_lt_17 hN) (by decide) (0 : Int32)) hz_cal_J7_fill_53178 tw_3_21 (Nat.le_of_ble_eq_true rfl) rfl rfl (Nat.le_of_ble_eq_true rfl) dX7_begin_94 ?_
  refine hz_nameM h_M12 ?_
  refine hz_aload_n hO dX7_begin_97 rfl 0 rfl ?_
  refine hz_getR (k := 7) hO 18 hz_K_7 hz_sh_11 (hz_lt_11 hN) rfl (Nat.le_of_ble_eq_true rfl) tw_1_167 rfl dX7_begin_98 ?_
  refine hz_iconst (v := (-1 : Int32)) hO dX7_begin_101 (by decide) ?_
  obtain ⟨M13, h_M13, h⟩ := hz_lm_e h
  refine hz_callSv (as := [.ref (hz_ad w 18), .int (-1 : Int32)]) (rest := []) hO (c_J7_fill_53178 l w hz_sh_18 (hz_lt_18 hN) (by decide) (-1 : Int32)) hz_cal_J7_fill_53178 tw_3_21 (Nat.le_of_ble_eq_true rfl) rfl rfl (Nat.le_of_ble_eq_true rfl) dX7_begin_102 ?_
  refine hz_nameM h_M13 ?_
  refine hz_aload_n hO dX7_begin_105 rfl 0 rfl ?_
  refine hz_getR (k := 8) hO 19 hz_K_7 hz_sh_11 (hz_lt_11 hN) rfl (Nat.le_of_ble_eq_true rfl) tw_1_171 rfl dX7_begin_106 ?_
  refine hz_iconst (v := (-1 : Int32)) hO dX7_begin_109 (by decide) ?_
  obtain ⟨M14, h_M14, h⟩ := hz_lm_e h
  refine hz_callSv (as := [.ref (hz_ad w 19), .int (-1 : Int32)]) (rest := []) hO (c_J7_fill_53178 l w hz_sh_19 (hz_lt_19 hN) (by decide) (-1 : Int32)) hz_cal_J7_fill_53178 tw_3_21 (Nat.le_of_ble_eq_true rfl) rfl rfl (Nat.le_of_ble_eq_true rfl) dX7_begin_110 ?_
  refine hz_nameM h_M14 ?_
  refine hz_aload_n hO dX7_begin_113 rfl 0 rfl ?_
  refine hz_getR (k := 9) hO 20 hz_K_7 hz_sh_11 (hz_lt_11 hN) rfl (Nat.le_of_ble_eq_true rfl) tw_1_174 rfl dX7_begin_114 ?_
  refine hz_iconst (v := (0 : Int32)) hO dX7_begin_117 (by decide) ?_
  obtain ⟨M15, h_M15, h⟩ := hz_lm_e h
  refine hz_callSv (as := [.ref (hz_ad w 20), .int (0 : Int32)]) (rest := []) hO (c_J7_fill_53178 l w hz_sh_20 (hz_lt_20 hN) (by decide) (0 : Int32)) hz_cal_J7_fill_53178 tw_3_21 (Nat.le_of_ble_eq_true rfl) rfl rfl (Nat.le_of_ble_eq_true rfl) dX7_begin_118 ?_
  refine hz_nameM h_M15 ?_
  refine hz_aload_n hO dX7_begin_121 rfl 0 rfl ?_
  refine hz_getR (k := 10) hO 21 hz_K_7 hz_sh_11 (hz_lt_11 hN) rfl (Nat.le_of_ble_eq_true rfl) tw_1_177 rfl dX7_begin_122 ?_
  refine hz_iconst (v := (-1 : Int32)) hO dX7_begin_125 (by decide) ?_
  obtain ⟨M16, h_M16, h⟩ := hz_lm_e h
  refine hz_callSv (as := [.ref (hz_ad w 21), .int (-1 : Int32)]) (rest := []) hO (c_J7_fill_53178 l w hz_sh_21 (hz_lt_21 hN) (by decide) (-1 : Int32)) hz_cal_J7_fill_53178 tw_3_21 (Nat.le_of_ble_eq_true rfl) rfl rfl (Nat.le_of_ble_eq_true rfl) dX7_begin_126 ?_
  refine hz_nameM h_M16 ?_
  refine hz_aload_n hO dX7_begin_129 rfl 0 rfl ?_
  refine hz_getR (k := 11) hO 22 hz_K_7 hz_sh_11 (hz_lt_11 hN) rfl (Nat.le_of_ble_eq_true rfl) tw_1_179 rfl dX7_begin_130 ?_
  refine hz_iconst (v := (-1 : Int32)) hO dX7_begin_133 (by decide) ?_
  obtain ⟨M17, h_M17, h⟩ := hz_lm_e h
  refine hz_callSv (as := [.ref (hz_ad w 22), .int (-1 : Int32)]) (rest := []) hO (c_J7_fill_53178 l w hz_sh_22 (hz_lt_22 hN) (by decide) (-1 : Int32)) hz_cal_J7_fill_53178 tw_3_21 (Nat.le_of_ble_eq_true rfl) rfl rfl (Nat.le_of_ble_eq_true rfl) dX7_begin_134 ?_
  refine hz_nameM h_M17 ?_
  refine hz_aload_n hO dX7_begin_137 rfl 0 rfl ?_
  refine hz_getR (k := 12) hO 23 hz_K_7 hz_sh_11 (hz_lt_11 hN) rfl (Nat.le_of_ble_eq_true rfl) tw_1_182 rfl dX7_begin_138 ?_
  refine hz_iconst (v := (-1 : Int32)) hO dX7_begin_141 (by decide) ?_
  obtain ⟨M18, h_M18, h⟩ := hz_lm_e h
  refine hz_callSv (as := [.ref (hz_ad w 23), .int (-1 : Int32)]) (rest := []) hO (c_J7_fill_53178 l w hz_sh_23 (hz_lt_23 hN) (by decide) (-1 : Int32)) hz_cal_J7_fill_53178 tw_3_21 (Nat.le_of_ble_eq_true rfl) rfl rfl (Nat.le_of_ble_eq_true rfl) dX7_begin_142 ?_
  refine hz_nameM h_M18 ?_
  refine hz_aload_n hO dX7_begin_145 rfl 0 rfl ?_
  refine hz_getR (k := 13) hO 24 hz_K_7 hz_sh_11 (hz_lt_11 hN) rfl (Nat.le_of_ble_eq_true rfl) tw_1_186 rfl dX7_begin_146 ?_
  refine hz_iconst (v := (0 : Int32)) hO dX7_begin_149 (by decide) ?_
  obtain ⟨M19, h_M19, h⟩ := hz_lm_e h
  refine hz_callSv (as := [.ref (hz_ad w 24), .int (0 : Int32)]) (rest := []) hO (c_J7_fill_53178 l w hz_sh_24 (hz_lt_24 hN) (by decide) (0 : Int32)) hz_cal_J7_fill_53178 tw_3_21 (Nat.le_of_ble_eq_true rfl) rfl rfl (Nat.le_of_ble_eq_true rfl) dX7_begin_150 ?_
  refine hz_nameM h_M19 ?_
  refine hz_iconst (v := (0 : Int32)) hO dX7_begin_153 (by decide) ?_
  refine hz_istore_n (ls1 := [(1, .int (0 : Int32)), (0, .ref (hz_ad w 11))]) hO dX7_begin_154 rfl (Nat.le_of_ble_eq_true rfl) rfl ?_
  exact hz_ls [1, 0] rfl (g_X7_begin_L155 hN hO _ (0 : Int32) M19 h)
def f_X7_strainedAt_L4 : Nat → Int32 → Int32 → Int32 → hz_M → hz_O
  | 0, _, _, _, _ => none
  | n + 1, v1_1, v2_2, v3_3, M4 =>
    if (M4 1 3) ≤ v3_3 then
      some (v2_2, M4)
    else
      hz_gd (hz_in v3_3 16) <|
      hz_jn (fun (v1_7 : Int32) (v2_8 : Int32) (v3_9 : Int32) (M10 : hz_M) =>
        hz_lt (v3_9 + (1 : Int32)) fun x11 =>
        f_X7_strainedAt_L4 n v1_7 v2_8 x11 M10
        ) fun k12 =>
      if (M4 13 (Int32.toNatClampNeg v3_3)) = v1_1 then
        hz_ct (f_X7_temperature v1_1 M4) fun r14 M15 =>
        hz_ct (f_X3_bears v3_3 M15) fun r17 M18 =>
        if r14 ≤ r17 then
          k12 v1_1 v2_2 v3_3 M18
        else
          hz_lt (v2_2 + (1 : Int32)) fun x21 =>
          k12 v1_1 x21 v3_3 M18
      else
        k12 v1_1 v2_2 v3_3 M4
def f_X7_strainedAt (a1 : Int32) (M : hz_M) : hz_O :=
  f_X7_strainedAt_L4 hz_FU a1 (0 : Int32) (0 : Int32) M
set_option maxRecDepth 100000 in
set_option maxHeartbeats 4000000 in
theorem g_X7_strainedAt_L4 {p : Program} {l : Launch} {e : Env} {s : State} {m : MethodId} {args : Array Value} {below : List Frame} {meth : Method} {c : Code} {w : hz_C} {N : Nat} (hN : 178 ≤ N) {rE : Int32} {ME : hz_M} (hO : hz_Ok p s m args meth c w cX7_strainedAt 4 RX7 (some .int)) : ∀ (n : Nat) (v1_1 : Int32) (v2_2 : Int32) (v3_3 : Int32) (M4 : hz_M), f_X7_strainedAt_L4 n v1_1 v2_2 v3_3 M4 = some (rE, ME) → hz_G p l e 1 hz_z0 s m args below meth c w N 4 (MQ below (hz_Qi w N rE ME) args s 0 0 (hz_A w)) M4 4 [(0, .ref (hz_ad w 11)), (1, .int v1_1), (2, .int v2_2), (3, .int v3_3)] [] := by
  intro n
  induction n with
  | zero =>
    intro v1_1 v2_2 v3_3 M4 h
    rw [f_X7_strainedAt_L4] at h
    cases h
  | succ n ih =>
    intro v1_1 v2_2 v3_3 M4 h
    rw [f_X7_strainedAt_L4] at h
    refine hz_iload_n hO dX7_strainedAt_4 rfl 3 rfl ?_
    refine hz_aload_n hO dX7_strainedAt_5 rfl 0 rfl ?_
    refine hz_getR (k := 0) hO 1 hz_K_7 hz_sh_11 (hz_lt_11 hN) rfl (Nat.le_of_ble_eq_true rfl) tw_1_146 rfl dX7_strainedAt_6 ?_
    refine hz_getI (k := 3) hO hz_K_4 hz_sh_1 (hz_lt_1 hN) rfl (Nat.le_of_ble_eq_true rfl) tw_1_53 rfl dX7_strainedAt_9 ?_
    refine hz_icmp_ge (tgt := 50) hO dX7_strainedAt_12 (by decide) (fun hc5 => ?_) (fun hc5 => ?_)
    · rw [if_pos hc5] at h
      refine hz_iload_n hO dX7_strainedAt_50 rfl 2 rfl ?_
      exact hz_nameM (hz_some_e h).2.symm (hz_name (hz_some_e h).1.symm (hz_iret hO dX7_strainedAt_51))
    · rw [if_neg hc5] at h
      refine hz_aload_n hO dX7_strainedAt_15 rfl 0 rfl ?_
      refine hz_getR (k := 2) hO 13 hz_K_7 hz_sh_11 (hz_lt_11 hN) rfl (Nat.le_of_ble_eq_true rfl) tw_1_150 rfl dX7_strainedAt_16 ?_
      refine hz_iload_n hO dX7_strainedAt_19 rfl 3 rfl ?_
      obtain ⟨hg6, h⟩ := hz_gd_e h
      refine hz_iald hO hz_sh_13 (hz_lt_13 hN) hg6 dX7_strainedAt_20 ?_
      refine hz_iload_n hO dX7_strainedAt_21 rfl 1 rfl ?_
      obtain ⟨k12, hk12, h⟩ := hz_jn_e h
      have gk12 : ∀ (v1_7 : Int32) (v2_8 : Int32) (v3_9 : Int32) (M10 : hz_M), k12 v1_7 v2_8 v3_9 M10 = some (rE, ME) → hz_G p l e 1 hz_z0 s m args below meth c w N 4 (MQ below (hz_Qi w N rE ME) args s 0 0 (hz_A w)) M10 44 [(0, .ref (hz_ad w 11)), (1, .int v1_7), (2, .int v2_8), (3, .int v3_9)] [] := by
        intro v1_7 v2_8 v3_9 M10 h
        rw [hk12] at h
        dsimp only at h
        obtain ⟨x11, h_x11, h⟩ := hz_lt_e h
        refine hz_iinc (k := 3) (v := x11) (ls1 := [(3, .int x11), (0, .ref (hz_ad w 11)), (1, .int v1_7), (2, .int v2_8)]) hO dX7_strainedAt_44 rfl (by rw [h_x11]; rfl) (Nat.le_of_ble_eq_true rfl) rfl ?_
        refine hz_goto (tgt := 4) hO dX7_strainedAt_47 (by decide) ?_
        exact hz_ls [1, 2, 3, 0] rfl (ih v1_7 v2_8 x11 M10 h)
      clear hk12
      refine hz_icmp_ne (tgt := 44) hO dX7_strainedAt_22 (by decide) (fun hc13 => ?_) (fun hc13 => ?_)
      · rw [if_neg hc13] at h
        exact hz_ls [0, 1, 2, 3] rfl (gk12 v1_1 v2_2 v3_3 M4 h)
      · rw [if_pos hc13] at h
        refine hz_aload_n hO dX7_strainedAt_25 rfl 0 rfl ?_
        refine hz_iload_n hO dX7_strainedAt_26 rfl 1 rfl ?_
        obtain ⟨r14, M15, hq16, h⟩ := hz_ct_e h
        refine hz_callVi (as := [.int v1_1]) (rest := []) hO (c_X7_temperature l w hN v1_1 hq16) hz_cal_X7_temperature hz_K_7 hz_sh_11 (hz_lt_11 hN) tw_4_208 (Nat.le_of_ble_eq_true rfl) rfl rfl (Nat.le_of_ble_eq_true rfl) dX7_strainedAt_27 ?_
        refine hz_aload_n hO dX7_strainedAt_30 rfl 0 rfl ?_
        refine hz_getR (k := 0) hO 1 hz_K_7 hz_sh_11 (hz_lt_11 hN) rfl (Nat.le_of_ble_eq_true rfl) tw_1_146 rfl dX7_strainedAt_31 ?_
        refine hz_iload_n hO dX7_strainedAt_34 rfl 3 rfl ?_
        obtain ⟨r17, M18, hq19, h⟩ := hz_ct_e h
        refine hz_callVi (as := [.int v3_3]) (rest := [.int r14]) hO (c_X3_bears l w hN v3_3 hq19) hz_cal_X3_bears hz_K_4 hz_sh_1 (hz_lt_1 hN) tw_4_209 (Nat.le_of_ble_eq_true rfl) rfl rfl (Nat.le_of_ble_eq_true rfl) dX7_strainedAt_35 ?_
        refine hz_icmp_le (tgt := 44) hO dX7_strainedAt_38 (by decide) (fun hc20 => ?_) (fun hc20 => ?_)
        · rw [if_pos hc20] at h
          exact hz_ls [0, 1, 2, 3] rfl (gk12 v1_1 v2_2 v3_3 M18 h)
        · rw [if_neg hc20] at h
          obtain ⟨x21, h_x21, h⟩ := hz_lt_e h
          refine hz_iinc (k := 2) (v := x21) (ls1 := [(2, .int x21), (0, .ref (hz_ad w 11)), (1, .int v1_1), (3, .int v3_3)]) hO dX7_strainedAt_41 rfl (by rw [h_x21]; rfl) (Nat.le_of_ble_eq_true rfl) rfl ?_
          exact hz_ls [1, 2, 0, 3] rfl (gk12 v1_1 x21 v3_3 M18 h)
set_option maxRecDepth 100000 in
set_option maxHeartbeats 4000000 in
theorem c_X7_strainedAt (l : Launch) (w : hz_C) {N : Nat} (hN : 178 ≤ N) (a1 : Int32) {M : hz_M} {rE : Int32} {ME : hz_M} (h : f_X7_strainedAt a1 M = some (rE, ME)) : hz_Ct l yX7_strainedAt cX7_strainedAt 4 (some .int) 1 w N [.ref (hz_ad w 11), .int a1] M (hz_Qi w N rE ME) := by
  refine hz_ofW (by decide) rfl (Nat.le_of_ble_eq_true rfl) tw_4_207 ?_
  intro p e s m args below meth c hO
  show hz_G p l e 1 hz_z0 s m args below meth c w N 4 _ M 0 [(0, .ref (hz_ad w 11)), (1, .int a1)] []
  unfold f_X7_strainedAt at h
  refine hz_iconst (v := (0 : Int32)) hO dX7_strainedAt_0 (by decide) ?_
  refine hz_istore_n (ls1 := [(2, .int (0 : Int32)), (0, .ref (hz_ad w 11)), (1, .int a1)]) hO dX7_strainedAt_1 rfl (Nat.le_of_ble_eq_true rfl) rfl ?_
  refine hz_iconst (v := (0 : Int32)) hO dX7_strainedAt_2 (by decide) ?_
  refine hz_istore_n (ls1 := [(3, .int (0 : Int32)), (2, .int (0 : Int32)), (0, .ref (hz_ad w 11)), (1, .int a1)]) hO dX7_strainedAt_3 rfl (Nat.le_of_ble_eq_true rfl) rfl ?_
  exact hz_ls [2, 3, 1, 0] rfl (g_X7_strainedAt_L4 hN hO _ a1 (0 : Int32) (0 : Int32) M h)
def f_X7_pass_L61 (kk113 : Int32 → Int32 → Int32 → hz_M → hz_O) : Nat → Int32 → Int32 → Int32 → Int32 → hz_M → hz_O
  | 0, _, _, _, _, _ => none
  | n + 1, v1_31, v2_32, v3_33, v4_34, M35 =>
    if (M35 1 3) ≤ v4_34 then
      kk113 v1_31 v2_32 v3_33 M35
    else
      hz_ct (f_X7_strainGuest v4_34 M35) fun r37 M38 =>
      hz_gd (hz_in v4_34 16) <|
      hz_jn (fun (v1_41 : Int32) (v2_42 : Int32) (v3_43 : Int32) (v4_44 : Int32) (M45 : hz_M) =>
        hz_lt (v4_44 + (1 : Int32)) fun x46 =>
        f_X7_pass_L61 kk113 n v1_41 v2_42 v3_43 x46 M45
        ) fun k47 =>
      if (M38 16 (Int32.toNatClampNeg v4_34)) < (10 : Int32) then
        k47 v1_31 v2_32 v3_33 v4_34 M38
      else
        hz_gd (hz_in v4_34 16) <|
        if (M38 13 (Int32.toNatClampNeg v4_34)) ≤ 0 then
          k47 v1_31 v2_32 v3_33 v4_34 M38
        else
          hz_ct (f_X7_comeDown v4_34 M38) fun r51 M52 =>
          k47 v1_31 v2_32 v3_33 v4_34 M52
def f_X7_pass_L9 (kk119 : Int32 → hz_M → hz_O) : Nat → Int32 → Int32 → Int32 → hz_M → hz_O
  | 0, _, _, _, _ => none
  | n + 1, v1_5, v2_6, v3_7, M8 =>
    if v1_5 ≤ v3_7 then
      kk119 v2_6 M8
    else
      hz_lm (hz_set M8 11 14 ((M8 11 14) + (1 : Int32))) fun M10 =>
      hz_lm (hz_set M10 24 (Int32.toNatClampNeg (8 : Int32)) ((M10 24 (Int32.toNatClampNeg (8 : Int32))) + (1 : Int32))) fun M11 =>
      hz_ct (f_X7_soundGong M11) fun r12 M13 =>
      hz_ct (f_X7_steam M13) fun r15 M16 =>
      hz_ct (f_X7_heatBehind (M13 11 15) r15 M16) fun r18 M19 =>
      hz_lm (hz_set M19 11 15 r18) fun M21 =>
      hz_ct (f_X7_changeTowels M21) fun r22 M23 =>
      hz_jn (fun (v1_25 : Int32) (v2_26 : Int32) (v3_27 : Int32) (M28 : hz_M) =>
        hz_lt (v3_27 + (1 : Int32)) fun x29 =>
        f_X7_pass_L9 kk119 n v1_25 v2_26 x29 M28
        ) fun k30 =>
      f_X7_pass_L61 k30 hz_FU v1_5 v2_6 v3_7 (0 : Int32) M23
def f_X7_pass (a1 : Int32) (M : hz_M) : hz_O :=
  hz_lt ((M 24 (Int32.toNatClampNeg (4 : Int32)))) fun x1 =>
  hz_jn (fun (v2_2 : Int32) (M3 : hz_M) =>
    some (((M3 24 (Int32.toNatClampNeg (4 : Int32))) - v2_2), M3)
    ) fun k4 =>
  f_X7_pass_L9 k4 hz_FU a1 x1 (0 : Int32) M
set_option maxRecDepth 100000 in
set_option maxHeartbeats 4000000 in
theorem g_X7_pass_L61 {p : Program} {l : Launch} {e : Env} {s : State} {m : MethodId} {args : Array Value} {below : List Frame} {meth : Method} {c : Code} {w : hz_C} {N : Nat} (hN : 178 ≤ N) {rE : Int32} {ME : hz_M} (hO : hz_Ok p s m args meth c w cX7_pass 5 RX7 (some .int)) (kk113 : Int32 → Int32 → Int32 → hz_M → hz_O) (gkk113 : ∀ (v1_25 : Int32) (v2_26 : Int32) (v3_27 : Int32) (M : hz_M), kk113 v1_25 v2_26 v3_27 M = some (rE, ME) → hz_G p l e 3 hz_z0 s m args below meth c w N 5 (MQ below (hz_Qi w N rE ME) args s 0 0 (hz_A w)) M 113 [(0, .ref (hz_ad w 11)), (1, .int v1_25), (2, .int v2_26), (3, .int v3_27)] []) : ∀ (n : Nat) (v1_31 : Int32) (v2_32 : Int32) (v3_33 : Int32) (v4_34 : Int32) (M35 : hz_M), f_X7_pass_L61 kk113 n v1_31 v2_32 v3_33 v4_34 M35 = some (rE, ME) → hz_G p l e 3 hz_z0 s m args below meth c w N 5 (MQ below (hz_Qi w N rE ME) args s 0 0 (hz_A w)) M35 61 [(0, .ref (hz_ad w 11)), (1, .int v1_31), (2, .int v2_32), (3, .int v3_33), (4, .int v4_34)] [] := by
  intro n
  induction n with
  | zero =>
    intro v1_31 v2_32 v3_33 v4_34 M35 h
    rw [f_X7_pass_L61] at h
    cases h
  | succ n ih =>
    intro v1_31 v2_32 v3_33 v4_34 M35 h
    rw [f_X7_pass_L61] at h
    refine hz_iload hO dX7_pass_61 4 rfl ?_
    refine hz_aload_n hO dX7_pass_63 rfl 0 rfl ?_
    refine hz_getR (k := 0) hO 1 hz_K_7 hz_sh_11 (hz_lt_11 hN) rfl (Nat.le_of_ble_eq_true rfl) tw_1_146 rfl dX7_pass_64 ?_
    refine hz_getI (k := 3) hO hz_K_4 hz_sh_1 (hz_lt_1 hN) rfl (Nat.le_of_ble_eq_true rfl) tw_1_53 rfl dX7_pass_67 ?_
    refine hz_icmp_ge (tgt := 113) hO dX7_pass_70 (by decide) (fun hc36 => ?_) (fun hc36 => ?_)
    · rw [if_pos hc36] at h
      exact hz_ls [0, 1, 2, 3] rfl (gkk113 v1_31 v2_32 v3_33 M35 h)
    · rw [if_neg hc36] at h
      refine hz_aload_n hO dX7_pass_73 rfl 0 rfl ?_
      refine hz_iload hO dX7_pass_74 4 rfl ?_
      obtain ⟨r37, M38, hq39, h⟩ := hz_ct_e h
      refine hz_callVv (as := [.int v4_34]) (rest := []) hO (c_X7_strainGuest l w hN v4_34 hq39) hz_cal_X7_strainGuest hz_K_7 hz_sh_11 (hz_lt_11 hN) tw_6_9 (Nat.le_of_ble_eq_true rfl) rfl rfl (Nat.le_of_ble_eq_true rfl) dX7_pass_76 ?_
      refine hz_aload_n hO dX7_pass_79 rfl 0 rfl ?_
      refine hz_getR (k := 5) hO 16 hz_K_7 hz_sh_11 (hz_lt_11 hN) rfl (Nat.le_of_ble_eq_true rfl) tw_1_161 rfl dX7_pass_80 ?_
      refine hz_iload hO dX7_pass_83 4 rfl ?_
      obtain ⟨hg40, h⟩ := hz_gd_e h
      refine hz_iald hO hz_sh_16 (hz_lt_16 hN) hg40 dX7_pass_85 ?_
      refine hz_bipush (v := (10 : Int32)) hO dX7_pass_86 (by decide) ?_
      obtain ⟨k47, hk47, h⟩ := hz_jn_e h
      have gk47 : ∀ (v1_41 : Int32) (v2_42 : Int32) (v3_43 : Int32) (v4_44 : Int32) (M45 : hz_M), k47 v1_41 v2_42 v3_43 v4_44 M45 = some (rE, ME) → hz_G p l e 3 hz_z0 s m args below meth c w N 5 (MQ below (hz_Qi w N rE ME) args s 0 0 (hz_A w)) M45 107 [(0, .ref (hz_ad w 11)), (1, .int v1_41), (2, .int v2_42), (3, .int v3_43), (4, .int v4_44)] [] := by
        intro v1_41 v2_42 v3_43 v4_44 M45 h
        rw [hk47] at h
        dsimp only at h
        obtain ⟨x46, h_x46, h⟩ := hz_lt_e h
        refine hz_iinc (k := 4) (v := x46) (ls1 := [(4, .int x46), (0, .ref (hz_ad w 11)), (1, .int v1_41), (2, .int v2_42), (3, .int v3_43)]) hO dX7_pass_107 rfl (by rw [h_x46]; rfl) (Nat.le_of_ble_eq_true rfl) rfl ?_
        refine hz_goto (tgt := 61) hO dX7_pass_110 (by decide) ?_
        exact hz_ls [1, 2, 3, 4, 0] rfl (ih v1_41 v2_42 v3_43 x46 M45 h)
      clear hk47
      refine hz_icmp_lt (tgt := 107) hO dX7_pass_88 (by decide) (fun hc48 => ?_) (fun hc48 => ?_)
      · rw [if_pos hc48] at h
        exact hz_ls [0, 1, 2, 3, 4] rfl (gk47 v1_31 v2_32 v3_33 v4_34 M38 h)
      · rw [if_neg hc48] at h
        refine hz_aload_n hO dX7_pass_91 rfl 0 rfl ?_
        refine hz_getR (k := 2) hO 13 hz_K_7 hz_sh_11 (hz_lt_11 hN) rfl (Nat.le_of_ble_eq_true rfl) tw_1_150 rfl dX7_pass_92 ?_
        refine hz_iload hO dX7_pass_95 4 rfl ?_
        obtain ⟨hg49, h⟩ := hz_gd_e h
        refine hz_iald hO hz_sh_13 (hz_lt_13 hN) hg49 dX7_pass_97 ?_
        refine hz_if_le (tgt := 107) hO dX7_pass_98 (by decide) (fun hc50 => ?_) (fun hc50 => ?_)
        · rw [if_pos hc50] at h
          exact hz_ls [0, 1, 2, 3, 4] rfl (gk47 v1_31 v2_32 v3_33 v4_34 M38 h)
        · rw [if_neg hc50] at h
          refine hz_aload_n hO dX7_pass_101 rfl 0 rfl ?_
          refine hz_iload hO dX7_pass_102 4 rfl ?_
          obtain ⟨r51, M52, hq53, h⟩ := hz_ct_e h
          refine hz_callVv (as := [.int v4_34]) (rest := []) hO (c_X7_comeDown l w hN v4_34 hq53) hz_cal_X7_comeDown hz_K_7 hz_sh_11 (hz_lt_11 hN) tw_6_14 (Nat.le_of_ble_eq_true rfl) rfl rfl (Nat.le_of_ble_eq_true rfl) dX7_pass_104 ?_
          exact hz_ls [0, 1, 2, 3, 4] rfl (gk47 v1_31 v2_32 v3_33 v4_34 M52 h)
set_option maxRecDepth 100000 in
set_option maxHeartbeats 4000000 in
theorem g_X7_pass_L9 {p : Program} {l : Launch} {e : Env} {s : State} {m : MethodId} {args : Array Value} {below : List Frame} {meth : Method} {c : Code} {w : hz_C} {N : Nat} (hN : 178 ≤ N) {rE : Int32} {ME : hz_M} (hO : hz_Ok p s m args meth c w cX7_pass 5 RX7 (some .int)) (kk119 : Int32 → hz_M → hz_O) (gkk119 : ∀ (v2_2 : Int32) (M : hz_M), kk119 v2_2 M = some (rE, ME) → hz_G p l e 3 hz_z0 s m args below meth c w N 5 (MQ below (hz_Qi w N rE ME) args s 0 0 (hz_A w)) M 119 [(0, .ref (hz_ad w 11)), (2, .int v2_2)] []) : ∀ (n : Nat) (v1_5 : Int32) (v2_6 : Int32) (v3_7 : Int32) (M8 : hz_M), f_X7_pass_L9 kk119 n v1_5 v2_6 v3_7 M8 = some (rE, ME) → hz_G p l e 3 hz_z0 s m args below meth c w N 5 (MQ below (hz_Qi w N rE ME) args s 0 0 (hz_A w)) M8 9 [(0, .ref (hz_ad w 11)), (1, .int v1_5), (2, .int v2_6), (3, .int v3_7)] [] := by
  intro n
  induction n with
  | zero =>
    intro v1_5 v2_6 v3_7 M8 h
    rw [f_X7_pass_L9] at h
    cases h
  | succ n ih =>
    intro v1_5 v2_6 v3_7 M8 h
    rw [f_X7_pass_L9] at h
    refine hz_iload_n hO dX7_pass_9 rfl 3 rfl ?_
    refine hz_iload_n hO dX7_pass_10 rfl 1 rfl ?_
    refine hz_icmp_ge (tgt := 119) hO dX7_pass_11 (by decide) (fun hc9 => ?_) (fun hc9 => ?_)
    · rw [if_pos hc9] at h
      exact hz_ls [0, 2] rfl (gkk119 v2_6 M8 h)
    · rw [if_neg hc9] at h
      refine hz_aload_n hO dX7_pass_14 rfl 0 rfl ?_
      refine hz_dup hO dX7_pass_15 rfl ?_
      refine hz_getI (k := 14) hO hz_K_7 hz_sh_11 (hz_lt_11 hN) rfl (Nat.le_of_ble_eq_true rfl) tw_1_189 rfl dX7_pass_16 ?_
      refine hz_iconst (v := (1 : Int32)) hO dX7_pass_19 (by decide) ?_
      refine hz_iadd hO dX7_pass_20 ?_
      obtain ⟨M10, h_M10, h⟩ := hz_lm_e h
      refine hz_putI (k := 14) (ty := .int) hO hz_K_7 tyX7_ok nmX7 hz_sh_11 (hz_lt_11 hN) rfl (Nat.le_of_ble_eq_true rfl) tw_1_189 rfl rfl rfl rfl rfl dX7_pass_21 ?_
      refine hz_nameM h_M10 ?_
      refine hz_aload_n hO dX7_pass_24 rfl 0 rfl ?_
      refine hz_getR (k := 13) hO 24 hz_K_7 hz_sh_11 (hz_lt_11 hN) rfl (Nat.le_of_ble_eq_true rfl) tw_1_186 rfl dX7_pass_25 ?_
      refine hz_bipush (v := (8 : Int32)) hO dX7_pass_28 (by decide) ?_
      refine hz_dup2 hO dX7_pass_30 rfl rfl ?_
      refine hz_iald hO hz_sh_24 (hz_lt_24 hN) (by decide) dX7_pass_31 ?_
      refine hz_iconst (v := (1 : Int32)) hO dX7_pass_32 (by decide) ?_
      refine hz_iadd hO dX7_pass_33 ?_
      obtain ⟨M11, h_M11, h⟩ := hz_lm_e h
      refine hz_iast hO hz_sh_24 (hz_lt_24 hN) (by decide) dX7_pass_34 ?_
      refine hz_nameM h_M11 ?_
      refine hz_aload_n hO dX7_pass_35 rfl 0 rfl ?_
      obtain ⟨r12, M13, hq14, h⟩ := hz_ct_e h
      refine hz_callVv (as := []) (rest := []) hO (c_X7_soundGong l w hN hq14) hz_cal_X7_soundGong hz_K_7 hz_sh_11 (hz_lt_11 hN) tw_5_238 (Nat.le_of_ble_eq_true rfl) rfl rfl (Nat.le_of_ble_eq_true rfl) dX7_pass_36 ?_
      refine hz_aload_n hO dX7_pass_39 rfl 0 rfl ?_
      refine hz_aload_n hO dX7_pass_40 rfl 0 rfl ?_
      refine hz_getI (k := 15) hO hz_K_7 hz_sh_11 (hz_lt_11 hN) rfl (Nat.le_of_ble_eq_true rfl) tw_1_192 rfl dX7_pass_41 ?_
      refine hz_aload_n hO dX7_pass_44 rfl 0 rfl ?_
      obtain ⟨r15, M16, hq17, h⟩ := hz_ct_e h
      refine hz_callVi (as := []) (rest := [.int (M13 11 15), .ref (hz_ad w 11)]) hO (c_X7_steam l w hN hq17) hz_cal_X7_steam hz_K_7 hz_sh_11 (hz_lt_11 hN) tw_6_2 (Nat.le_of_ble_eq_true rfl) rfl rfl (Nat.le_of_ble_eq_true rfl) dX7_pass_45 ?_
      obtain ⟨r18, M19, hq20, h⟩ := hz_ct_e h
      refine hz_callSi (as := [.int (M13 11 15), .int r15]) (rest := [.ref (hz_ad w 11)]) hO (c_X7_heatBehind l w hN (M13 11 15) r15 hq20) hz_cal_X7_heatBehind tw_6_3 (Nat.le_of_ble_eq_true rfl) rfl rfl (Nat.le_of_ble_eq_true rfl) dX7_pass_48 ?_
      obtain ⟨M21, h_M21, h⟩ := hz_lm_e h
      refine hz_putI (k := 15) (ty := .int) hO hz_K_7 tyX7_ok nmX7 hz_sh_11 (hz_lt_11 hN) rfl (Nat.le_of_ble_eq_true rfl) tw_1_192 rfl rfl rfl rfl rfl dX7_pass_51 ?_
      refine hz_nameM h_M21 ?_
      refine hz_aload_n hO dX7_pass_54 rfl 0 rfl ?_
      obtain ⟨r22, M23, hq24, h⟩ := hz_ct_e h
      refine hz_callVv (as := []) (rest := []) hO (c_X7_changeTowels l w hN hq24) hz_cal_X7_changeTowels hz_K_7 hz_sh_11 (hz_lt_11 hN) tw_6_4 (Nat.le_of_ble_eq_true rfl) rfl rfl (Nat.le_of_ble_eq_true rfl) dX7_pass_55 ?_
      refine hz_iconst (v := (0 : Int32)) hO dX7_pass_58 (by decide) ?_
      refine hz_istore (ls1 := [(4, .int (0 : Int32)), (0, .ref (hz_ad w 11)), (1, .int v1_5), (2, .int v2_6), (3, .int v3_7)]) hO dX7_pass_59 (Nat.le_of_ble_eq_true rfl) rfl ?_
      obtain ⟨k30, hk30, h⟩ := hz_jn_e h
      have gk30 : ∀ (v1_25 : Int32) (v2_26 : Int32) (v3_27 : Int32) (M28 : hz_M), k30 v1_25 v2_26 v3_27 M28 = some (rE, ME) → hz_G p l e 3 hz_z0 s m args below meth c w N 5 (MQ below (hz_Qi w N rE ME) args s 0 0 (hz_A w)) M28 113 [(0, .ref (hz_ad w 11)), (1, .int v1_25), (2, .int v2_26), (3, .int v3_27)] [] := by
        intro v1_25 v2_26 v3_27 M28 h
        rw [hk30] at h
        dsimp only at h
        obtain ⟨x29, h_x29, h⟩ := hz_lt_e h
        refine hz_iinc (k := 3) (v := x29) (ls1 := [(3, .int x29), (0, .ref (hz_ad w 11)), (1, .int v1_25), (2, .int v2_26)]) hO dX7_pass_113 rfl (by rw [h_x29]; rfl) (Nat.le_of_ble_eq_true rfl) rfl ?_
        refine hz_goto (tgt := 9) hO dX7_pass_116 (by decide) ?_
        exact hz_ls [1, 2, 3, 0] rfl (ih v1_25 v2_26 x29 M28 h)
      clear hk30
      exact hz_ls [1, 2, 3, 4, 0] rfl (g_X7_pass_L61 hN hO _ gk30 _ v1_5 v2_6 v3_7 (0 : Int32) M23 h)
set_option maxRecDepth 100000 in
set_option maxHeartbeats 4000000 in
theorem c_X7_pass (l : Launch) (w : hz_C) {N : Nat} (hN : 178 ≤ N) (a1 : Int32) {M : hz_M} {rE : Int32} {ME : hz_M} (h : f_X7_pass a1 M = some (rE, ME)) : hz_Ct l yX7_pass cX7_pass 5 (some .int) 3 w N [.ref (hz_ad w 11), .int a1] M (hz_Qi w N rE ME) := by
  refine hz_ofW (by decide) rfl (Nat.le_of_ble_eq_true rfl) tw_5_237 ?_
  intro p e s m args below meth c hO
  show hz_G p l e 3 hz_z0 s m args below meth c w N 5 _ M 0 [(0, .ref (hz_ad w 11)), (1, .int a1)] []
  unfold f_X7_pass at h
  refine hz_aload_n hO dX7_pass_0 rfl 0 rfl ?_
  refine hz_getR (k := 13) hO 24 hz_K_7 hz_sh_11 (hz_lt_11 hN) rfl (Nat.le_of_ble_eq_true rfl) tw_1_186 rfl dX7_pass_1 ?_
  refine hz_iconst (v := (4 : Int32)) hO dX7_pass_4 (by decide) ?_
  refine hz_iald hO hz_sh_24 (hz_lt_24 hN) (by decide) dX7_pass_5 ?_
  obtain ⟨x1, h_x1, h⟩ := hz_lt_e h
  refine hz_name h_x1 ?_
  refine hz_istore_n (ls1 := [(2, .int x1), (0, .ref (hz_ad w 11)), (1, .int a1)]) hO dX7_pass_6 rfl (Nat.le_of_ble_eq_true rfl) rfl ?_
  refine hz_iconst (v := (0 : Int32)) hO dX7_pass_7 (by decide) ?_
  refine hz_istore_n (ls1 := [(3, .int (0 : Int32)), (2, .int x1), (0, .ref (hz_ad w 11)), (1, .int a1)]) hO dX7_pass_8 rfl (Nat.le_of_ble_eq_true rfl) rfl ?_
  obtain ⟨k4, hk4, h⟩ := hz_jn_e h
  have gk4 : ∀ (v2_2 : Int32) (M3 : hz_M), k4 v2_2 M3 = some (rE, ME) → hz_G p l e 3 hz_z0 s m args below meth c w N 5 (MQ below (hz_Qi w N rE ME) args s 0 0 (hz_A w)) M3 119 [(0, .ref (hz_ad w 11)), (2, .int v2_2)] [] := by
    intro v2_2 M3 h
    rw [hk4] at h
    dsimp only at h
    refine hz_aload_n hO dX7_pass_119 rfl 0 rfl ?_
    refine hz_getR (k := 13) hO 24 hz_K_7 hz_sh_11 (hz_lt_11 hN) rfl (Nat.le_of_ble_eq_true rfl) tw_1_186 rfl dX7_pass_120 ?_
    refine hz_iconst (v := (4 : Int32)) hO dX7_pass_123 (by decide) ?_
    refine hz_iald hO hz_sh_24 (hz_lt_24 hN) (by decide) dX7_pass_124 ?_
    refine hz_iload_n hO dX7_pass_125 rfl 1 rfl ?_
    refine hz_isub hO dX7_pass_126 ?_
    exact hz_nameM (hz_some_e h).2.symm (hz_name (hz_some_e h).1.symm (hz_iret hO dX7_pass_127))
  clear hk4
  exact hz_ls [2, 3, 1, 0] rfl (g_X7_pass_L9 hN hO _ gk4 _ a1 x1 (0 : Int32) M h)
def f_X8_append_L3 : Nat → Int32 → Int32 → hz_M → hz_O
  | 0, _, _, _ => none
  | n + 1, v1_1, v2_2, M3 =>
    if v2_2 < 0 then
      some (0, M3)
    else
      hz_ct (f_X8_put (((v1_1).toUInt32 >>> ((v2_2).toUInt32 &&& Int32.toUInt32 31)).toInt32 &&& (255 : Int32)) M3) fun r5 M6 =>
      hz_lt (v2_2 + (-8 : Int32)) fun x8 =>
      f_X8_append_L3 n v1_1 x8 M6
def f_X8_append (a1 : Int32) (M : hz_M) : hz_O :=
  f_X8_append_L3 hz_FU a1 (24 : Int32) M
set_option maxRecDepth 100000 in
set_option maxHeartbeats 4000000 in
theorem g_X8_append_L3 {p : Program} {l : Launch} {e : Env} {s : State} {m : MethodId} {args : Array Value} {below : List Frame} {meth : Method} {c : Code} {w : hz_C} {N : Nat} (hN : 178 ≤ N) {rE : Int32} {ME : hz_M} (hO : hz_Ok p s m args meth c w cX8_append 3 RX8 none) : ∀ (n : Nat) (v1_1 : Int32) (v2_2 : Int32) (M3 : hz_M), f_X8_append_L3 n v1_1 v2_2 M3 = some (rE, ME) → hz_G p l e 1 hz_z0 s m args below meth c w N 3 (MQ below (hz_Qv w N ME) args s 0 0 (hz_A w)) M3 3 [(0, .ref (hz_ad w 9)), (1, .int v1_1), (2, .int v2_2)] [] := by
  intro n
  induction n with
  | zero =>
    intro v1_1 v2_2 M3 h
    rw [f_X8_append_L3] at h
    cases h
  | succ n ih =>
    intro v1_1 v2_2 M3 h
    rw [f_X8_append_L3] at h
    refine hz_iload_n hO dX8_append_3 rfl 2 rfl ?_
    refine hz_if_lt (tgt := 24) hO dX8_append_4 (by decide) (fun hc4 => ?_) (fun hc4 => ?_)
    · rw [if_pos hc4] at h
      exact hz_nameM (hz_some_e h).2.symm (hz_vret hO dX8_append_24)
    · rw [if_neg hc4] at h
      refine hz_aload_n hO dX8_append_7 rfl 0 rfl ?_
      refine hz_iload_n hO dX8_append_8 rfl 1 rfl ?_
      refine hz_iload_n hO dX8_append_9 rfl 2 rfl ?_
      refine hz_iushr hO dX8_append_10 ?_
      refine hz_sipush (v := (255 : Int32)) hO dX8_append_11 (by decide) ?_
      refine hz_iand hO dX8_append_14 ?_
      obtain ⟨r5, M6, hq7, h⟩ := hz_ct_e h
      refine hz_callVv (as := [.int (((v1_1).toUInt32 >>> ((v2_2).toUInt32 &&& Int32.toUInt32 31)).toInt32 &&& (255 : Int32))]) (rest := []) hO (c_X8_put l w hN (((v1_1).toUInt32 >>> ((v2_2).toUInt32 &&& Int32.toUInt32 31)).toInt32 &&& (255 : Int32)) hq7) hz_cal_X8_put hz_K_8 hz_sh_9 (hz_lt_9 hN) tw_2_163 (Nat.le_of_ble_eq_true rfl) rfl rfl (Nat.le_of_ble_eq_true rfl) dX8_append_15 ?_
      obtain ⟨x8, h_x8, h⟩ := hz_lt_e h
      refine hz_iinc (k := 2) (v := x8) (ls1 := [(2, .int x8), (0, .ref (hz_ad w 9)), (1, .int v1_1)]) hO dX8_append_18 rfl (by rw [h_x8]; rfl) (Nat.le_of_ble_eq_true rfl) rfl ?_
      refine hz_goto (tgt := 3) hO dX8_append_21 (by decide) ?_
      exact hz_ls [1, 2, 0] rfl (ih v1_1 x8 M6 h)
set_option maxRecDepth 100000 in
set_option maxHeartbeats 4000000 in
theorem c_X8_append (l : Launch) (w : hz_C) {N : Nat} (hN : 178 ≤ N) (a1 : Int32) {M : hz_M} {rE : Int32} {ME : hz_M} (h : f_X8_append a1 M = some (rE, ME)) : hz_Ct l yX8_append cX8_append 3 none 1 w N [.ref (hz_ad w 9), .int a1] M (hz_Qv w N ME) := by
  refine hz_ofW (by decide) rfl (Nat.le_of_ble_eq_true rfl) tw_7_121 ?_
  intro p e s m args below meth c hO
  show hz_G p l e 1 hz_z0 s m args below meth c w N 3 _ M 0 [(0, .ref (hz_ad w 9)), (1, .int a1)] []
  unfold f_X8_append at h
  refine hz_bipush (v := (24 : Int32)) hO dX8_append_0 (by decide) ?_
  refine hz_istore_n (ls1 := [(2, .int (24 : Int32)), (0, .ref (hz_ad w 9)), (1, .int a1)]) hO dX8_append_2 rfl (Nat.le_of_ble_eq_true rfl) rfl ?_
  exact hz_ls [1, 2, 0] rfl (g_X8_append_L3 hN hO _ a1 (24 : Int32) M h)
def f_X8_appendText_L2 : Nat → Nat → Int32 → hz_M → hz_O
  | 0, _, _, _ => none
  | n + 1, v1_1, v2_2, M3 =>
    hz_gd (hz_sok v1_1) <|
    if (hz_sl v1_1) ≤ v2_2 then
      some (0, M3)
    else
      hz_gd (hz_sok v1_1) <|
      hz_gd (hz_in v2_2 (hz_len.getD v1_1 0)) <|
      hz_ct (f_X8_put (hz_cc v1_1 v2_2) M3) fun r8 M9 =>
      hz_lt (v2_2 + (1 : Int32)) fun x11 =>
      f_X8_appendText_L2 n v1_1 x11 M9
def f_X8_appendText (a1 : Nat) (M : hz_M) : hz_O :=
  f_X8_appendText_L2 hz_FU a1 (0 : Int32) M
set_option maxRecDepth 100000 in
set_option maxHeartbeats 4000000 in
theorem g_X8_appendText_L2 {p : Program} {l : Launch} {e : Env} {s : State} {m : MethodId} {args : Array Value} {below : List Frame} {meth : Method} {c : Code} {w : hz_C} {N : Nat} (hN : 178 ≤ N) {rE : Int32} {ME : hz_M} (hO : hz_Ok p s m args meth c w cX8_appendText 3 RX8 none) : ∀ (n : Nat) (v1_1 : Nat) (v2_2 : Int32) (M3 : hz_M), f_X8_appendText_L2 n v1_1 v2_2 M3 = some (rE, ME) → hz_G p l e 4 hz_z0 s m args below meth c w N 3 (MQ below (hz_Qv w N ME) args s 0 0 (hz_A w)) M3 2 [(0, .ref (hz_ad w 9)), (1, .ref (hz_sa w v1_1)), (2, .int v2_2)] [] := by
  intro n
  induction n with
  | zero =>
    intro v1_1 v2_2 M3 h
    rw [f_X8_appendText_L2] at h
    cases h
  | succ n ih =>
    intro v1_1 v2_2 M3 h
    rw [f_X8_appendText_L2] at h
    refine hz_iload_n hO dX8_appendText_2 rfl 2 rfl ?_
    refine hz_aload_n hO dX8_appendText_3 rfl 1 rfl ?_
    obtain ⟨hg4, h⟩ := hz_gd_e h
    refine hz_callTi (as := []) (rest := [.int v2_2]) hO (c_J0_length_8abf5 l w (hz_sok_e hg4) hO.2.2.2.1.2.1.1) hz_cal_J0_length_8abf5 (Nat.lt_of_lt_of_le (hz_sok_e hg4) hO.2.2.2.1.2.1.1) tw_2_115 (Nat.le_of_ble_eq_true rfl) rfl rfl (Nat.le_of_ble_eq_true rfl) dX8_appendText_4 ?_
    refine hz_icmp_ge (tgt := 25) hO dX8_appendText_7 (by decide) (fun hc5 => ?_) (fun hc5 => ?_)
    · rw [if_pos hc5] at h
      exact hz_nameM (hz_some_e h).2.symm (hz_vret hO dX8_appendText_25)
    · rw [if_neg hc5] at h
      refine hz_aload_n hO dX8_appendText_10 rfl 0 rfl ?_
      refine hz_aload_n hO dX8_appendText_11 rfl 1 rfl ?_
      refine hz_iload_n hO dX8_appendText_12 rfl 2 rfl ?_
      obtain ⟨hg6, h⟩ := hz_gd_e h
      obtain ⟨hg7, h⟩ := hz_gd_e h
      refine hz_callTi (as := [.int v2_2]) (rest := [.ref (hz_ad w 9)]) hO (c_J0_charAt_5068e l w (hz_sok_e hg6) hO.2.2.2.1.2.1.1 hg7) hz_cal_J0_charAt_5068e (Nat.lt_of_lt_of_le (hz_sok_e hg6) hO.2.2.2.1.2.1.1) tw_2_125 (Nat.le_of_ble_eq_true rfl) rfl rfl (Nat.le_of_ble_eq_true rfl) dX8_appendText_13 ?_
      obtain ⟨r8, M9, hq10, h⟩ := hz_ct_e h
      refine hz_callVv (as := [.int (hz_cc v1_1 v2_2)]) (rest := []) hO (c_X8_put l w hN (hz_cc v1_1 v2_2) hq10) hz_cal_X8_put hz_K_8 hz_sh_9 (hz_lt_9 hN) tw_2_163 (Nat.le_of_ble_eq_true rfl) rfl rfl (Nat.le_of_ble_eq_true rfl) dX8_appendText_16 ?_
      obtain ⟨x11, h_x11, h⟩ := hz_lt_e h
      refine hz_iinc (k := 2) (v := x11) (ls1 := [(2, .int x11), (0, .ref (hz_ad w 9)), (1, .ref (hz_sa w v1_1))]) hO dX8_appendText_19 rfl (by rw [h_x11]; rfl) (Nat.le_of_ble_eq_true rfl) rfl ?_
      refine hz_goto (tgt := 2) hO dX8_appendText_22 (by decide) ?_
      exact hz_ls [1, 2, 0] rfl (ih v1_1 x11 M9 h)
set_option maxRecDepth 100000 in
set_option maxHeartbeats 4000000 in
theorem c_X8_appendText (l : Launch) (w : hz_C) {N : Nat} (hN : 178 ≤ N) (a1 : Nat) {M : hz_M} {rE : Int32} {ME : hz_M} (h : f_X8_appendText a1 M = some (rE, ME)) : hz_Ct l yX8_appendText cX8_appendText 3 none 4 w N [.ref (hz_ad w 9), .ref (hz_sa w a1)] M (hz_Qv w N ME) := by
  refine hz_ofW (by decide) rfl (Nat.le_of_ble_eq_true rfl) tw_2_114 ?_
  intro p e s m args below meth c hO
  show hz_G p l e 4 hz_z0 s m args below meth c w N 3 _ M 0 [(0, .ref (hz_ad w 9)), (1, .ref (hz_sa w a1))] []
  unfold f_X8_appendText at h
  refine hz_iconst (v := (0 : Int32)) hO dX8_appendText_0 (by decide) ?_
  refine hz_istore_n (ls1 := [(2, .int (0 : Int32)), (0, .ref (hz_ad w 9)), (1, .ref (hz_sa w a1))]) hO dX8_appendText_1 rfl (Nat.le_of_ble_eq_true rfl) rfl ?_
  exact hz_ls [1, 2, 0] rfl (g_X8_appendText_L2 hN hO _ a1 (0 : Int32) M h)
def f_X8_advance_L143 : Nat → hz_M → hz_O
  | 0, _ => none
  | n + 1, M27 =>
    if (M27 9 1) ≤ (M27 9 4) then
      some (0, M27)
    else
      hz_ct (f_X8_byteAt (M27 9 4) M27) fun r29 M30 =>
      hz_ct (f_X8_isDigit r29 M30) fun r32 M33 =>
      if r32 = 0 then
        some (0, M33)
      else
        hz_ct (f_X8_byteAt (M33 9 4) M33) fun r36 M37 =>
        hz_lm (hz_set M37 9 5 (if ((((M33 9 5) * (10 : Int32)) + r36) - (48 : Int32)) < (10000 : Int32) then ((((M33 9 5) * (10 : Int32)) + r36) - (48 : Int32)) else (10000 : Int32))) fun M39 =>
        hz_lm (hz_set M39 9 4 ((M39 9 4) + (1 : Int32))) fun M40 =>
        f_X8_advance_L143 n M40
def f_X8_advance_L88 : Nat → hz_M → hz_O
  | 0, _ => none
  | n + 1, M42 =>
    if (M42 9 1) ≤ (M42 9 4) then
      some (0, M42)
    else
      hz_ct (f_X8_byteAt (M42 9 4) M42) fun r44 M45 =>
      hz_ct (f_X8_isLetter r44 M45) fun r47 M48 =>
      if r47 = 0 then
        some (0, M48)
      else
        hz_lm (hz_set M48 9 4 ((M48 9 4) + (1 : Int32))) fun M51 =>
        f_X8_advance_L88 n M51
def f_X8_advance_L8 (kk46 : hz_M → hz_O) : Nat → hz_M → hz_O
  | 0, _ => none
  | n + 1, M54 =>
    if (M54 9 1) ≤ (M54 9 3) then
      kk46 M54
    else
      hz_ct (f_X8_byteAt (M54 9 3) M54) fun r56 M57 =>
      hz_ct (f_X8_isBlank r56 M57) fun r59 M60 =>
      if r59 = 0 then
        kk46 M60
      else
        hz_lm (hz_set M60 9 3 ((M60 9 3) + (1 : Int32))) fun M63 =>
        f_X8_advance_L8 kk46 n M63
def f_X8_advance (M : hz_M) : hz_O :=
  hz_lm (hz_set M 9 3 (M 9 4)) fun M1 =>
  hz_jn (fun  (M2 : hz_M) =>
    hz_ct (f_X8_byteAt (M2 9 3) M2) fun r3 M4 =>
    hz_lm (hz_set M4 9 4 (M4 9 3)) fun M6 =>
    if r3 = (-1 : Int32) then
      hz_lm (hz_set M6 9 2 (0 : Int32)) fun M52 =>
      some (0, M52)
    else
      hz_ct (f_X8_isLetter r3 M6) fun r8 M9 =>
      if r8 = 0 then
        hz_ct (f_X8_isDigit r3 M9) fun r12 M13 =>
        if r12 = 0 then
          hz_ct (f_X8_isSign r3 M13) fun r16 M17 =>
          hz_jn (fun (q19 : Int32) (M20 : hz_M) =>
            hz_lm (hz_set M20 9 2 q19) fun M21 =>
            hz_lm (hz_set M21 9 4 ((M21 9 4) + (1 : Int32))) fun M22 =>
            some (0, M22)
            ) fun k23 =>
          if r16 = 0 then
            k23 (3 : Int32) M17
          else
            k23 r3 M17
        else
          hz_lm (hz_set M13 9 2 (2 : Int32)) fun M25 =>
          hz_lm (hz_set M25 9 5 (0 : Int32)) fun M26 =>
          f_X8_advance_L143 hz_FU M26
      else
        hz_lm (hz_set M9 9 2 (1 : Int32)) fun M41 =>
        f_X8_advance_L88 hz_FU M41
    ) fun k53 =>
  f_X8_advance_L8 k53 hz_FU M1
set_option maxRecDepth 100000 in
set_option maxHeartbeats 4000000 in
theorem g_X8_advance_L143 {p : Program} {l : Launch} {e : Env} {s : State} {m : MethodId} {args : Array Value} {below : List Frame} {meth : Method} {c : Code} {w : hz_C} {N : Nat} (hN : 178 ≤ N) {rE : Int32} {ME : hz_M} (hO : hz_Ok p s m args meth c w cX8_advance 2 RX8 none) : ∀ (n : Nat)  (M27 : hz_M), f_X8_advance_L143 n M27 = some (rE, ME) → hz_G p l e 1 hz_z0 s m args below meth c w N 2 (MQ below (hz_Qv w N ME) args s 0 0 (hz_A w)) M27 143 [(0, .ref (hz_ad w 9))] [] := by
  intro n
  induction n with
  | zero =>
    intro M27 h
    rw [f_X8_advance_L143] at h
    cases h
  | succ n ih =>
    intro M27 h
    rw [f_X8_advance_L143] at h
    refine hz_aload_n hO dX8_advance_143 rfl 0 rfl ?_
    refine hz_getI (k := 4) hO hz_K_8 hz_sh_9 (hz_lt_9 hN) rfl (Nat.le_of_ble_eq_true rfl) tw_1_116 rfl dX8_advance_144 ?_
    refine hz_aload_n hO dX8_advance_147 rfl 0 rfl ?_
    refine hz_getI (k := 1) hO hz_K_8 hz_sh_9 (hz_lt_9 hN) rfl (Nat.le_of_ble_eq_true rfl) tw_1_109 rfl dX8_advance_148 ?_
    refine hz_icmp_ge (tgt := 236) hO dX8_advance_151 (by decide) (fun hc28 => ?_) (fun hc28 => ?_)
    · rw [if_pos hc28] at h
      exact hz_nameM (hz_some_e h).2.symm (hz_vret hO dX8_advance_236)
    · rw [if_neg hc28] at h
      refine hz_aload_n hO dX8_advance_154 rfl 0 rfl ?_
      refine hz_aload_n hO dX8_advance_155 rfl 0 rfl ?_
      refine hz_getI (k := 4) hO hz_K_8 hz_sh_9 (hz_lt_9 hN) rfl (Nat.le_of_ble_eq_true rfl) tw_1_116 rfl dX8_advance_156 ?_
      obtain ⟨r29, M30, hq31, h⟩ := hz_ct_e h
      refine hz_callVi (as := [.int (M27 9 4)]) (rest := []) hO (c_X8_byteAt l w hN (M27 9 4) hq31) hz_cal_X8_byteAt hz_K_8 hz_sh_9 (hz_lt_9 hN) tw_2_179 (Nat.le_of_ble_eq_true rfl) rfl rfl (Nat.le_of_ble_eq_true rfl) dX8_advance_159 ?_
      obtain ⟨r32, M33, hq34, h⟩ := hz_ct_e h
      refine hz_callSi (as := [.int r29]) (rest := []) hO (c_X8_isDigit l w hN r29 hq34) hz_cal_X8_isDigit tw_2_189 (Nat.le_of_ble_eq_true rfl) rfl rfl (Nat.le_of_ble_eq_true rfl) dX8_advance_162 ?_
      refine hz_if_eq (tgt := 236) hO dX8_advance_165 (by decide) (fun hc35 => ?_) (fun hc35 => ?_)
      · rw [if_pos hc35] at h
        exact hz_nameM (hz_some_e h).2.symm (hz_vret hO dX8_advance_236)
      · rw [if_neg hc35] at h
        refine hz_aload_n hO dX8_advance_168 rfl 0 rfl ?_
        refine hz_sipush (v := (10000 : Int32)) hO dX8_advance_169 (by decide) ?_
        refine hz_aload_n hO dX8_advance_172 rfl 0 rfl ?_
        refine hz_getI (k := 5) hO hz_K_8 hz_sh_9 (hz_lt_9 hN) rfl (Nat.le_of_ble_eq_true rfl) tw_1_117 rfl dX8_advance_173 ?_
        refine hz_bipush (v := (10 : Int32)) hO dX8_advance_176 (by decide) ?_
        refine hz_imul hO dX8_advance_178 ?_
        refine hz_aload_n hO dX8_advance_179 rfl 0 rfl ?_
        refine hz_aload_n hO dX8_advance_180 rfl 0 rfl ?_
        refine hz_getI (k := 4) hO hz_K_8 hz_sh_9 (hz_lt_9 hN) rfl (Nat.le_of_ble_eq_true rfl) tw_1_116 rfl dX8_advance_181 ?_
        obtain ⟨r36, M37, hq38, h⟩ := hz_ct_e h
        refine hz_callVi (as := [.int (M33 9 4)]) (rest := [.int ((M33 9 5) * (10 : Int32)), .int (10000 : Int32), .ref (hz_ad w 9)]) hO (c_X8_byteAt l w hN (M33 9 4) hq38) hz_cal_X8_byteAt hz_K_8 hz_sh_9 (hz_lt_9 hN) tw_2_179 (Nat.le_of_ble_eq_true rfl) rfl rfl (Nat.le_of_ble_eq_true rfl) dX8_advance_184 ?_
        refine hz_iadd hO dX8_advance_187 ?_
        refine hz_bipush (v := (48 : Int32)) hO dX8_advance_188 (by decide) ?_
        refine hz_isub hO dX8_advance_190 ?_
        refine hz_mmin hO tw_2_192 (Nat.le_of_ble_eq_true rfl) (Nat.le_of_ble_eq_true rfl) dX8_advance_191 ?_
        obtain ⟨M39, h_M39, h⟩ := hz_lm_e h
        refine hz_putI (k := 5) (ty := .int) hO hz_K_8 tyX8_ok nmX8 hz_sh_9 (hz_lt_9 hN) rfl (Nat.le_of_ble_eq_true rfl) tw_1_117 rfl rfl rfl rfl rfl dX8_advance_194 ?_
        refine hz_nameM h_M39 ?_
        refine hz_aload_n hO dX8_advance_197 rfl 0 rfl ?_
        refine hz_dup hO dX8_advance_198 rfl ?_
        refine hz_getI (k := 4) hO hz_K_8 hz_sh_9 (hz_lt_9 hN) rfl (Nat.le_of_ble_eq_true rfl) tw_1_116 rfl dX8_advance_199 ?_
        refine hz_iconst (v := (1 : Int32)) hO dX8_advance_202 (by decide) ?_
        refine hz_iadd hO dX8_advance_203 ?_
        obtain ⟨M40, h_M40, h⟩ := hz_lm_e h
        refine hz_putI (k := 4) (ty := .int) hO hz_K_8 tyX8_ok nmX8 hz_sh_9 (hz_lt_9 hN) rfl (Nat.le_of_ble_eq_true rfl) tw_1_116 rfl rfl rfl rfl rfl dX8_advance_204 ?_
        refine hz_nameM h_M40 ?_
        refine hz_goto (tgt := 143) hO dX8_advance_207 (by decide) ?_
        exact hz_ls [0] rfl (ih M40 h)
set_option maxRecDepth 100000 in
set_option maxHeartbeats 4000000 in
theorem g_X8_advance_L88 {p : Program} {l : Launch} {e : Env} {s : State} {m : MethodId} {args : Array Value} {below : List Frame} {meth : Method} {c : Code} {w : hz_C} {N : Nat} (hN : 178 ≤ N) {rE : Int32} {ME : hz_M} (hO : hz_Ok p s m args meth c w cX8_advance 2 RX8 none) : ∀ (n : Nat)  (M42 : hz_M), f_X8_advance_L88 n M42 = some (rE, ME) → hz_G p l e 1 hz_z0 s m args below meth c w N 2 (MQ below (hz_Qv w N ME) args s 0 0 (hz_A w)) M42 88 [(0, .ref (hz_ad w 9))] [] := by
  intro n
  induction n with
  | zero =>
    intro M42 h
    rw [f_X8_advance_L88] at h
    cases h
  | succ n ih =>
    intro M42 h
    rw [f_X8_advance_L88] at h
    refine hz_aload_n hO dX8_advance_88 rfl 0 rfl ?_
    refine hz_getI (k := 4) hO hz_K_8 hz_sh_9 (hz_lt_9 hN) rfl (Nat.le_of_ble_eq_true rfl) tw_1_116 rfl dX8_advance_89 ?_
    refine hz_aload_n hO dX8_advance_92 rfl 0 rfl ?_
    refine hz_getI (k := 1) hO hz_K_8 hz_sh_9 (hz_lt_9 hN) rfl (Nat.le_of_ble_eq_true rfl) tw_1_109 rfl dX8_advance_93 ?_
    refine hz_icmp_ge (tgt := 236) hO dX8_advance_96 (by decide) (fun hc43 => ?_) (fun hc43 => ?_)
    · rw [if_pos hc43] at h
      exact hz_nameM (hz_some_e h).2.symm (hz_vret hO dX8_advance_236)
    · rw [if_neg hc43] at h
      refine hz_aload_n hO dX8_advance_99 rfl 0 rfl ?_
      refine hz_aload_n hO dX8_advance_100 rfl 0 rfl ?_
      refine hz_getI (k := 4) hO hz_K_8 hz_sh_9 (hz_lt_9 hN) rfl (Nat.le_of_ble_eq_true rfl) tw_1_116 rfl dX8_advance_101 ?_
      obtain ⟨r44, M45, hq46, h⟩ := hz_ct_e h
      refine hz_callVi (as := [.int (M42 9 4)]) (rest := []) hO (c_X8_byteAt l w hN (M42 9 4) hq46) hz_cal_X8_byteAt hz_K_8 hz_sh_9 (hz_lt_9 hN) tw_2_179 (Nat.le_of_ble_eq_true rfl) rfl rfl (Nat.le_of_ble_eq_true rfl) dX8_advance_104 ?_
      obtain ⟨r47, M48, hq49, h⟩ := hz_ct_e h
      refine hz_callSi (as := [.int r44]) (rest := []) hO (c_X8_isLetter l w hN r44 hq49) hz_cal_X8_isLetter tw_2_186 (Nat.le_of_ble_eq_true rfl) rfl rfl (Nat.le_of_ble_eq_true rfl) dX8_advance_107 ?_
      refine hz_if_eq (tgt := 236) hO dX8_advance_110 (by decide) (fun hc50 => ?_) (fun hc50 => ?_)
      · rw [if_pos hc50] at h
        exact hz_nameM (hz_some_e h).2.symm (hz_vret hO dX8_advance_236)
      · rw [if_neg hc50] at h
        refine hz_aload_n hO dX8_advance_113 rfl 0 rfl ?_
        refine hz_dup hO dX8_advance_114 rfl ?_
        refine hz_getI (k := 4) hO hz_K_8 hz_sh_9 (hz_lt_9 hN) rfl (Nat.le_of_ble_eq_true rfl) tw_1_116 rfl dX8_advance_115 ?_
        refine hz_iconst (v := (1 : Int32)) hO dX8_advance_118 (by decide) ?_
        refine hz_iadd hO dX8_advance_119 ?_
        obtain ⟨M51, h_M51, h⟩ := hz_lm_e h
        refine hz_putI (k := 4) (ty := .int) hO hz_K_8 tyX8_ok nmX8 hz_sh_9 (hz_lt_9 hN) rfl (Nat.le_of_ble_eq_true rfl) tw_1_116 rfl rfl rfl rfl rfl dX8_advance_120 ?_
        refine hz_nameM h_M51 ?_
        refine hz_goto (tgt := 88) hO dX8_advance_123 (by decide) ?_
        exact hz_ls [0] rfl (ih M51 h)
set_option maxRecDepth 100000 in
set_option maxHeartbeats 4000000 in
theorem g_X8_advance_L8 {p : Program} {l : Launch} {e : Env} {s : State} {m : MethodId} {args : Array Value} {below : List Frame} {meth : Method} {c : Code} {w : hz_C} {N : Nat} (hN : 178 ≤ N) {rE : Int32} {ME : hz_M} (hO : hz_Ok p s m args meth c w cX8_advance 2 RX8 none) (kk46 : hz_M → hz_O) (gkk46 : ∀  (M : hz_M), kk46 M = some (rE, ME) → hz_G p l e 1 hz_z0 s m args below meth c w N 2 (MQ below (hz_Qv w N ME) args s 0 0 (hz_A w)) M 46 [(0, .ref (hz_ad w 9))] []) : ∀ (n : Nat)  (M54 : hz_M), f_X8_advance_L8 kk46 n M54 = some (rE, ME) → hz_G p l e 1 hz_z0 s m args below meth c w N 2 (MQ below (hz_Qv w N ME) args s 0 0 (hz_A w)) M54 8 [(0, .ref (hz_ad w 9))] [] := by
  intro n
  induction n with
  | zero =>
    intro M54 h
    rw [f_X8_advance_L8] at h
    cases h
  | succ n ih =>
    intro M54 h
    rw [f_X8_advance_L8] at h
    refine hz_aload_n hO dX8_advance_8 rfl 0 rfl ?_
    refine hz_getI (k := 3) hO hz_K_8 hz_sh_9 (hz_lt_9 hN) rfl (Nat.le_of_ble_eq_true rfl) tw_1_114 rfl dX8_advance_9 ?_
    refine hz_aload_n hO dX8_advance_12 rfl 0 rfl ?_
    refine hz_getI (k := 1) hO hz_K_8 hz_sh_9 (hz_lt_9 hN) rfl (Nat.le_of_ble_eq_true rfl) tw_1_109 rfl dX8_advance_13 ?_
    refine hz_icmp_ge (tgt := 46) hO dX8_advance_16 (by decide) (fun hc55 => ?_) (fun hc55 => ?_)
    · rw [if_pos hc55] at h
      exact hz_ls [0] rfl (gkk46 M54 h)
    · rw [if_neg hc55] at h
      refine hz_aload_n hO dX8_advance_19 rfl 0 rfl ?_
      refine hz_aload_n hO dX8_advance_20 rfl 0 rfl ?_
      refine hz_getI (k := 3) hO hz_K_8 hz_sh_9 (hz_lt_9 hN) rfl (Nat.le_of_ble_eq_true rfl) tw_1_114 rfl dX8_advance_21 ?_
      obtain ⟨r56, M57, hq58, h⟩ := hz_ct_e h
      refine hz_callVi (as := [.int (M54 9 3)]) (rest := []) hO (c_X8_byteAt l w hN (M54 9 3) hq58) hz_cal_X8_byteAt hz_K_8 hz_sh_9 (hz_lt_9 hN) tw_2_179 (Nat.le_of_ble_eq_true rfl) rfl rfl (Nat.le_of_ble_eq_true rfl) dX8_advance_24 ?_
      obtain ⟨r59, M60, hq61, h⟩ := hz_ct_e h
      refine hz_callSi (as := [.int r56]) (rest := []) hO (c_X8_isBlank l w hN r56 hq61) hz_cal_X8_isBlank tw_2_183 (Nat.le_of_ble_eq_true rfl) rfl rfl (Nat.le_of_ble_eq_true rfl) dX8_advance_27 ?_
      refine hz_if_eq (tgt := 46) hO dX8_advance_30 (by decide) (fun hc62 => ?_) (fun hc62 => ?_)
      · rw [if_pos hc62] at h
        exact hz_ls [0] rfl (gkk46 M60 h)
      · rw [if_neg hc62] at h
        refine hz_aload_n hO dX8_advance_33 rfl 0 rfl ?_
        refine hz_dup hO dX8_advance_34 rfl ?_
        refine hz_getI (k := 3) hO hz_K_8 hz_sh_9 (hz_lt_9 hN) rfl (Nat.le_of_ble_eq_true rfl) tw_1_114 rfl dX8_advance_35 ?_
        refine hz_iconst (v := (1 : Int32)) hO dX8_advance_38 (by decide) ?_
        refine hz_iadd hO dX8_advance_39 ?_
        obtain ⟨M63, h_M63, h⟩ := hz_lm_e h
        refine hz_putI (k := 3) (ty := .int) hO hz_K_8 tyX8_ok nmX8 hz_sh_9 (hz_lt_9 hN) rfl (Nat.le_of_ble_eq_true rfl) tw_1_114 rfl rfl rfl rfl rfl dX8_advance_40 ?_
        refine hz_nameM h_M63 ?_
        refine hz_goto (tgt := 8) hO dX8_advance_43 (by decide) ?_
        exact hz_ls [0] rfl (ih M63 h)
set_option maxRecDepth 100000 in
set_option maxHeartbeats 4000000 in
theorem c_X8_advance (l : Launch) (w : hz_C) {N : Nat} (hN : 178 ≤ N) {M : hz_M} {rE : Int32} {ME : hz_M} (h : f_X8_advance M = some (rE, ME)) : hz_Ct l yX8_advance cX8_advance 2 none 1 w N [.ref (hz_ad w 9)] M (hz_Qv w N ME) := by
  refine hz_ofW (by decide) rfl (Nat.le_of_ble_eq_true rfl) tw_2_178 ?_
  intro p e s m args below meth c hO
  show hz_G p l e 1 hz_z0 s m args below meth c w N 2 _ M 0 [(0, .ref (hz_ad w 9))] []
  unfold f_X8_advance at h
  refine hz_aload_n hO dX8_advance_0 rfl 0 rfl ?_
  refine hz_aload_n hO dX8_advance_1 rfl 0 rfl ?_
  refine hz_getI (k := 4) hO hz_K_8 hz_sh_9 (hz_lt_9 hN) rfl (Nat.le_of_ble_eq_true rfl) tw_1_116 rfl dX8_advance_2 ?_
  obtain ⟨M1, h_M1, h⟩ := hz_lm_e h
  refine hz_putI (k := 3) (ty := .int) hO hz_K_8 tyX8_ok nmX8 hz_sh_9 (hz_lt_9 hN) rfl (Nat.le_of_ble_eq_true rfl) tw_1_114 rfl rfl rfl rfl rfl dX8_advance_5 ?_
  refine hz_nameM h_M1 ?_
  obtain ⟨k53, hk53, h⟩ := hz_jn_e h
  have gk53 : ∀  (M2 : hz_M), k53 M2 = some (rE, ME) → hz_G p l e 1 hz_z0 s m args below meth c w N 2 (MQ below (hz_Qv w N ME) args s 0 0 (hz_A w)) M2 46 [(0, .ref (hz_ad w 9))] [] := by
    intro M2 h
    rw [hk53] at h
    dsimp only at h
    refine hz_aload_n hO dX8_advance_46 rfl 0 rfl ?_
    refine hz_aload_n hO dX8_advance_47 rfl 0 rfl ?_
    refine hz_getI (k := 3) hO hz_K_8 hz_sh_9 (hz_lt_9 hN) rfl (Nat.le_of_ble_eq_true rfl) tw_1_114 rfl dX8_advance_48 ?_
    obtain ⟨r3, M4, hq5, h⟩ := hz_ct_e h
    refine hz_callVi (as := [.int (M2 9 3)]) (rest := []) hO (c_X8_byteAt l w hN (M2 9 3) hq5) hz_cal_X8_byteAt hz_K_8 hz_sh_9 (hz_lt_9 hN) tw_2_179 (Nat.le_of_ble_eq_true rfl) rfl rfl (Nat.le_of_ble_eq_true rfl) dX8_advance_51 ?_
    refine hz_istore_n (ls1 := [(1, .int r3), (0, .ref (hz_ad w 9))]) hO dX8_advance_54 rfl (Nat.le_of_ble_eq_true rfl) rfl ?_
    refine hz_aload_n hO dX8_advance_55 rfl 1 rfl ?_
    refine hz_aload_n hO dX8_advance_56 rfl 1 rfl ?_
    refine hz_getI (k := 3) hO hz_K_8 hz_sh_9 (hz_lt_9 hN) rfl (Nat.le_of_ble_eq_true rfl) tw_1_114 rfl dX8_advance_57 ?_
    obtain ⟨M6, h_M6, h⟩ := hz_lm_e h
    refine hz_putI (k := 4) (ty := .int) hO hz_K_8 tyX8_ok nmX8 hz_sh_9 (hz_lt_9 hN) rfl (Nat.le_of_ble_eq_true rfl) tw_1_116 rfl rfl rfl rfl rfl dX8_advance_60 ?_
    refine hz_nameM h_M6 ?_
    refine hz_iload_n hO dX8_advance_63 rfl 0 rfl ?_
    refine hz_iconst (v := (-1 : Int32)) hO dX8_advance_64 (by decide) ?_
    refine hz_icmp_ne (tgt := 76) hO dX8_advance_65 (by decide) (fun hc7 => ?_) (fun hc7 => ?_)
    · rw [if_neg hc7] at h
      refine hz_iload_n hO dX8_advance_76 rfl 0 rfl ?_
      obtain ⟨r8, M9, hq10, h⟩ := hz_ct_e h
      refine hz_callSi (as := [.int r3]) (rest := []) hO (c_X8_isLetter l w hN r3 hq10) hz_cal_X8_isLetter tw_2_186 (Nat.le_of_ble_eq_true rfl) rfl rfl (Nat.le_of_ble_eq_true rfl) dX8_advance_77 ?_
      refine hz_if_eq (tgt := 126) hO dX8_advance_80 (by decide) (fun hc11 => ?_) (fun hc11 => ?_)
      · rw [if_pos hc11] at h
        refine hz_iload_n hO dX8_advance_126 rfl 0 rfl ?_
        obtain ⟨r12, M13, hq14, h⟩ := hz_ct_e h
        refine hz_callSi (as := [.int r3]) (rest := []) hO (c_X8_isDigit l w hN r3 hq14) hz_cal_X8_isDigit tw_2_189 (Nat.le_of_ble_eq_true rfl) rfl rfl (Nat.le_of_ble_eq_true rfl) dX8_advance_127 ?_
        refine hz_if_eq (tgt := 210) hO dX8_advance_130 (by decide) (fun hc15 => ?_) (fun hc15 => ?_)
        · rw [if_pos hc15] at h
          refine hz_aload_n hO dX8_advance_210 rfl 1 rfl ?_
          refine hz_iload_n hO dX8_advance_211 rfl 0 rfl ?_
          obtain ⟨r16, M17, hq18, h⟩ := hz_ct_e h
          refine hz_callSi (as := [.int r3]) (rest := [.ref (hz_ad w 9)]) hO (c_X8_isSign l w hN r3 hq18) hz_cal_X8_isSign tw_2_195 (Nat.le_of_ble_eq_true rfl) rfl rfl (Nat.le_of_ble_eq_true rfl) dX8_advance_212 ?_
          obtain ⟨k23, hk23, h⟩ := hz_jn_e h
          have gk23 : ∀ (q19 : Int32) (M20 : hz_M), k23 q19 M20 = some (rE, ME) → hz_G p l e 1 hz_z0 s m args below meth c w N 2 (MQ below (hz_Qv w N ME) args s 0 0 (hz_A w)) M20 223 [(0, .ref (hz_ad w 9))] [.int q19, .ref (hz_ad w 9)] := by
            intro q19 M20 h
            rw [hk23] at h
            dsimp only at h
            obtain ⟨M21, h_M21, h⟩ := hz_lm_e h
            refine hz_putI (k := 2) (ty := .int) hO hz_K_8 tyX8_ok nmX8 hz_sh_9 (hz_lt_9 hN) rfl (Nat.le_of_ble_eq_true rfl) tw_1_112 rfl rfl rfl rfl rfl dX8_advance_223 ?_
            refine hz_nameM h_M21 ?_
            refine hz_aload_n hO dX8_advance_226 rfl 0 rfl ?_
            refine hz_dup hO dX8_advance_227 rfl ?_
            refine hz_getI (k := 4) hO hz_K_8 hz_sh_9 (hz_lt_9 hN) rfl (Nat.le_of_ble_eq_true rfl) tw_1_116 rfl dX8_advance_228 ?_
            refine hz_iconst (v := (1 : Int32)) hO dX8_advance_231 (by decide) ?_
            refine hz_iadd hO dX8_advance_232 ?_
            obtain ⟨M22, h_M22, h⟩ := hz_lm_e h
            refine hz_putI (k := 4) (ty := .int) hO hz_K_8 tyX8_ok nmX8 hz_sh_9 (hz_lt_9 hN) rfl (Nat.le_of_ble_eq_true rfl) tw_1_116 rfl rfl rfl rfl rfl dX8_advance_233 ?_
            refine hz_nameM h_M22 ?_
            exact hz_nameM (hz_some_e h).2.symm (hz_vret hO dX8_advance_236)
          clear hk23
          refine hz_if_eq (tgt := 222) hO dX8_advance_215 (by decide) (fun hc24 => ?_) (fun hc24 => ?_)
          · rw [if_pos hc24] at h
            refine hz_iconst (v := (3 : Int32)) hO dX8_advance_222 (by decide) ?_
            exact hz_ls [1] rfl (gk23 (3 : Int32) M17 h)
          · rw [if_neg hc24] at h
            refine hz_iload_n hO dX8_advance_218 rfl 0 rfl ?_
            refine hz_goto (tgt := 223) hO dX8_advance_219 (by decide) ?_
            exact hz_ls [1] rfl (gk23 r3 M17 h)
        · rw [if_neg hc15] at h
          refine hz_aload_n hO dX8_advance_133 rfl 1 rfl ?_
          refine hz_iconst (v := (2 : Int32)) hO dX8_advance_134 (by decide) ?_
          obtain ⟨M25, h_M25, h⟩ := hz_lm_e h
          refine hz_putI (k := 2) (ty := .int) hO hz_K_8 tyX8_ok nmX8 hz_sh_9 (hz_lt_9 hN) rfl (Nat.le_of_ble_eq_true rfl) tw_1_112 rfl rfl rfl rfl rfl dX8_advance_135 ?_
          refine hz_nameM h_M25 ?_
          refine hz_aload_n hO dX8_advance_138 rfl 1 rfl ?_
          refine hz_iconst (v := (0 : Int32)) hO dX8_advance_139 (by decide) ?_
          obtain ⟨M26, h_M26, h⟩ := hz_lm_e h
          refine hz_putI (k := 5) (ty := .int) hO hz_K_8 tyX8_ok nmX8 hz_sh_9 (hz_lt_9 hN) rfl (Nat.le_of_ble_eq_true rfl) tw_1_117 rfl rfl rfl rfl rfl dX8_advance_140 ?_
          refine hz_nameM h_M26 ?_
          exact hz_ls [1] rfl (g_X8_advance_L143 hN hO _ M26 h)
      · rw [if_neg hc11] at h
        refine hz_aload_n hO dX8_advance_83 rfl 1 rfl ?_
        refine hz_iconst (v := (1 : Int32)) hO dX8_advance_84 (by decide) ?_
        obtain ⟨M41, h_M41, h⟩ := hz_lm_e h
        refine hz_putI (k := 2) (ty := .int) hO hz_K_8 tyX8_ok nmX8 hz_sh_9 (hz_lt_9 hN) rfl (Nat.le_of_ble_eq_true rfl) tw_1_112 rfl rfl rfl rfl rfl dX8_advance_85 ?_
        refine hz_nameM h_M41 ?_
        exact hz_ls [1] rfl (g_X8_advance_L88 hN hO _ M41 h)
    · rw [if_pos hc7] at h
      refine hz_aload_n hO dX8_advance_68 rfl 1 rfl ?_
      refine hz_iconst (v := (0 : Int32)) hO dX8_advance_69 (by decide) ?_
      obtain ⟨M52, h_M52, h⟩ := hz_lm_e h
      refine hz_putI (k := 2) (ty := .int) hO hz_K_8 tyX8_ok nmX8 hz_sh_9 (hz_lt_9 hN) rfl (Nat.le_of_ble_eq_true rfl) tw_1_112 rfl rfl rfl rfl rfl dX8_advance_70 ?_
      refine hz_nameM h_M52 ?_
      refine hz_goto (tgt := 236) hO dX8_advance_73 (by decide) ?_
      exact hz_nameM (hz_some_e h).2.symm (hz_vret hO dX8_advance_236)
  clear hk53
  exact hz_ls [0] rfl (g_X8_advance_L8 hN hO _ gk53 _ M1 h)
def f_X8_goOnIf (a1 : Int32) (M : hz_M) : hz_O :=
  if a1 = 0 then
    hz_ct (f_X8_fail (1 : Int32) M) fun r6 M7 =>
    some (0, M7)
  else
    if (M 9 6) = 0 then
      hz_ct (f_X8_advance M) fun r3 M4 =>
      some (0, M4)
    else
      some (0, M)
set_option maxRecDepth 100000 in
set_option maxHeartbeats 4000000 in
theorem c_X8_goOnIf (l : Launch) (w : hz_C) {N : Nat} (hN : 178 ≤ N) (a1 : Int32) {M : hz_M} {rE : Int32} {ME : hz_M} (h : f_X8_goOnIf a1 M = some (rE, ME)) : hz_Ct l yX8_goOnIf cX8_goOnIf 2 none 2 w N [.ref (hz_ad w 9), .int a1] M (hz_Qv w N ME) := by
  refine hz_ofW (by decide) rfl (Nat.le_of_ble_eq_true rfl) tw_2_210 ?_
  intro p e s m args below meth c hO
  show hz_G p l e 2 hz_z0 s m args below meth c w N 2 _ M 0 [(0, .ref (hz_ad w 9)), (1, .int a1)] []
  unfold f_X8_goOnIf at h
  refine hz_iload_n hO dX8_goOnIf_0 rfl 1 rfl ?_
  refine hz_if_ne (tgt := 12) hO dX8_goOnIf_1 (by decide) (fun hc1 => ?_) (fun hc1 => ?_)
  · rw [if_neg hc1] at h
    refine hz_aload_n hO dX8_goOnIf_12 rfl 0 rfl ?_
    refine hz_getI (k := 6) hO hz_K_8 hz_sh_9 (hz_lt_9 hN) rfl (Nat.le_of_ble_eq_true rfl) tw_1_120 rfl dX8_goOnIf_13 ?_
    refine hz_if_ne (tgt := 23) hO dX8_goOnIf_16 (by decide) (fun hc2 => ?_) (fun hc2 => ?_)
    · rw [if_neg hc2] at h
      exact hz_nameM (hz_some_e h).2.symm (hz_vret hO dX8_goOnIf_23)
    · rw [if_pos hc2] at h
      refine hz_aload_n hO dX8_goOnIf_19 rfl 0 rfl ?_
      obtain ⟨r3, M4, hq5, h⟩ := hz_ct_e h
      refine hz_callVv (as := []) (rest := []) hO (c_X8_advance l w hN hq5) hz_cal_X8_advance hz_K_8 hz_sh_9 (hz_lt_9 hN) tw_2_175 (Nat.le_of_ble_eq_true rfl) rfl rfl (Nat.le_of_ble_eq_true rfl) dX8_goOnIf_20 ?_
      exact hz_nameM (hz_some_e h).2.symm (hz_vret hO dX8_goOnIf_23)
  · rw [if_pos hc1] at h
    refine hz_aload_n hO dX8_goOnIf_4 rfl 0 rfl ?_
    refine hz_iconst (v := (1 : Int32)) hO dX8_goOnIf_5 (by decide) ?_
    obtain ⟨r6, M7, hq8, h⟩ := hz_ct_e h
    refine hz_callVv (as := [.int (1 : Int32)]) (rest := []) hO (c_X8_fail l w hN (1 : Int32) hq8) hz_cal_X8_fail hz_K_8 hz_sh_9 (hz_lt_9 hN) tw_2_211 (Nat.le_of_ble_eq_true rfl) rfl rfl (Nat.le_of_ble_eq_true rfl) dX8_goOnIf_6 ?_
    refine hz_goto (tgt := 23) hO dX8_goOnIf_9 (by decide) ?_
    exact hz_nameM (hz_some_e h).2.symm (hz_vret hO dX8_goOnIf_23)
def f_X8_needNumber (a1 : Int32) (a2 : Int32) (M : hz_M) : hz_O :=
  hz_lt ((M 9 5)) fun x1 =>
  hz_jn (fun (v1_2 : Int32) (v3_3 : Int32) (M4 : hz_M) =>
    if (M4 9 6) = 0 then
      hz_ct (f_X8_advance M4) fun r6 M7 =>
      some (v3_3, M7)
    else
      some (v1_2, M4)
    ) fun k9 =>
  if (M 9 2) = (2 : Int32) then
    hz_jn (fun (v1_11 : Int32) (v3_12 : Int32) (M13 : hz_M) =>
      hz_ct (f_X8_fail (2 : Int32) M13) fun r14 M15 =>
      k9 v1_11 v3_12 M15
      ) fun k17 =>
    if x1 < a1 then
      k17 a1 x1 M
    else
      if x1 ≤ a2 then
        k9 a1 x1 M
      else
        k17 a1 x1 M
  else
    hz_ct (f_X8_fail (1 : Int32) M) fun r20 M21 =>
    k9 a1 x1 M21
set_option maxRecDepth 100000 in
set_option maxHeartbeats 4000000 in
theorem c_X8_needNumber (l : Launch) (w : hz_C) {N : Nat} (hN : 178 ≤ N) (a1 : Int32) (a2 : Int32) {M : hz_M} {rE : Int32} {ME : hz_M} (h : f_X8_needNumber a1 a2 M = some (rE, ME)) : hz_Ct l yX8_needNumber cX8_needNumber 4 (some .int) 2 w N [.ref (hz_ad w 9), .int a1, .int a2] M (hz_Qi w N rE ME) := by
  refine hz_ofW (by decide) rfl (Nat.le_of_ble_eq_true rfl) tw_2_218 ?_
  intro p e s m args below meth c hO
  show hz_G p l e 2 hz_z0 s m args below meth c w N 4 _ M 0 [(0, .ref (hz_ad w 9)), (1, .int a1), (2, .int a2)] []
  unfold f_X8_needNumber at h
  refine hz_aload_n hO dX8_needNumber_0 rfl 0 rfl ?_
  refine hz_getI (k := 5) hO hz_K_8 hz_sh_9 (hz_lt_9 hN) rfl (Nat.le_of_ble_eq_true rfl) tw_1_117 rfl dX8_needNumber_1 ?_
  obtain ⟨x1, h_x1, h⟩ := hz_lt_e h
  refine hz_name h_x1 ?_
  refine hz_istore_n (ls1 := [(3, .int x1), (0, .ref (hz_ad w 9)), (1, .int a1), (2, .int a2)]) hO dX8_needNumber_4 rfl (Nat.le_of_ble_eq_true rfl) rfl ?_
  refine hz_aload_n hO dX8_needNumber_5 rfl 1 rfl ?_
  refine hz_getI (k := 2) hO hz_K_8 hz_sh_9 (hz_lt_9 hN) rfl (Nat.le_of_ble_eq_true rfl) tw_1_112 rfl dX8_needNumber_6 ?_
  refine hz_iconst (v := (2 : Int32)) hO dX8_needNumber_9 (by decide) ?_
  obtain ⟨k9, hk9, h⟩ := hz_jn_e h
  have gk9 : ∀ (v1_2 : Int32) (v3_3 : Int32) (M4 : hz_M), k9 v1_2 v3_3 M4 = some (rE, ME) → hz_G p l e 2 hz_z0 s m args below meth c w N 4 (MQ below (hz_Qi w N rE ME) args s 0 0 (hz_A w)) M4 36 [(0, .ref (hz_ad w 9)), (1, .int v1_2), (3, .int v3_3)] [] := by
    intro v1_2 v3_3 M4 h
    rw [hk9] at h
    dsimp only at h
    refine hz_aload_n hO dX8_needNumber_36 rfl 0 rfl ?_
    refine hz_getI (k := 6) hO hz_K_8 hz_sh_9 (hz_lt_9 hN) rfl (Nat.le_of_ble_eq_true rfl) tw_1_120 rfl dX8_needNumber_37 ?_
    refine hz_if_eq (tgt := 45) hO dX8_needNumber_40 (by decide) (fun hc5 => ?_) (fun hc5 => ?_)
    · rw [if_pos hc5] at h
      refine hz_aload_n hO dX8_needNumber_45 rfl 0 rfl ?_
      obtain ⟨r6, M7, hq8, h⟩ := hz_ct_e h
      refine hz_callVv (as := []) (rest := []) hO (c_X8_advance l w hN hq8) hz_cal_X8_advance hz_K_8 hz_sh_9 (hz_lt_9 hN) tw_2_175 (Nat.le_of_ble_eq_true rfl) rfl rfl (Nat.le_of_ble_eq_true rfl) dX8_needNumber_46 ?_
      refine hz_iload_n hO dX8_needNumber_49 rfl 2 rfl ?_
      exact hz_nameM (hz_some_e h).2.symm (hz_name (hz_some_e h).1.symm (hz_iret hO dX8_needNumber_50))
    · rw [if_neg hc5] at h
      refine hz_iload_n hO dX8_needNumber_43 rfl 1 rfl ?_
      exact hz_nameM (hz_some_e h).2.symm (hz_name (hz_some_e h).1.symm (hz_iret hO dX8_needNumber_44))
  clear hk9
  refine hz_icmp_eq (tgt := 21) hO dX8_needNumber_10 (by decide) (fun hc10 => ?_) (fun hc10 => ?_)
  · rw [if_pos hc10] at h
    refine hz_iload_n hO dX8_needNumber_21 rfl 0 rfl ?_
    refine hz_iload_n hO dX8_needNumber_22 rfl 2 rfl ?_
    obtain ⟨k17, hk17, h⟩ := hz_jn_e h
    have gk17 : ∀ (v1_11 : Int32) (v3_12 : Int32) (M13 : hz_M), k17 v1_11 v3_12 M13 = some (rE, ME) → hz_G p l e 2 hz_z0 s m args below meth c w N 4 (MQ below (hz_Qi w N rE ME) args s 0 0 (hz_A w)) M13 31 [(0, .ref (hz_ad w 9)), (1, .int v1_11), (3, .int v3_12)] [] := by
      intro v1_11 v3_12 M13 h
      rw [hk17] at h
      dsimp only at h
      refine hz_aload_n hO dX8_needNumber_31 rfl 0 rfl ?_
      refine hz_iconst (v := (2 : Int32)) hO dX8_needNumber_32 (by decide) ?_
      obtain ⟨r14, M15, hq16, h⟩ := hz_ct_e h
      refine hz_callVv (as := [.int (2 : Int32)]) (rest := []) hO (c_X8_fail l w hN (2 : Int32) hq16) hz_cal_X8_fail hz_K_8 hz_sh_9 (hz_lt_9 hN) tw_2_211 (Nat.le_of_ble_eq_true rfl) rfl rfl (Nat.le_of_ble_eq_true rfl) dX8_needNumber_33 ?_
      exact hz_ls [0, 1, 2] rfl (gk9 v1_11 v3_12 M15 h)
    clear hk17
    refine hz_icmp_lt (tgt := 31) hO dX8_needNumber_23 (by decide) (fun hc18 => ?_) (fun hc18 => ?_)
    · rw [if_pos hc18] at h
      exact hz_ls [1, 2, 0] rfl (gk17 a1 x1 M h)
    · rw [if_neg hc18] at h
      refine hz_iload_n hO dX8_needNumber_26 rfl 0 rfl ?_
      refine hz_iload_n hO dX8_needNumber_27 rfl 3 rfl ?_
      refine hz_icmp_le (tgt := 36) hO dX8_needNumber_28 (by decide) (fun hc19 => ?_) (fun hc19 => ?_)
      · rw [if_pos hc19] at h
        exact hz_ls [1, 2, 0] rfl (gk9 a1 x1 M h)
      · rw [if_neg hc19] at h
        exact hz_ls [1, 2, 0] rfl (gk17 a1 x1 M h)
  · rw [if_neg hc10] at h
    refine hz_aload_n hO dX8_needNumber_13 rfl 1 rfl ?_
    refine hz_iconst (v := (1 : Int32)) hO dX8_needNumber_14 (by decide) ?_
    obtain ⟨r20, M21, hq22, h⟩ := hz_ct_e h
    refine hz_callVv (as := [.int (1 : Int32)]) (rest := []) hO (c_X8_fail l w hN (1 : Int32) hq22) hz_cal_X8_fail hz_K_8 hz_sh_9 (hz_lt_9 hN) tw_2_211 (Nat.le_of_ble_eq_true rfl) rfl rfl (Nat.le_of_ble_eq_true rfl) dX8_needNumber_15 ?_
    refine hz_goto (tgt := 36) hO dX8_needNumber_18 (by decide) ?_
    exact hz_ls [1, 2, 0] rfl (gk9 a1 x1 M21 h)
def f_X9_reason (a1 : Int32) (a2 : Int32) (M : hz_M) : hz_O :=
  if a2 = 0 then
    hz_ct (f_X9_reasonToStayOut a1 M) fun r27 M28 =>
    some (r27, M28)
  else
    hz_gd (hz_in a1 16) <|
    if (M 13 (Int32.toNatClampNeg a1)) = (-1 : Int32) then
      some ((5 : Int32), M)
    else
      hz_ct (f_X3_isStep (a2 - (10 : Int32)) M) fun r4 M5 =>
      if r4 = 0 then
        hz_gd (hz_in a1 16) <|
        if (M5 13 (Int32.toNatClampNeg a1)) = 0 then
          hz_ct (f_X3_isPeg (a2 - (20 : Int32)) M5) fun r10 M11 =>
          if r10 = 0 then
            hz_ct (f_X3_isPeg (a2 - (40 : Int32)) M11) fun r14 M15 =>
            if r14 = 0 then
              some ((0 : Int32), M15)
            else
              hz_ct (f_X9_reasonNotToTake a1 (a2 - (40 : Int32)) M15) fun r18 M19 =>
              some (r18, M19)
          else
            hz_ct (f_X9_reasonNotToHang a1 (a2 - (20 : Int32)) M11) fun r21 M22 =>
            some (r21, M22)
        else
          some ((9 : Int32), M5)
      else
        hz_ct (f_X9_reasonNotToSit a1 (a2 - (10 : Int32)) M5) fun r24 M25 =>
        some (r24, M25)
set_option maxRecDepth 100000 in
set_option maxHeartbeats 4000000 in
theorem c_X9_reason (l : Launch) (w : hz_C) {N : Nat} (hN : 178 ≤ N) (a1 : Int32) (a2 : Int32) {M : hz_M} {rE : Int32} {ME : hz_M} (h : f_X9_reason a1 a2 M = some (rE, ME)) : hz_Ct l yX9_reason cX9_reason 3 (some .int) 2 w N [.ref (hz_ad w 25), .int a1, .int a2] M (hz_Qi w N rE ME) := by
  refine hz_ofW (by decide) rfl (Nat.le_of_ble_eq_true rfl) tw_4_80 ?_
  intro p e s m args below meth c hO
  show hz_G p l e 2 hz_z0 s m args below meth c w N 3 _ M 0 [(0, .ref (hz_ad w 25)), (1, .int a1), (2, .int a2)] []
  unfold f_X9_reason at h
  refine hz_iload_n hO dX9_reason_0 rfl 2 rfl ?_
  refine hz_if_ne (tgt := 10) hO dX9_reason_1 (by decide) (fun hc1 => ?_) (fun hc1 => ?_)
  · rw [if_neg hc1] at h
    refine hz_aload_n hO dX9_reason_10 rfl 0 rfl ?_
    refine hz_getR (k := 1) hO 11 hz_K_9 hz_sh_25 (hz_lt_25 hN) rfl (Nat.le_of_ble_eq_true rfl) tw_2_10 rfl dX9_reason_11 ?_
    refine hz_getR (k := 2) hO 13 hz_K_7 hz_sh_11 (hz_lt_11 hN) rfl (Nat.le_of_ble_eq_true rfl) tw_1_151 rfl dX9_reason_14 ?_
    refine hz_iload_n hO dX9_reason_17 rfl 1 rfl ?_
    obtain ⟨hg2, h⟩ := hz_gd_e h
    refine hz_iald hO hz_sh_13 (hz_lt_13 hN) hg2 dX9_reason_18 ?_
    refine hz_iconst (v := (-1 : Int32)) hO dX9_reason_19 (by decide) ?_
    refine hz_icmp_ne (tgt := 25) hO dX9_reason_20 (by decide) (fun hc3 => ?_) (fun hc3 => ?_)
    · rw [if_neg hc3] at h
      refine hz_aload_n hO dX9_reason_25 rfl 0 rfl ?_
      refine hz_getR (k := 0) hO 1 hz_K_9 hz_sh_25 (hz_lt_25 hN) rfl (Nat.le_of_ble_eq_true rfl) tw_2_9 rfl dX9_reason_26 ?_
      refine hz_iload_n hO dX9_reason_29 rfl 2 rfl ?_
      refine hz_bipush (v := (10 : Int32)) hO dX9_reason_30 (by decide) ?_
      refine hz_isub hO dX9_reason_32 ?_
      obtain ⟨r4, M5, hq6, h⟩ := hz_ct_e h
      refine hz_callVi (as := [.int (a2 - (10 : Int32))]) (rest := []) hO (c_X3_isStep l w hN (a2 - (10 : Int32)) hq6) hz_cal_X3_isStep hz_K_4 hz_sh_1 (hz_lt_1 hN) tw_4_69 (Nat.le_of_ble_eq_true rfl) rfl rfl (Nat.le_of_ble_eq_true rfl) dX9_reason_33 ?_
      refine hz_if_eq (tgt := 49) hO dX9_reason_36 (by decide) (fun hc7 => ?_) (fun hc7 => ?_)
      · rw [if_pos hc7] at h
        refine hz_aload_n hO dX9_reason_49 rfl 0 rfl ?_
        refine hz_getR (k := 1) hO 11 hz_K_9 hz_sh_25 (hz_lt_25 hN) rfl (Nat.le_of_ble_eq_true rfl) tw_2_10 rfl dX9_reason_50 ?_
        refine hz_getR (k := 2) hO 13 hz_K_7 hz_sh_11 (hz_lt_11 hN) rfl (Nat.le_of_ble_eq_true rfl) tw_1_151 rfl dX9_reason_53 ?_
        refine hz_iload_n hO dX9_reason_56 rfl 1 rfl ?_
        obtain ⟨hg8, h⟩ := hz_gd_e h
        refine hz_iald hO hz_sh_13 (hz_lt_13 hN) hg8 dX9_reason_57 ?_
        refine hz_if_eq (tgt := 64) hO dX9_reason_58 (by decide) (fun hc9 => ?_) (fun hc9 => ?_)
        · rw [if_pos hc9] at h
          refine hz_aload_n hO dX9_reason_64 rfl 0 rfl ?_
          refine hz_getR (k := 0) hO 1 hz_K_9 hz_sh_25 (hz_lt_25 hN) rfl (Nat.le_of_ble_eq_true rfl) tw_2_9 rfl dX9_reason_65 ?_
          refine hz_iload_n hO dX9_reason_68 rfl 2 rfl ?_
          refine hz_bipush (v := (20 : Int32)) hO dX9_reason_69 (by decide) ?_
          refine hz_isub hO dX9_reason_71 ?_
          obtain ⟨r10, M11, hq12, h⟩ := hz_ct_e h
          refine hz_callVi (as := [.int (a2 - (20 : Int32))]) (rest := []) hO (c_X3_isPeg l w hN (a2 - (20 : Int32)) hq12) hz_cal_X3_isPeg hz_K_4 hz_sh_1 (hz_lt_1 hN) tw_4_73 (Nat.le_of_ble_eq_true rfl) rfl rfl (Nat.le_of_ble_eq_true rfl) dX9_reason_72 ?_
          refine hz_if_eq (tgt := 88) hO dX9_reason_75 (by decide) (fun hc13 => ?_) (fun hc13 => ?_)
          · rw [if_pos hc13] at h
            refine hz_aload_n hO dX9_reason_88 rfl 0 rfl ?_
            refine hz_getR (k := 0) hO 1 hz_K_9 hz_sh_25 (hz_lt_25 hN) rfl (Nat.le_of_ble_eq_true rfl) tw_2_9 rfl dX9_reason_89 ?_
            refine hz_iload_n hO dX9_reason_92 rfl 2 rfl ?_
            refine hz_bipush (v := (40 : Int32)) hO dX9_reason_93 (by decide) ?_
            refine hz_isub hO dX9_reason_95 ?_
            obtain ⟨r14, M15, hq16, h⟩ := hz_ct_e h
            refine hz_callVi (as := [.int (a2 - (40 : Int32))]) (rest := []) hO (c_X3_isPeg l w hN (a2 - (40 : Int32)) hq16) hz_cal_X3_isPeg hz_K_4 hz_sh_1 (hz_lt_1 hN) tw_4_73 (Nat.le_of_ble_eq_true rfl) rfl rfl (Nat.le_of_ble_eq_true rfl) dX9_reason_96 ?_
            refine hz_if_eq (tgt := 112) hO dX9_reason_99 (by decide) (fun hc17 => ?_) (fun hc17 => ?_)
            · rw [if_pos hc17] at h
              refine hz_iconst (v := (0 : Int32)) hO dX9_reason_112 (by decide) ?_
              exact hz_nameM (hz_some_e h).2.symm (hz_name (hz_some_e h).1.symm (hz_iret hO dX9_reason_113))
            · rw [if_neg hc17] at h
              refine hz_aload_n hO dX9_reason_102 rfl 0 rfl ?_
              refine hz_iload_n hO dX9_reason_103 rfl 1 rfl ?_
              refine hz_iload_n hO dX9_reason_104 rfl 2 rfl ?_
              refine hz_bipush (v := (40 : Int32)) hO dX9_reason_105 (by decide) ?_
              refine hz_isub hO dX9_reason_107 ?_
              obtain ⟨r18, M19, hq20, h⟩ := hz_ct_e h
              refine hz_callVi (as := [.int a1, .int (a2 - (40 : Int32))]) (rest := []) hO (c_X9_reasonNotToTake l w hN a1 (a2 - (40 : Int32)) hq20) hz_cal_X9_reasonNotToTake hz_K_9 hz_sh_25 (hz_lt_25 hN) tw_4_109 (Nat.le_of_ble_eq_true rfl) rfl rfl (Nat.le_of_ble_eq_true rfl) dX9_reason_108 ?_
              exact hz_nameM (hz_some_e h).2.symm (hz_name (hz_some_e h).1.symm (hz_iret hO dX9_reason_111))
          · rw [if_neg hc13] at h
            refine hz_aload_n hO dX9_reason_78 rfl 0 rfl ?_
            refine hz_iload_n hO dX9_reason_79 rfl 1 rfl ?_
            refine hz_iload_n hO dX9_reason_80 rfl 2 rfl ?_
            refine hz_bipush (v := (20 : Int32)) hO dX9_reason_81 (by decide) ?_
            refine hz_isub hO dX9_reason_83 ?_
            obtain ⟨r21, M22, hq23, h⟩ := hz_ct_e h
            refine hz_callVi (as := [.int a1, .int (a2 - (20 : Int32))]) (rest := []) hO (c_X9_reasonNotToHang l w hN a1 (a2 - (20 : Int32)) hq23) hz_cal_X9_reasonNotToHang hz_K_9 hz_sh_25 (hz_lt_25 hN) tw_4_105 (Nat.le_of_ble_eq_true rfl) rfl rfl (Nat.le_of_ble_eq_true rfl) dX9_reason_84 ?_
            exact hz_nameM (hz_some_e h).2.symm (hz_name (hz_some_e h).1.symm (hz_iret hO dX9_reason_87))
        · rw [if_neg hc9] at h
          refine hz_bipush (v := (9 : Int32)) hO dX9_reason_61 (by decide) ?_
          exact hz_nameM (hz_some_e h).2.symm (hz_name (hz_some_e h).1.symm (hz_iret hO dX9_reason_63))
      · rw [if_neg hc7] at h
        refine hz_aload_n hO dX9_reason_39 rfl 0 rfl ?_
        refine hz_iload_n hO dX9_reason_40 rfl 1 rfl ?_
        refine hz_iload_n hO dX9_reason_41 rfl 2 rfl ?_
        refine hz_bipush (v := (10 : Int32)) hO dX9_reason_42 (by decide) ?_
        refine hz_isub hO dX9_reason_44 ?_
        obtain ⟨r24, M25, hq26, h⟩ := hz_ct_e h
        refine hz_callVi (as := [.int a1, .int (a2 - (10 : Int32))]) (rest := []) hO (c_X9_reasonNotToSit l w hN a1 (a2 - (10 : Int32)) hq26) hz_cal_X9_reasonNotToSit hz_K_9 hz_sh_25 (hz_lt_25 hN) tw_4_97 (Nat.le_of_ble_eq_true rfl) rfl rfl (Nat.le_of_ble_eq_true rfl) dX9_reason_45 ?_
        exact hz_nameM (hz_some_e h).2.symm (hz_name (hz_some_e h).1.symm (hz_iret hO dX9_reason_48))
    · rw [if_pos hc3] at h
      refine hz_iconst (v := (5 : Int32)) hO dX9_reason_23 (by decide) ?_
      exact hz_nameM (hz_some_e h).2.symm (hz_name (hz_some_e h).1.symm (hz_iret hO dX9_reason_24))
  · rw [if_pos hc1] at h
    refine hz_aload_n hO dX9_reason_4 rfl 0 rfl ?_
    refine hz_iload_n hO dX9_reason_5 rfl 1 rfl ?_
    obtain ⟨r27, M28, hq29, h⟩ := hz_ct_e h
    refine hz_callVi (as := [.int a1]) (rest := []) hO (c_X9_reasonToStayOut l w hN a1 hq29) hz_cal_X9_reasonToStayOut hz_K_9 hz_sh_25 (hz_lt_25 hN) tw_4_81 (Nat.le_of_ble_eq_true rfl) rfl rfl (Nat.le_of_ble_eq_true rfl) dX9_reason_6 ?_
    exact hz_nameM (hz_some_e h).2.symm (hz_name (hz_some_e h).1.symm (hz_iret hO dX9_reason_9))
def f_X9_cause (a1 : Int32) (a2 : Int32) (M : hz_M) : hz_O :=
  hz_ct (f_X9_reason a1 a2 M) fun r1 M2 =>
  if r1 = 2 then
    hz_ct (f_X7_minutesLeftToday M2) fun r5 M6 =>
    some (((100 : Int32) + r5), M6)
  else
  if r1 = 3 then
    some (((200 : Int32) + (M2 1 4)), M2)
  else
  if r1 = 7 then
    hz_ct (f_X3_ageFor (a2 - (10 : Int32)) M2) fun r10 M11 =>
    hz_gd (hz_in a1 16) <|
    some ((((300 : Int32) + r10) - (M11 2 (Int32.toNatClampNeg a1))), M11)
  else
  if r1 = 8 then
    hz_ct (f_X7_lowestBeside a1 (a2 - (10 : Int32)) M2) fun r15 M16 =>
    some (((400 : Int32) + r15), M16)
  else
  if r1 = 9 then
    hz_gd (hz_in a1 16) <|
    some (((500 : Int32) + (M2 13 (Int32.toNatClampNeg a1))), M2)
  else
  if r1 = 10 then
    hz_ct (f_X3_isPeg (a2 - (20 : Int32)) M2) fun r21 M22 =>
    hz_jn (fun (q24 : Int32) (q25 : Int32) (M26 : hz_M) =>
      some ((q25 + q24), M26)
      ) fun k27 =>
    if r21 = 0 then
      k27 (-1 : Int32) (600 : Int32) M22
    else
      hz_gd (hz_in (a2 - (20 : Int32)) 16) <|
      k27 (M22 23 (Int32.toNatClampNeg (a2 - (20 : Int32)))) (600 : Int32) M22
  else
  some ((0 : Int32), M2)
set_option maxRecDepth 100000 in
set_option maxHeartbeats 4000000 in
theorem c_X9_cause (l : Launch) (w : hz_C) {N : Nat} (hN : 178 ≤ N) (a1 : Int32) (a2 : Int32) {M : hz_M} {rE : Int32} {ME : hz_M} (h : f_X9_cause a1 a2 M = some (rE, ME)) : hz_Ct l yX9_cause cX9_cause 3 (some .int) 3 w N [.ref (hz_ad w 25), .int a1, .int a2] M (hz_Qi w N rE ME) := by
  refine hz_ofW (by decide) rfl (Nat.le_of_ble_eq_true rfl) tw_4_116 ?_
  intro p e s m args below meth c hO
  show hz_G p l e 3 hz_z0 s m args below meth c w N 3 _ M 0 [(0, .ref (hz_ad w 25)), (1, .int a1), (2, .int a2)] []
  unfold f_X9_cause at h
  refine hz_aload_n hO dX9_cause_0 rfl 0 rfl ?_
  refine hz_iload_n hO dX9_cause_1 rfl 1 rfl ?_
  refine hz_iload_n hO dX9_cause_2 rfl 2 rfl ?_
  obtain ⟨r1, M2, hq3, h⟩ := hz_ct_e h
  refine hz_callVi (as := [.int a1, .int a2]) (rest := []) hO (c_X9_reason l w hN a1 a2 hq3) hz_cal_X9_reason hz_K_9 hz_sh_25 (hz_lt_25 hN) tw_4_117 (Nat.le_of_ble_eq_true rfl) rfl rfl (Nat.le_of_ble_eq_true rfl) dX9_cause_3 ?_
  by_cases hc4 : r1 = (2 : Int32)
  · rw [if_pos hc4] at h
    refine hz_tin (tgt := 56) hO hc4 dX9_cause_6 (by decide) (by decide) rfl (by decide) ?_
    refine hz_bipush (v := (100 : Int32)) hO dX9_cause_56 (by decide) ?_
    refine hz_aload_n hO dX9_cause_58 rfl 0 rfl ?_
    refine hz_getR (k := 1) hO 11 hz_K_9 hz_sh_25 (hz_lt_25 hN) rfl (Nat.le_of_ble_eq_true rfl) tw_2_10 rfl dX9_cause_59 ?_
    obtain ⟨r5, M6, hq7, h⟩ := hz_ct_e h
    refine hz_callVi (as := []) (rest := [.int (100 : Int32)]) hO (c_X7_minutesLeftToday l w hN hq7) hz_cal_X7_minutesLeftToday hz_K_7 hz_sh_11 (hz_lt_11 hN) tw_4_118 (Nat.le_of_ble_eq_true rfl) rfl rfl (Nat.le_of_ble_eq_true rfl) dX9_cause_62 ?_
    refine hz_iadd hO dX9_cause_65 ?_
    exact hz_nameM (hz_some_e h).2.symm (hz_name (hz_some_e h).1.symm (hz_iret hO dX9_cause_66))
  · rw [if_neg hc4] at h
    by_cases hc8 : r1 = (3 : Int32)
    · rw [if_pos hc8] at h
      refine hz_tin (tgt := 67) hO hc8 dX9_cause_6 (by decide) (by decide) rfl (by decide) ?_
      refine hz_sipush (v := (200 : Int32)) hO dX9_cause_67 (by decide) ?_
      refine hz_aload_n hO dX9_cause_70 rfl 0 rfl ?_
      refine hz_getR (k := 0) hO 1 hz_K_9 hz_sh_25 (hz_lt_25 hN) rfl (Nat.le_of_ble_eq_true rfl) tw_2_9 rfl dX9_cause_71 ?_
      refine hz_getI (k := 4) hO hz_K_4 hz_sh_1 (hz_lt_1 hN) rfl (Nat.le_of_ble_eq_true rfl) tw_1_56 rfl dX9_cause_74 ?_
      refine hz_iadd hO dX9_cause_77 ?_
      exact hz_nameM (hz_some_e h).2.symm (hz_name (hz_some_e h).1.symm (hz_iret hO dX9_cause_78))
    · rw [if_neg hc8] at h
      by_cases hc9 : r1 = (7 : Int32)
      · rw [if_pos hc9] at h
        refine hz_tin (tgt := 79) hO hc9 dX9_cause_6 (by decide) (by decide) rfl (by decide) ?_
        refine hz_sipush (v := (300 : Int32)) hO dX9_cause_79 (by decide) ?_
        refine hz_iload_n hO dX9_cause_82 rfl 2 rfl ?_
        refine hz_bipush (v := (10 : Int32)) hO dX9_cause_83 (by decide) ?_
        refine hz_isub hO dX9_cause_85 ?_
        obtain ⟨r10, M11, hq12, h⟩ := hz_ct_e h
        refine hz_callSi (as := [.int (a2 - (10 : Int32))]) (rest := [.int (300 : Int32)]) hO (c_X3_ageFor l w hN (a2 - (10 : Int32)) hq12) hz_cal_X3_ageFor tw_4_101 (Nat.le_of_ble_eq_true rfl) rfl rfl (Nat.le_of_ble_eq_true rfl) dX9_cause_86 ?_
        refine hz_iadd hO dX9_cause_89 ?_
        refine hz_aload_n hO dX9_cause_90 rfl 0 rfl ?_
        refine hz_getR (k := 0) hO 1 hz_K_9 hz_sh_25 (hz_lt_25 hN) rfl (Nat.le_of_ble_eq_true rfl) tw_2_9 rfl dX9_cause_91 ?_
        refine hz_getR (k := 0) hO 2 hz_K_4 hz_sh_1 (hz_lt_1 hN) rfl (Nat.le_of_ble_eq_true rfl) tw_1_46 rfl dX9_cause_94 ?_
        refine hz_iload_n hO dX9_cause_97 rfl 1 rfl ?_
        obtain ⟨hg13, h⟩ := hz_gd_e h
        refine hz_iald hO hz_sh_2 (hz_lt_2 hN) hg13 dX9_cause_98 ?_
        refine hz_isub hO dX9_cause_99 ?_
        exact hz_nameM (hz_some_e h).2.symm (hz_name (hz_some_e h).1.symm (hz_iret hO dX9_cause_100))
      · rw [if_neg hc9] at h
        by_cases hc14 : r1 = (8 : Int32)
        · rw [if_pos hc14] at h
          refine hz_tin (tgt := 101) hO hc14 dX9_cause_6 (by decide) (by decide) rfl (by decide) ?_
          refine hz_sipush (v := (400 : Int32)) hO dX9_cause_101 (by decide) ?_
          refine hz_aload_n hO dX9_cause_104 rfl 0 rfl ?_
          refine hz_getR (k := 1) hO 11 hz_K_9 hz_sh_25 (hz_lt_25 hN) rfl (Nat.le_of_ble_eq_true rfl) tw_2_10 rfl dX9_cause_105 ?_
          refine hz_iload_n hO dX9_cause_108 rfl 1 rfl ?_
          refine hz_iload_n hO dX9_cause_109 rfl 2 rfl ?_
          refine hz_bipush (v := (10 : Int32)) hO dX9_cause_110 (by decide) ?_
          refine hz_isub hO dX9_cause_112 ?_
          obtain ⟨r15, M16, hq17, h⟩ := hz_ct_e h
          refine hz_callVi (as := [.int a1, .int (a2 - (10 : Int32))]) (rest := [.int (400 : Int32)]) hO (c_X7_lowestBeside l w hN a1 (a2 - (10 : Int32)) hq17) hz_cal_X7_lowestBeside hz_K_7 hz_sh_11 (hz_lt_11 hN) tw_4_122 (Nat.le_of_ble_eq_true rfl) rfl rfl (Nat.le_of_ble_eq_true rfl) dX9_cause_113 ?_
          refine hz_iadd hO dX9_cause_116 ?_
          exact hz_nameM (hz_some_e h).2.symm (hz_name (hz_some_e h).1.symm (hz_iret hO dX9_cause_117))
        · rw [if_neg hc14] at h
          by_cases hc18 : r1 = (9 : Int32)
          · rw [if_pos hc18] at h
            refine hz_tin (tgt := 118) hO hc18 dX9_cause_6 (by decide) (by decide) rfl (by decide) ?_
            refine hz_sipush (v := (500 : Int32)) hO dX9_cause_118 (by decide) ?_
            refine hz_aload_n hO dX9_cause_121 rfl 0 rfl ?_
            refine hz_getR (k := 1) hO 11 hz_K_9 hz_sh_25 (hz_lt_25 hN) rfl (Nat.le_of_ble_eq_true rfl) tw_2_10 rfl dX9_cause_122 ?_
            refine hz_getR (k := 2) hO 13 hz_K_7 hz_sh_11 (hz_lt_11 hN) rfl (Nat.le_of_ble_eq_true rfl) tw_1_151 rfl dX9_cause_125 ?_
            refine hz_iload_n hO dX9_cause_128 rfl 1 rfl ?_
            obtain ⟨hg19, h⟩ := hz_gd_e h
            refine hz_iald hO hz_sh_13 (hz_lt_13 hN) hg19 dX9_cause_129 ?_
            refine hz_iadd hO dX9_cause_130 ?_
            exact hz_nameM (hz_some_e h).2.symm (hz_name (hz_some_e h).1.symm (hz_iret hO dX9_cause_131))
          · rw [if_neg hc18] at h
            by_cases hc20 : r1 = (10 : Int32)
            · rw [if_pos hc20] at h
              refine hz_tin (tgt := 132) hO hc20 dX9_cause_6 (by decide) (by decide) rfl (by decide) ?_
              refine hz_sipush (v := (600 : Int32)) hO dX9_cause_132 (by decide) ?_
              refine hz_aload_n hO dX9_cause_135 rfl 0 rfl ?_
              refine hz_getR (k := 0) hO 1 hz_K_9 hz_sh_25 (hz_lt_25 hN) rfl (Nat.le_of_ble_eq_true rfl) tw_2_9 rfl dX9_cause_136 ?_
              refine hz_iload_n hO dX9_cause_139 rfl 2 rfl ?_
              refine hz_bipush (v := (20 : Int32)) hO dX9_cause_140 (by decide) ?_
              refine hz_isub hO dX9_cause_142 ?_
              obtain ⟨r21, M22, hq23, h⟩ := hz_ct_e h
              refine hz_callVi (as := [.int (a2 - (20 : Int32))]) (rest := [.int (600 : Int32)]) hO (c_X3_isPeg l w hN (a2 - (20 : Int32)) hq23) hz_cal_X3_isPeg hz_K_4 hz_sh_1 (hz_lt_1 hN) tw_4_73 (Nat.le_of_ble_eq_true rfl) rfl rfl (Nat.le_of_ble_eq_true rfl) dX9_cause_143 ?_
              obtain ⟨k27, hk27, h⟩ := hz_jn_e h
              have gk27 : ∀ (q24 : Int32) (q25 : Int32) (M26 : hz_M), k27 q24 q25 M26 = some (rE, ME) → hz_G p l e 3 hz_z0 s m args below meth c w N 3 (MQ below (hz_Qi w N rE ME) args s 0 0 (hz_A w)) M26 165 [] [.int q24, .int q25] := by
                intro q24 q25 M26 h
                rw [hk27] at h
                dsimp only at h
                refine hz_iadd hO dX9_cause_165 ?_
                exact hz_nameM (hz_some_e h).2.symm (hz_name (hz_some_e h).1.symm (hz_iret hO dX9_cause_166))
              clear hk27
              refine hz_if_eq (tgt := 164) hO dX9_cause_146 (by decide) (fun hc28 => ?_) (fun hc28 => ?_)
              · rw [if_pos hc28] at h
                refine hz_iconst (v := (-1 : Int32)) hO dX9_cause_164 (by decide) ?_
                exact hz_ls [] rfl (gk27 (-1 : Int32) (600 : Int32) M22 h)
              · rw [if_neg hc28] at h
                refine hz_aload_n hO dX9_cause_149 rfl 0 rfl ?_
                refine hz_getR (k := 1) hO 11 hz_K_9 hz_sh_25 (hz_lt_25 hN) rfl (Nat.le_of_ble_eq_true rfl) tw_2_10 rfl dX9_cause_150 ?_
                refine hz_getR (k := 12) hO 23 hz_K_7 hz_sh_11 (hz_lt_11 hN) rfl (Nat.le_of_ble_eq_true rfl) tw_1_183 rfl dX9_cause_153 ?_
                refine hz_iload_n hO dX9_cause_156 rfl 2 rfl ?_
                refine hz_bipush (v := (20 : Int32)) hO dX9_cause_157 (by decide) ?_
                refine hz_isub hO dX9_cause_159 ?_
                obtain ⟨hg29, h⟩ := hz_gd_e h
                refine hz_iald hO hz_sh_23 (hz_lt_23 hN) hg29 dX9_cause_160 ?_
                refine hz_goto (tgt := 165) hO dX9_cause_161 (by decide) ?_
                exact hz_ls [] rfl (gk27 (M22 23 (Int32.toNatClampNeg (a2 - (20 : Int32)))) (600 : Int32) M22 h)
            · rw [if_neg hc20] at h
              by_cases hc30 : r1 = (4 : Int32)
              · refine hz_tin (tgt := 167) hO hc30 dX9_cause_6 (by decide) (by decide) rfl (by decide) ?_
                refine hz_iconst (v := (0 : Int32)) hO dX9_cause_167 (by decide) ?_
                exact hz_nameM (hz_some_e h).2.symm (hz_name (hz_some_e h).1.symm (hz_iret hO dX9_cause_168))
              ·
                by_cases hc31 : r1 = (5 : Int32)
                · refine hz_tin (tgt := 167) hO hc31 dX9_cause_6 (by decide) (by decide) rfl (by decide) ?_
                  refine hz_iconst (v := (0 : Int32)) hO dX9_cause_167 (by decide) ?_
                  exact hz_nameM (hz_some_e h).2.symm (hz_name (hz_some_e h).1.symm (hz_iret hO dX9_cause_168))
                ·
                  by_cases hc32 : r1 = (6 : Int32)
                  · refine hz_tin (tgt := 167) hO hc32 dX9_cause_6 (by decide) (by decide) rfl (by decide) ?_
                    refine hz_iconst (v := (0 : Int32)) hO dX9_cause_167 (by decide) ?_
                    exact hz_nameM (hz_some_e h).2.symm (hz_name (hz_some_e h).1.symm (hz_iret hO dX9_cause_168))
                  · skip
                    have hn2 : ¬ r1.toInt = 2 := lv_neT hc4 rfl
                    have hn3 : ¬ r1.toInt = 3 := lv_neT hc8 rfl
                    have hn7 : ¬ r1.toInt = 7 := lv_neT hc9 rfl
                    have hn8 : ¬ r1.toInt = 8 := lv_neT hc14 rfl
                    have hn9 : ¬ r1.toInt = 9 := lv_neT hc18 rfl
                    have hn10 : ¬ r1.toInt = 10 := lv_neT hc20 rfl
                    have hn4 : ¬ r1.toInt = 4 := lv_neT hc30 rfl
                    have hn5 : ¬ r1.toInt = 5 := lv_neT hc31 rfl
                    have hn6 : ¬ r1.toInt = 6 := lv_neT hc32 rfl
                    refine hz_tout (tgt := 167) hO dX9_cause_6 (by omega) (by decide) ?_
                    refine hz_iconst (v := (0 : Int32)) hO dX9_cause_167 (by decide) ?_
                    exact hz_nameM (hz_some_e h).2.symm (hz_name (hz_some_e h).1.symm (hz_iret hO dX9_cause_168))
def f_X10_feed (a1 : Int32) (a2 : Int32) (a3 : Int32) (a4 : Int32) (a5 : Int32) (M : hz_M) : hz_O :=
  hz_ct (f_X8_bytesIn a1 M) fun r1 M2 =>
  hz_ct (f_X8_bytesIn a2 M2) fun r4 M5 =>
  hz_ct (f_X8_bytesIn a3 M5) fun r7 M8 =>
  hz_ct (f_X8_bytesIn a4 M8) fun r10 M11 =>
  hz_ct (f_X8_bytesIn a5 M11) fun r13 M14 =>
  hz_lt (((((r1 + r4) + r7) + r10) + r13)) fun x16 =>
  if ((M14 9 1) + x16) ≤ (600 : Int32) then
    hz_ct (f_X8_append a1 M14) fun r18 M19 =>
    hz_ct (f_X8_append a2 M19) fun r21 M22 =>
    hz_ct (f_X8_append a3 M22) fun r24 M25 =>
    hz_ct (f_X8_append a4 M25) fun r27 M28 =>
    hz_ct (f_X8_append a5 M28) fun r30 M31 =>
    some ((M31 9 1), M31)
  else
    some ((-1 : Int32), M14)
set_option maxRecDepth 100000 in
set_option maxHeartbeats 4000000 in
theorem c_X10_feed (l : Launch) (w : hz_C) {N : Nat} (hN : 178 ≤ N) (a1 : Int32) (a2 : Int32) (a3 : Int32) (a4 : Int32) (a5 : Int32) {M : hz_M} {rE : Int32} {ME : hz_M} (h : f_X10_feed a1 a2 a3 a4 a5 M = some (rE, ME)) : hz_Ct l yX10_feed cX10_feed 7 (some .int) 2 w N [.ref (hz_ad w 0), .int a1, .int a2, .int a3, .int a4, .int a5] M (hz_Qi w N rE ME) := by
  refine hz_ofW (by decide) rfl (Nat.le_of_ble_eq_true rfl) tw_7_114 ?_
  intro p e s m args below meth c hO
  show hz_G p l e 2 hz_z0 s m args below meth c w N 7 _ M 0 [(0, .ref (hz_ad w 0)), (1, .int a1), (2, .int a2), (3, .int a3), (4, .int a4), (5, .int a5)] []
  unfold f_X10_feed at h
  refine hz_iload_n hO dX10_feed_0 rfl 1 rfl ?_
  obtain ⟨r1, M2, hq3, h⟩ := hz_ct_e h
  refine hz_callSi (as := [.int a1]) (rest := []) hO (c_X8_bytesIn l w hN a1 hq3) hz_cal_X8_bytesIn tw_7_115 (Nat.le_of_ble_eq_true rfl) rfl rfl (Nat.le_of_ble_eq_true rfl) dX10_feed_1 ?_
  refine hz_iload_n hO dX10_feed_4 rfl 2 rfl ?_
  obtain ⟨r4, M5, hq6, h⟩ := hz_ct_e h
  refine hz_callSi (as := [.int a2]) (rest := [.int r1]) hO (c_X8_bytesIn l w hN a2 hq6) hz_cal_X8_bytesIn tw_7_115 (Nat.le_of_ble_eq_true rfl) rfl rfl (Nat.le_of_ble_eq_true rfl) dX10_feed_5 ?_
  refine hz_iadd hO dX10_feed_8 ?_
  refine hz_iload_n hO dX10_feed_9 rfl 3 rfl ?_
  obtain ⟨r7, M8, hq9, h⟩ := hz_ct_e h
  refine hz_callSi (as := [.int a3]) (rest := [.int (r1 + r4)]) hO (c_X8_bytesIn l w hN a3 hq9) hz_cal_X8_bytesIn tw_7_115 (Nat.le_of_ble_eq_true rfl) rfl rfl (Nat.le_of_ble_eq_true rfl) dX10_feed_10 ?_
  refine hz_iadd hO dX10_feed_13 ?_
  refine hz_iload hO dX10_feed_14 4 rfl ?_
  obtain ⟨r10, M11, hq12, h⟩ := hz_ct_e h
  refine hz_callSi (as := [.int a4]) (rest := [.int ((r1 + r4) + r7)]) hO (c_X8_bytesIn l w hN a4 hq12) hz_cal_X8_bytesIn tw_7_115 (Nat.le_of_ble_eq_true rfl) rfl rfl (Nat.le_of_ble_eq_true rfl) dX10_feed_16 ?_
  refine hz_iadd hO dX10_feed_19 ?_
  refine hz_iload hO dX10_feed_20 5 rfl ?_
  obtain ⟨r13, M14, hq15, h⟩ := hz_ct_e h
  refine hz_callSi (as := [.int a5]) (rest := [.int (((r1 + r4) + r7) + r10)]) hO (c_X8_bytesIn l w hN a5 hq15) hz_cal_X8_bytesIn tw_7_115 (Nat.le_of_ble_eq_true rfl) rfl rfl (Nat.le_of_ble_eq_true rfl) dX10_feed_22 ?_
  refine hz_iadd hO dX10_feed_25 ?_
  obtain ⟨x16, h_x16, h⟩ := hz_lt_e h
  refine hz_name h_x16 ?_
  refine hz_istore (ls1 := [(6, .int x16), (0, .ref (hz_ad w 0)), (1, .int a1), (2, .int a2), (3, .int a3), (4, .int a4), (5, .int a5)]) hO dX10_feed_26 (Nat.le_of_ble_eq_true rfl) rfl ?_
  refine hz_aload_n hO dX10_feed_28 rfl 1 rfl ?_
  refine hz_getR (k := 2) hO 9 hz_K_10 hz_sh_0 (hz_lt_0 hN) rfl (Nat.le_of_ble_eq_true rfl) tw_3_30 rfl dX10_feed_29 ?_
  refine hz_getI (k := 1) hO hz_K_8 hz_sh_9 (hz_lt_9 hN) rfl (Nat.le_of_ble_eq_true rfl) tw_1_110 rfl dX10_feed_32 ?_
  refine hz_iload hO dX10_feed_35 0 rfl ?_
  refine hz_iadd hO dX10_feed_37 ?_
  refine hz_sipush (v := (600 : Int32)) hO dX10_feed_38 (by decide) ?_
  refine hz_icmp_le (tgt := 46) hO dX10_feed_41 (by decide) (fun hc17 => ?_) (fun hc17 => ?_)
  · rw [if_pos hc17] at h
    refine hz_aload_n hO dX10_feed_46 rfl 1 rfl ?_
    refine hz_getR (k := 2) hO 9 hz_K_10 hz_sh_0 (hz_lt_0 hN) rfl (Nat.le_of_ble_eq_true rfl) tw_3_30 rfl dX10_feed_47 ?_
    refine hz_iload_n hO dX10_feed_50 rfl 2 rfl ?_
    obtain ⟨r18, M19, hq20, h⟩ := hz_ct_e h
    refine hz_callVv (as := [.int a1]) (rest := []) hO (c_X8_append l w hN a1 hq20) hz_cal_X8_append hz_K_8 hz_sh_9 (hz_lt_9 hN) tw_7_118 (Nat.le_of_ble_eq_true rfl) rfl rfl (Nat.le_of_ble_eq_true rfl) dX10_feed_51 ?_
    refine hz_aload_n hO dX10_feed_54 rfl 1 rfl ?_
    refine hz_getR (k := 2) hO 9 hz_K_10 hz_sh_0 (hz_lt_0 hN) rfl (Nat.le_of_ble_eq_true rfl) tw_3_30 rfl dX10_feed_55 ?_
    refine hz_iload_n hO dX10_feed_58 rfl 3 rfl ?_
    obtain ⟨r21, M22, hq23, h⟩ := hz_ct_e h
    refine hz_callVv (as := [.int a2]) (rest := []) hO (c_X8_append l w hN a2 hq23) hz_cal_X8_append hz_K_8 hz_sh_9 (hz_lt_9 hN) tw_7_118 (Nat.le_of_ble_eq_true rfl) rfl rfl (Nat.le_of_ble_eq_true rfl) dX10_feed_59 ?_
    refine hz_aload_n hO dX10_feed_62 rfl 1 rfl ?_
    refine hz_getR (k := 2) hO 9 hz_K_10 hz_sh_0 (hz_lt_0 hN) rfl (Nat.le_of_ble_eq_true rfl) tw_3_30 rfl dX10_feed_63 ?_
    refine hz_iload_n hO dX10_feed_66 rfl 4 rfl ?_
    obtain ⟨r24, M25, hq26, h⟩ := hz_ct_e h
    refine hz_callVv (as := [.int a3]) (rest := []) hO (c_X8_append l w hN a3 hq26) hz_cal_X8_append hz_K_8 hz_sh_9 (hz_lt_9 hN) tw_7_118 (Nat.le_of_ble_eq_true rfl) rfl rfl (Nat.le_of_ble_eq_true rfl) dX10_feed_67 ?_
    refine hz_aload_n hO dX10_feed_70 rfl 1 rfl ?_
    refine hz_getR (k := 2) hO 9 hz_K_10 hz_sh_0 (hz_lt_0 hN) rfl (Nat.le_of_ble_eq_true rfl) tw_3_30 rfl dX10_feed_71 ?_
    refine hz_iload hO dX10_feed_74 5 rfl ?_
    obtain ⟨r27, M28, hq29, h⟩ := hz_ct_e h
    refine hz_callVv (as := [.int a4]) (rest := []) hO (c_X8_append l w hN a4 hq29) hz_cal_X8_append hz_K_8 hz_sh_9 (hz_lt_9 hN) tw_7_118 (Nat.le_of_ble_eq_true rfl) rfl rfl (Nat.le_of_ble_eq_true rfl) dX10_feed_76 ?_
    refine hz_aload_n hO dX10_feed_79 rfl 1 rfl ?_
    refine hz_getR (k := 2) hO 9 hz_K_10 hz_sh_0 (hz_lt_0 hN) rfl (Nat.le_of_ble_eq_true rfl) tw_3_30 rfl dX10_feed_80 ?_
    refine hz_iload hO dX10_feed_83 6 rfl ?_
    obtain ⟨r30, M31, hq32, h⟩ := hz_ct_e h
    refine hz_callVv (as := [.int a5]) (rest := []) hO (c_X8_append l w hN a5 hq32) hz_cal_X8_append hz_K_8 hz_sh_9 (hz_lt_9 hN) tw_7_118 (Nat.le_of_ble_eq_true rfl) rfl rfl (Nat.le_of_ble_eq_true rfl) dX10_feed_85 ?_
    refine hz_aload_n hO dX10_feed_88 rfl 1 rfl ?_
    refine hz_getR (k := 2) hO 9 hz_K_10 hz_sh_0 (hz_lt_0 hN) rfl (Nat.le_of_ble_eq_true rfl) tw_3_30 rfl dX10_feed_89 ?_
    refine hz_getI (k := 1) hO hz_K_8 hz_sh_9 (hz_lt_9 hN) rfl (Nat.le_of_ble_eq_true rfl) tw_1_110 rfl dX10_feed_92 ?_
    exact hz_nameM (hz_some_e h).2.symm (hz_name (hz_some_e h).1.symm (hz_iret hO dX10_feed_95))
  · rw [if_neg hc17] at h
    refine hz_iconst (v := (-1 : Int32)) hO dX10_feed_44 (by decide) ?_
    exact hz_nameM (hz_some_e h).2.symm (hz_name (hz_some_e h).1.symm (hz_iret hO dX10_feed_45))
def f_X10_guest (a1 : Int32) (a2 : Int32) (M : hz_M) : hz_O :=
  hz_ct (f_X3_isGuest a1 M) fun r1 M2 =>
  hz_ct (f_X10_need r1 M2) fun r4 M5 =>
  if a2 = 0 then
    hz_gd (hz_in a1 16) <|
    some ((M5 2 (Int32.toNatClampNeg a1)), M5)
  else
  if a2 = 1 then
    hz_gd (hz_in a1 16) <|
    some ((M5 13 (Int32.toNatClampNeg a1)), M5)
  else
  if a2 = 2 then
    hz_gd (hz_in a1 16) <|
    some ((M5 14 (Int32.toNatClampNeg a1)), M5)
  else
  if a2 = 3 then
    hz_gd (hz_in a1 16) <|
    some ((M5 15 (Int32.toNatClampNeg a1)), M5)
  else
  if a2 = 4 then
    hz_gd (hz_in a1 16) <|
    some ((M5 16 (Int32.toNatClampNeg a1)), M5)
  else
  if a2 = 5 then
    hz_gd (hz_in a1 16) <|
    some ((M5 17 (Int32.toNatClampNeg a1)), M5)
  else
  if a2 = 6 then
    hz_ct (f_X3_bears a1 M5) fun r20 M21 =>
    some (r20, M21)
  else
  if a2 = 7 then
    hz_ct (f_X3_highestByAge a1 M5) fun r24 M25 =>
    some (r24, M25)
  else
  if a2 = 8 then
    hz_gd (hz_in a1 16) <|
    some ((M5 18 (Int32.toNatClampNeg a1)), M5)
  else
  none
set_option maxRecDepth 100000 in
set_option maxHeartbeats 4000000 in
theorem c_X10_guest (l : Launch) (w : hz_C) {N : Nat} (hN : 178 ≤ N) (a1 : Int32) (a2 : Int32) {M : hz_M} {rE : Int32} {ME : hz_M} (h : f_X10_guest a1 a2 M = some (rE, ME)) : hz_Ct l yX10_guest cX10_guest 3 (some .int) 2 w N [.ref (hz_ad w 0), .int a1, .int a2] M (hz_Qi w N rE ME) := by
  refine hz_ofW (by decide) rfl (Nat.le_of_ble_eq_true rfl) tw_4_150 ?_
  intro p e s m args below meth c hO
  show hz_G p l e 2 hz_z0 s m args below meth c w N 3 _ M 0 [(0, .ref (hz_ad w 0)), (1, .int a1), (2, .int a2)] []
  unfold f_X10_guest at h
  refine hz_aload_n hO dX10_guest_0 rfl 0 rfl ?_
  refine hz_getR (k := 0) hO 1 hz_K_10 hz_sh_0 (hz_lt_0 hN) rfl (Nat.le_of_ble_eq_true rfl) tw_3_28 rfl dX10_guest_1 ?_
  refine hz_iload_n hO dX10_guest_4 rfl 1 rfl ?_
  obtain ⟨r1, M2, hq3, h⟩ := hz_ct_e h
  refine hz_callVi (as := [.int a1]) (rest := []) hO (c_X3_isGuest l w hN a1 hq3) hz_cal_X3_isGuest hz_K_4 hz_sh_1 (hz_lt_1 hN) tw_4_57 (Nat.le_of_ble_eq_true rfl) rfl rfl (Nat.le_of_ble_eq_true rfl) dX10_guest_5 ?_
  obtain ⟨r4, M5, hq6, h⟩ := hz_ct_e h
  refine hz_callSv (as := [.int r1]) (rest := []) hO (c_X10_need l w hN r1 hq6) hz_cal_X10_need tw_4_61 (Nat.le_of_ble_eq_true rfl) rfl rfl (Nat.le_of_ble_eq_true rfl) dX10_guest_8 ?_
  refine hz_iload_n hO dX10_guest_11 rfl 2 rfl ?_
  by_cases hc7 : a2 = (0 : Int32)
  · rw [if_pos hc7] at h
    refine hz_tin (tgt := 64) hO hc7 dX10_guest_12 (by decide) (by decide) rfl (by decide) ?_
    refine hz_aload_n hO dX10_guest_64 rfl 0 rfl ?_
    refine hz_getR (k := 0) hO 1 hz_K_10 hz_sh_0 (hz_lt_0 hN) rfl (Nat.le_of_ble_eq_true rfl) tw_3_28 rfl dX10_guest_65 ?_
    refine hz_getR (k := 0) hO 2 hz_K_4 hz_sh_1 (hz_lt_1 hN) rfl (Nat.le_of_ble_eq_true rfl) tw_1_47 rfl dX10_guest_68 ?_
    refine hz_iload_n hO dX10_guest_71 rfl 1 rfl ?_
    obtain ⟨hg8, h⟩ := hz_gd_e h
    refine hz_iald hO hz_sh_2 (hz_lt_2 hN) hg8 dX10_guest_72 ?_
    exact hz_nameM (hz_some_e h).2.symm (hz_name (hz_some_e h).1.symm (hz_iret hO dX10_guest_73))
  · rw [if_neg hc7] at h
    by_cases hc9 : a2 = (1 : Int32)
    · rw [if_pos hc9] at h
      refine hz_tin (tgt := 74) hO hc9 dX10_guest_12 (by decide) (by decide) rfl (by decide) ?_
      refine hz_aload_n hO dX10_guest_74 rfl 0 rfl ?_
      refine hz_getR (k := 3) hO 11 hz_K_10 hz_sh_0 (hz_lt_0 hN) rfl (Nat.le_of_ble_eq_true rfl) tw_3_31 rfl dX10_guest_75 ?_
      refine hz_getR (k := 2) hO 13 hz_K_7 hz_sh_11 (hz_lt_11 hN) rfl (Nat.le_of_ble_eq_true rfl) tw_1_153 rfl dX10_guest_78 ?_
      refine hz_iload_n hO dX10_guest_81 rfl 1 rfl ?_
      obtain ⟨hg10, h⟩ := hz_gd_e h
      refine hz_iald hO hz_sh_13 (hz_lt_13 hN) hg10 dX10_guest_82 ?_
      exact hz_nameM (hz_some_e h).2.symm (hz_name (hz_some_e h).1.symm (hz_iret hO dX10_guest_83))
    · rw [if_neg hc9] at h
      by_cases hc11 : a2 = (2 : Int32)
      · rw [if_pos hc11] at h
        refine hz_tin (tgt := 84) hO hc11 dX10_guest_12 (by decide) (by decide) rfl (by decide) ?_
        refine hz_aload_n hO dX10_guest_84 rfl 0 rfl ?_
        refine hz_getR (k := 3) hO 11 hz_K_10 hz_sh_0 (hz_lt_0 hN) rfl (Nat.le_of_ble_eq_true rfl) tw_3_31 rfl dX10_guest_85 ?_
        refine hz_getR (k := 3) hO 14 hz_K_7 hz_sh_11 (hz_lt_11 hN) rfl (Nat.le_of_ble_eq_true rfl) tw_1_156 rfl dX10_guest_88 ?_
        refine hz_iload_n hO dX10_guest_91 rfl 1 rfl ?_
        obtain ⟨hg12, h⟩ := hz_gd_e h
        refine hz_iald hO hz_sh_14 (hz_lt_14 hN) hg12 dX10_guest_92 ?_
        exact hz_nameM (hz_some_e h).2.symm (hz_name (hz_some_e h).1.symm (hz_iret hO dX10_guest_93))
      · rw [if_neg hc11] at h
        by_cases hc13 : a2 = (3 : Int32)
        · rw [if_pos hc13] at h
          refine hz_tin (tgt := 94) hO hc13 dX10_guest_12 (by decide) (by decide) rfl (by decide) ?_
          refine hz_aload_n hO dX10_guest_94 rfl 0 rfl ?_
          refine hz_getR (k := 3) hO 11 hz_K_10 hz_sh_0 (hz_lt_0 hN) rfl (Nat.le_of_ble_eq_true rfl) tw_3_31 rfl dX10_guest_95 ?_
          refine hz_getR (k := 4) hO 15 hz_K_7 hz_sh_11 (hz_lt_11 hN) rfl (Nat.le_of_ble_eq_true rfl) tw_1_159 rfl dX10_guest_98 ?_
          refine hz_iload_n hO dX10_guest_101 rfl 1 rfl ?_
          obtain ⟨hg14, h⟩ := hz_gd_e h
          refine hz_iald hO hz_sh_15 (hz_lt_15 hN) hg14 dX10_guest_102 ?_
          exact hz_nameM (hz_some_e h).2.symm (hz_name (hz_some_e h).1.symm (hz_iret hO dX10_guest_103))
        · rw [if_neg hc13] at h
          by_cases hc15 : a2 = (4 : Int32)
          · rw [if_pos hc15] at h
            refine hz_tin (tgt := 104) hO hc15 dX10_guest_12 (by decide) (by decide) rfl (by decide) ?_
            refine hz_aload_n hO dX10_guest_104 rfl 0 rfl ?_
            refine hz_getR (k := 3) hO 11 hz_K_10 hz_sh_0 (hz_lt_0 hN) rfl (Nat.le_of_ble_eq_true rfl) tw_3_31 rfl dX10_guest_105 ?_
            refine hz_getR (k := 5) hO 16 hz_K_7 hz_sh_11 (hz_lt_11 hN) rfl (Nat.le_of_ble_eq_true rfl) tw_1_163 rfl dX10_guest_108 ?_
            refine hz_iload_n hO dX10_guest_111 rfl 1 rfl ?_
            obtain ⟨hg16, h⟩ := hz_gd_e h
            refine hz_iald hO hz_sh_16 (hz_lt_16 hN) hg16 dX10_guest_112 ?_
            exact hz_nameM (hz_some_e h).2.symm (hz_name (hz_some_e h).1.symm (hz_iret hO dX10_guest_113))
          · rw [if_neg hc15] at h
            by_cases hc17 : a2 = (5 : Int32)
            · rw [if_pos hc17] at h
              refine hz_tin (tgt := 114) hO hc17 dX10_guest_12 (by decide) (by decide) rfl (by decide) ?_
              refine hz_aload_n hO dX10_guest_114 rfl 0 rfl ?_
              refine hz_getR (k := 3) hO 11 hz_K_10 hz_sh_0 (hz_lt_0 hN) rfl (Nat.le_of_ble_eq_true rfl) tw_3_31 rfl dX10_guest_115 ?_
              refine hz_getR (k := 6) hO 17 hz_K_7 hz_sh_11 (hz_lt_11 hN) rfl (Nat.le_of_ble_eq_true rfl) tw_1_165 rfl dX10_guest_118 ?_
              refine hz_iload_n hO dX10_guest_121 rfl 1 rfl ?_
              obtain ⟨hg18, h⟩ := hz_gd_e h
              refine hz_iald hO hz_sh_17 (hz_lt_17 hN) hg18 dX10_guest_122 ?_
              exact hz_nameM (hz_some_e h).2.symm (hz_name (hz_some_e h).1.symm (hz_iret hO dX10_guest_123))
            · rw [if_neg hc17] at h
              by_cases hc19 : a2 = (6 : Int32)
              · rw [if_pos hc19] at h
                refine hz_tin (tgt := 124) hO hc19 dX10_guest_12 (by decide) (by decide) rfl (by decide) ?_
                refine hz_aload_n hO dX10_guest_124 rfl 0 rfl ?_
                refine hz_getR (k := 0) hO 1 hz_K_10 hz_sh_0 (hz_lt_0 hN) rfl (Nat.le_of_ble_eq_true rfl) tw_3_28 rfl dX10_guest_125 ?_
                refine hz_iload_n hO dX10_guest_128 rfl 1 rfl ?_
                obtain ⟨r20, M21, hq22, h⟩ := hz_ct_e h
                refine hz_callVi (as := [.int a1]) (rest := []) hO (c_X3_bears l w hN a1 hq22) hz_cal_X3_bears hz_K_4 hz_sh_1 (hz_lt_1 hN) tw_4_151 (Nat.le_of_ble_eq_true rfl) rfl rfl (Nat.le_of_ble_eq_true rfl) dX10_guest_129 ?_
                exact hz_nameM (hz_some_e h).2.symm (hz_name (hz_some_e h).1.symm (hz_iret hO dX10_guest_132))
              · rw [if_neg hc19] at h
                by_cases hc23 : a2 = (7 : Int32)
                · rw [if_pos hc23] at h
                  refine hz_tin (tgt := 133) hO hc23 dX10_guest_12 (by decide) (by decide) rfl (by decide) ?_
                  refine hz_aload_n hO dX10_guest_133 rfl 0 rfl ?_
                  refine hz_getR (k := 0) hO 1 hz_K_10 hz_sh_0 (hz_lt_0 hN) rfl (Nat.le_of_ble_eq_true rfl) tw_3_28 rfl dX10_guest_134 ?_
                  refine hz_iload_n hO dX10_guest_137 rfl 1 rfl ?_
                  obtain ⟨r24, M25, hq26, h⟩ := hz_ct_e h
                  refine hz_callVi (as := [.int a1]) (rest := []) hO (c_X3_highestByAge l w hN a1 hq26) hz_cal_X3_highestByAge hz_K_4 hz_sh_1 (hz_lt_1 hN) tw_4_155 (Nat.le_of_ble_eq_true rfl) rfl rfl (Nat.le_of_ble_eq_true rfl) dX10_guest_138 ?_
                  exact hz_nameM (hz_some_e h).2.symm (hz_name (hz_some_e h).1.symm (hz_iret hO dX10_guest_141))
                · rw [if_neg hc23] at h
                  by_cases hc27 : a2 = (8 : Int32)
                  · rw [if_pos hc27] at h
                    refine hz_tin (tgt := 142) hO hc27 dX10_guest_12 (by decide) (by decide) rfl (by decide) ?_
                    refine hz_aload_n hO dX10_guest_142 rfl 0 rfl ?_
                    refine hz_getR (k := 3) hO 11 hz_K_10 hz_sh_0 (hz_lt_0 hN) rfl (Nat.le_of_ble_eq_true rfl) tw_3_31 rfl dX10_guest_143 ?_
                    refine hz_getR (k := 7) hO 18 hz_K_7 hz_sh_11 (hz_lt_11 hN) rfl (Nat.le_of_ble_eq_true rfl) tw_1_169 rfl dX10_guest_146 ?_
                    refine hz_iload_n hO dX10_guest_149 rfl 1 rfl ?_
                    obtain ⟨hg28, h⟩ := hz_gd_e h
                    refine hz_iald hO hz_sh_18 (hz_lt_18 hN) hg28 dX10_guest_150 ?_
                    exact hz_nameM (hz_some_e h).2.symm (hz_name (hz_some_e h).1.symm (hz_iret hO dX10_guest_151))
                  · rw [if_neg hc27] at h
                    have hn0 : ¬ a2.toInt = 0 := lv_neT hc7 rfl
                    have hn1 : ¬ a2.toInt = 1 := lv_neT hc9 rfl
                    have hn2 : ¬ a2.toInt = 2 := lv_neT hc11 rfl
                    have hn3 : ¬ a2.toInt = 3 := lv_neT hc13 rfl
                    have hn4 : ¬ a2.toInt = 4 := lv_neT hc15 rfl
                    have hn5 : ¬ a2.toInt = 5 := lv_neT hc17 rfl
                    have hn6 : ¬ a2.toInt = 6 := lv_neT hc19 rfl
                    have hn7 : ¬ a2.toInt = 7 := lv_neT hc23 rfl
                    have hn8 : ¬ a2.toInt = 8 := lv_neT hc27 rfl
                    refine hz_tout (tgt := 152) hO dX10_guest_12 (by omega) (by decide) ?_
                    cases h
def f_X10_towel (a1 : Int32) (a2 : Int32) (M : hz_M) : hz_O :=
  hz_ct (f_X3_isTowel a1 M) fun r1 M2 =>
  hz_ct (f_X10_need r1 M2) fun r4 M5 =>
  if a2 = 0 then
    hz_gd (hz_in a1 16) <|
    some ((M5 20 (Int32.toNatClampNeg a1)), M5)
  else
  if a2 = 1 then
    hz_gd (hz_in a1 16) <|
    some ((M5 21 (Int32.toNatClampNeg a1)), M5)
  else
  if a2 = 2 then
    hz_gd (hz_in a1 16) <|
    some ((M5 22 (Int32.toNatClampNeg a1)), M5)
  else
  if a2 = 3 then
    hz_ct (f_X7_isInBasket a1 M5) fun r14 M15 =>
    if r14 = 0 then
      some ((0 : Int32), M15)
    else
      some ((1 : Int32), M15)
  else
  none
set_option maxRecDepth 100000 in
set_option maxHeartbeats 4000000 in
theorem c_X10_towel (l : Launch) (w : hz_C) {N : Nat} (hN : 178 ≤ N) (a1 : Int32) (a2 : Int32) {M : hz_M} {rE : Int32} {ME : hz_M} (h : f_X10_towel a1 a2 M = some (rE, ME)) : hz_Ct l yX10_towel cX10_towel 3 (some .int) 1 w N [.ref (hz_ad w 0), .int a1, .int a2] M (hz_Qi w N rE ME) := by
  refine hz_ofW (by decide) rfl (Nat.le_of_ble_eq_true rfl) tw_4_227 ?_
  intro p e s m args below meth c hO
  show hz_G p l e 1 hz_z0 s m args below meth c w N 3 _ M 0 [(0, .ref (hz_ad w 0)), (1, .int a1), (2, .int a2)] []
  unfold f_X10_towel at h
  refine hz_aload_n hO dX10_towel_0 rfl 0 rfl ?_
  refine hz_getR (k := 0) hO 1 hz_K_10 hz_sh_0 (hz_lt_0 hN) rfl (Nat.le_of_ble_eq_true rfl) tw_3_28 rfl dX10_towel_1 ?_
  refine hz_iload_n hO dX10_towel_4 rfl 1 rfl ?_
  obtain ⟨r1, M2, hq3, h⟩ := hz_ct_e h
  refine hz_callVi (as := [.int a1]) (rest := []) hO (c_X3_isTowel l w hN a1 hq3) hz_cal_X3_isTowel hz_K_4 hz_sh_1 (hz_lt_1 hN) tw_4_228 (Nat.le_of_ble_eq_true rfl) rfl rfl (Nat.le_of_ble_eq_true rfl) dX10_towel_5 ?_
  obtain ⟨r4, M5, hq6, h⟩ := hz_ct_e h
  refine hz_callSv (as := [.int r1]) (rest := []) hO (c_X10_need l w hN r1 hq6) hz_cal_X10_need tw_4_61 (Nat.le_of_ble_eq_true rfl) rfl rfl (Nat.le_of_ble_eq_true rfl) dX10_towel_8 ?_
  refine hz_iload_n hO dX10_towel_11 rfl 2 rfl ?_
  by_cases hc7 : a2 = (0 : Int32)
  · rw [if_pos hc7] at h
    refine hz_tin (tgt := 44) hO hc7 dX10_towel_12 (by decide) (by decide) rfl (by decide) ?_
    refine hz_aload_n hO dX10_towel_44 rfl 0 rfl ?_
    refine hz_getR (k := 3) hO 11 hz_K_10 hz_sh_0 (hz_lt_0 hN) rfl (Nat.le_of_ble_eq_true rfl) tw_3_31 rfl dX10_towel_45 ?_
    refine hz_getR (k := 9) hO 20 hz_K_7 hz_sh_11 (hz_lt_11 hN) rfl (Nat.le_of_ble_eq_true rfl) tw_1_175 rfl dX10_towel_48 ?_
    refine hz_iload_n hO dX10_towel_51 rfl 1 rfl ?_
    obtain ⟨hg8, h⟩ := hz_gd_e h
    refine hz_iald hO hz_sh_20 (hz_lt_20 hN) hg8 dX10_towel_52 ?_
    exact hz_nameM (hz_some_e h).2.symm (hz_name (hz_some_e h).1.symm (hz_iret hO dX10_towel_53))
  · rw [if_neg hc7] at h
    by_cases hc9 : a2 = (1 : Int32)
    · rw [if_pos hc9] at h
      refine hz_tin (tgt := 54) hO hc9 dX10_towel_12 (by decide) (by decide) rfl (by decide) ?_
      refine hz_aload_n hO dX10_towel_54 rfl 0 rfl ?_
      refine hz_getR (k := 3) hO 11 hz_K_10 hz_sh_0 (hz_lt_0 hN) rfl (Nat.le_of_ble_eq_true rfl) tw_3_31 rfl dX10_towel_55 ?_
      refine hz_getR (k := 10) hO 21 hz_K_7 hz_sh_11 (hz_lt_11 hN) rfl (Nat.le_of_ble_eq_true rfl) tw_1_178 rfl dX10_towel_58 ?_
      refine hz_iload_n hO dX10_towel_61 rfl 1 rfl ?_
      obtain ⟨hg10, h⟩ := hz_gd_e h
      refine hz_iald hO hz_sh_21 (hz_lt_21 hN) hg10 dX10_towel_62 ?_
      exact hz_nameM (hz_some_e h).2.symm (hz_name (hz_some_e h).1.symm (hz_iret hO dX10_towel_63))
    · rw [if_neg hc9] at h
      by_cases hc11 : a2 = (2 : Int32)
      · rw [if_pos hc11] at h
        refine hz_tin (tgt := 64) hO hc11 dX10_towel_12 (by decide) (by decide) rfl (by decide) ?_
        refine hz_aload_n hO dX10_towel_64 rfl 0 rfl ?_
        refine hz_getR (k := 3) hO 11 hz_K_10 hz_sh_0 (hz_lt_0 hN) rfl (Nat.le_of_ble_eq_true rfl) tw_3_31 rfl dX10_towel_65 ?_
        refine hz_getR (k := 11) hO 22 hz_K_7 hz_sh_11 (hz_lt_11 hN) rfl (Nat.le_of_ble_eq_true rfl) tw_1_180 rfl dX10_towel_68 ?_
        refine hz_iload_n hO dX10_towel_71 rfl 1 rfl ?_
        obtain ⟨hg12, h⟩ := hz_gd_e h
        refine hz_iald hO hz_sh_22 (hz_lt_22 hN) hg12 dX10_towel_72 ?_
        exact hz_nameM (hz_some_e h).2.symm (hz_name (hz_some_e h).1.symm (hz_iret hO dX10_towel_73))
      · rw [if_neg hc11] at h
        by_cases hc13 : a2 = (3 : Int32)
        · rw [if_pos hc13] at h
          refine hz_tin (tgt := 74) hO hc13 dX10_towel_12 (by decide) (by decide) rfl (by decide) ?_
          refine hz_aload_n hO dX10_towel_74 rfl 0 rfl ?_
          refine hz_getR (k := 3) hO 11 hz_K_10 hz_sh_0 (hz_lt_0 hN) rfl (Nat.le_of_ble_eq_true rfl) tw_3_31 rfl dX10_towel_75 ?_
          refine hz_iload_n hO dX10_towel_78 rfl 1 rfl ?_
          obtain ⟨r14, M15, hq16, h⟩ := hz_ct_e h
          refine hz_callVi (as := [.int a1]) (rest := []) hO (c_X7_isInBasket l w hN a1 hq16) hz_cal_X7_isInBasket hz_K_7 hz_sh_11 (hz_lt_11 hN) tw_4_232 (Nat.le_of_ble_eq_true rfl) rfl rfl (Nat.le_of_ble_eq_true rfl) dX10_towel_79 ?_
          refine hz_if_eq (tgt := 89) hO dX10_towel_82 (by decide) (fun hc17 => ?_) (fun hc17 => ?_)
          · rw [if_pos hc17] at h
            refine hz_iconst (v := (0 : Int32)) hO dX10_towel_89 (by decide) ?_
            exact hz_nameM (hz_some_e h).2.symm (hz_name (hz_some_e h).1.symm (hz_iret hO dX10_towel_90))
          · rw [if_neg hc17] at h
            refine hz_iconst (v := (1 : Int32)) hO dX10_towel_85 (by decide) ?_
            refine hz_goto (tgt := 90) hO dX10_towel_86 (by decide) ?_
            exact hz_nameM (hz_some_e h).2.symm (hz_name (hz_some_e h).1.symm (hz_iret hO dX10_towel_90))
        · rw [if_neg hc13] at h
          have hn0 : ¬ a2.toInt = 0 := lv_neT hc7 rfl
          have hn1 : ¬ a2.toInt = 1 := lv_neT hc9 rfl
          have hn2 : ¬ a2.toInt = 2 := lv_neT hc11 rfl
          have hn3 : ¬ a2.toInt = 3 := lv_neT hc13 rfl
          refine hz_tout (tgt := 91) hO dX10_towel_12 (by omega) (by decide) ?_
          cases h
def f_X10_peg (a1 : Int32) (M : hz_M) : hz_O :=
  hz_ct (f_X3_isPeg a1 M) fun r1 M2 =>
  hz_ct (f_X10_need r1 M2) fun r4 M5 =>
  hz_gd (hz_in a1 16) <|
  some ((M5 23 (Int32.toNatClampNeg a1)), M5)
set_option maxRecDepth 100000 in
set_option maxHeartbeats 4000000 in
theorem c_X10_peg (l : Launch) (w : hz_C) {N : Nat} (hN : 178 ≤ N) (a1 : Int32) {M : hz_M} {rE : Int32} {ME : hz_M} (h : f_X10_peg a1 M = some (rE, ME)) : hz_Ct l yX10_peg cX10_peg 2 (some .int) 1 w N [.ref (hz_ad w 0), .int a1] M (hz_Qi w N rE ME) := by
  refine hz_ofW (by decide) rfl (Nat.le_of_ble_eq_true rfl) tw_4_239 ?_
  intro p e s m args below meth c hO
  show hz_G p l e 1 hz_z0 s m args below meth c w N 2 _ M 0 [(0, .ref (hz_ad w 0)), (1, .int a1)] []
  unfold f_X10_peg at h
  refine hz_aload_n hO dX10_peg_0 rfl 0 rfl ?_
  refine hz_getR (k := 0) hO 1 hz_K_10 hz_sh_0 (hz_lt_0 hN) rfl (Nat.le_of_ble_eq_true rfl) tw_3_28 rfl dX10_peg_1 ?_
  refine hz_iload_n hO dX10_peg_4 rfl 1 rfl ?_
  obtain ⟨r1, M2, hq3, h⟩ := hz_ct_e h
  refine hz_callVi (as := [.int a1]) (rest := []) hO (c_X3_isPeg l w hN a1 hq3) hz_cal_X3_isPeg hz_K_4 hz_sh_1 (hz_lt_1 hN) tw_5_0 (Nat.le_of_ble_eq_true rfl) rfl rfl (Nat.le_of_ble_eq_true rfl) dX10_peg_5 ?_
  obtain ⟨r4, M5, hq6, h⟩ := hz_ct_e h
  refine hz_callSv (as := [.int r1]) (rest := []) hO (c_X10_need l w hN r1 hq6) hz_cal_X10_need tw_4_61 (Nat.le_of_ble_eq_true rfl) rfl rfl (Nat.le_of_ble_eq_true rfl) dX10_peg_8 ?_
  refine hz_aload_n hO dX10_peg_11 rfl 0 rfl ?_
  refine hz_getR (k := 3) hO 11 hz_K_10 hz_sh_0 (hz_lt_0 hN) rfl (Nat.le_of_ble_eq_true rfl) tw_3_31 rfl dX10_peg_12 ?_
  refine hz_getR (k := 12) hO 23 hz_K_7 hz_sh_11 (hz_lt_11 hN) rfl (Nat.le_of_ble_eq_true rfl) tw_1_184 rfl dX10_peg_15 ?_
  refine hz_iload_n hO dX10_peg_18 rfl 1 rfl ?_
  obtain ⟨hg7, h⟩ := hz_gd_e h
  refine hz_iald hO hz_sh_23 (hz_lt_23 hN) hg7 dX10_peg_19 ?_
  exact hz_nameM (hz_some_e h).2.symm (hz_name (hz_some_e h).1.symm (hz_iret hO dX10_peg_20))
def f_X10_locker (a1 : Int32) (M : hz_M) : hz_O :=
  hz_ct (f_X3_isLocker a1 M) fun r1 M2 =>
  hz_ct (f_X10_need r1 M2) fun r4 M5 =>
  hz_gd (hz_in a1 12) <|
  some ((M5 19 (Int32.toNatClampNeg a1)), M5)
set_option maxRecDepth 100000 in
set_option maxHeartbeats 4000000 in
theorem c_X10_locker (l : Launch) (w : hz_C) {N : Nat} (hN : 178 ≤ N) (a1 : Int32) {M : hz_M} {rE : Int32} {ME : hz_M} (h : f_X10_locker a1 M = some (rE, ME)) : hz_Ct l yX10_locker cX10_locker 2 (some .int) 1 w N [.ref (hz_ad w 0), .int a1] M (hz_Qi w N rE ME) := by
  refine hz_ofW (by decide) rfl (Nat.le_of_ble_eq_true rfl) tw_5_4 ?_
  intro p e s m args below meth c hO
  show hz_G p l e 1 hz_z0 s m args below meth c w N 2 _ M 0 [(0, .ref (hz_ad w 0)), (1, .int a1)] []
  unfold f_X10_locker at h
  refine hz_aload_n hO dX10_locker_0 rfl 0 rfl ?_
  refine hz_getR (k := 0) hO 1 hz_K_10 hz_sh_0 (hz_lt_0 hN) rfl (Nat.le_of_ble_eq_true rfl) tw_3_28 rfl dX10_locker_1 ?_
  refine hz_iload_n hO dX10_locker_4 rfl 1 rfl ?_
  obtain ⟨r1, M2, hq3, h⟩ := hz_ct_e h
  refine hz_callVi (as := [.int a1]) (rest := []) hO (c_X3_isLocker l w hN a1 hq3) hz_cal_X3_isLocker hz_K_4 hz_sh_1 (hz_lt_1 hN) tw_5_5 (Nat.le_of_ble_eq_true rfl) rfl rfl (Nat.le_of_ble_eq_true rfl) dX10_locker_5 ?_
  obtain ⟨r4, M5, hq6, h⟩ := hz_ct_e h
  refine hz_callSv (as := [.int r1]) (rest := []) hO (c_X10_need l w hN r1 hq6) hz_cal_X10_need tw_4_61 (Nat.le_of_ble_eq_true rfl) rfl rfl (Nat.le_of_ble_eq_true rfl) dX10_locker_8 ?_
  refine hz_aload_n hO dX10_locker_11 rfl 0 rfl ?_
  refine hz_getR (k := 3) hO 11 hz_K_10 hz_sh_0 (hz_lt_0 hN) rfl (Nat.le_of_ble_eq_true rfl) tw_3_31 rfl dX10_locker_12 ?_
  refine hz_getR (k := 8) hO 19 hz_K_7 hz_sh_11 (hz_lt_11 hN) rfl (Nat.le_of_ble_eq_true rfl) tw_1_173 rfl dX10_locker_15 ?_
  refine hz_iload_n hO dX10_locker_18 rfl 1 rfl ?_
  obtain ⟨hg7, h⟩ := hz_gd_e h
  refine hz_iald hO hz_sh_19 (hz_lt_19 hN) hg7 dX10_locker_19 ?_
  exact hz_nameM (hz_some_e h).2.symm (hz_name (hz_some_e h).1.symm (hz_iret hO dX10_locker_20))
def f_X10_opening (a1 : Int32) (M : hz_M) : hz_O :=
  hz_ct (f_X3_isValve a1 M) fun r1 M2 =>
  hz_ct (f_X10_need r1 M2) fun r4 M5 =>
  hz_gd (hz_in a1 4) <|
  some ((M5 12 (Int32.toNatClampNeg a1)), M5)
set_option maxRecDepth 100000 in
set_option maxHeartbeats 4000000 in
theorem c_X10_opening (l : Launch) (w : hz_C) {N : Nat} (hN : 178 ≤ N) (a1 : Int32) {M : hz_M} {rE : Int32} {ME : hz_M} (h : f_X10_opening a1 M = some (rE, ME)) : hz_Ct l yX10_opening cX10_opening 2 (some .int) 1 w N [.ref (hz_ad w 0), .int a1] M (hz_Qi w N rE ME) := by
  refine hz_ofW (by decide) rfl (Nat.le_of_ble_eq_true rfl) tw_5_12 ?_
  intro p e s m args below meth c hO
  show hz_G p l e 1 hz_z0 s m args below meth c w N 2 _ M 0 [(0, .ref (hz_ad w 0)), (1, .int a1)] []
  unfold f_X10_opening at h
  refine hz_aload_n hO dX10_opening_0 rfl 0 rfl ?_
  refine hz_getR (k := 0) hO 1 hz_K_10 hz_sh_0 (hz_lt_0 hN) rfl (Nat.le_of_ble_eq_true rfl) tw_3_28 rfl dX10_opening_1 ?_
  refine hz_iload_n hO dX10_opening_4 rfl 1 rfl ?_
  obtain ⟨r1, M2, hq3, h⟩ := hz_ct_e h
  refine hz_callVi (as := [.int a1]) (rest := []) hO (c_X3_isValve l w hN a1 hq3) hz_cal_X3_isValve hz_K_4 hz_sh_1 (hz_lt_1 hN) tw_5_13 (Nat.le_of_ble_eq_true rfl) rfl rfl (Nat.le_of_ble_eq_true rfl) dX10_opening_5 ?_
  obtain ⟨r4, M5, hq6, h⟩ := hz_ct_e h
  refine hz_callSv (as := [.int r1]) (rest := []) hO (c_X10_need l w hN r1 hq6) hz_cal_X10_need tw_4_61 (Nat.le_of_ble_eq_true rfl) rfl rfl (Nat.le_of_ble_eq_true rfl) dX10_opening_8 ?_
  refine hz_aload_n hO dX10_opening_11 rfl 0 rfl ?_
  refine hz_getR (k := 3) hO 11 hz_K_10 hz_sh_0 (hz_lt_0 hN) rfl (Nat.le_of_ble_eq_true rfl) tw_3_31 rfl dX10_opening_12 ?_
  refine hz_getR (k := 1) hO 12 hz_K_7 hz_sh_11 (hz_lt_11 hN) rfl (Nat.le_of_ble_eq_true rfl) tw_1_148 rfl dX10_opening_15 ?_
  refine hz_iload_n hO dX10_opening_18 rfl 1 rfl ?_
  obtain ⟨hg7, h⟩ := hz_gd_e h
  refine hz_iald hO hz_sh_12 (hz_lt_12 hN) hg7 dX10_opening_19 ?_
  exact hz_nameM (hz_some_e h).2.symm (hz_name (hz_some_e h).1.symm (hz_iret hO dX10_opening_20))
def f_X10_step (a1 : Int32) (a2 : Int32) (M : hz_M) : hz_O :=
  hz_ct (f_X3_isStep a1 M) fun r1 M2 =>
  hz_ct (f_X10_need r1 M2) fun r4 M5 =>
  if a2 = 0 then
    hz_ct (f_X7_guestsAt a1 M5) fun r8 M9 =>
    some (r8, M9)
  else
  if a2 = 1 then
    hz_ct (f_X7_temperature a1 M5) fun r12 M13 =>
    some (r12, M13)
  else
  if a2 = 2 then
    hz_ct (f_X3_ageFor a1 M5) fun r16 M17 =>
    some (r16, M17)
  else
  if a2 = 3 then
    hz_ct (f_X7_eldestAt a1 M5) fun r20 M21 =>
    some (r20, M21)
  else
  if a2 = 4 then
    hz_ct (f_X7_strainedAt a1 M5) fun r24 M25 =>
    some (r24, M25)
  else
  none
set_option maxRecDepth 100000 in
set_option maxHeartbeats 4000000 in
theorem c_X10_step (l : Launch) (w : hz_C) {N : Nat} (hN : 178 ≤ N) (a1 : Int32) (a2 : Int32) {M : hz_M} {rE : Int32} {ME : hz_M} (h : f_X10_step a1 a2 M = some (rE, ME)) : hz_Ct l yX10_step cX10_step 3 (some .int) 2 w N [.ref (hz_ad w 0), .int a1, .int a2] M (hz_Qi w N rE ME) := by
  refine hz_ofW (by decide) rfl (Nat.le_of_ble_eq_true rfl) tw_4_192 ?_
  intro p e s m args below meth c hO
  show hz_G p l e 2 hz_z0 s m args below meth c w N 3 _ M 0 [(0, .ref (hz_ad w 0)), (1, .int a1), (2, .int a2)] []
  unfold f_X10_step at h
  refine hz_aload_n hO dX10_step_0 rfl 0 rfl ?_
  refine hz_getR (k := 0) hO 1 hz_K_10 hz_sh_0 (hz_lt_0 hN) rfl (Nat.le_of_ble_eq_true rfl) tw_3_28 rfl dX10_step_1 ?_
  refine hz_iload_n hO dX10_step_4 rfl 1 rfl ?_
  obtain ⟨r1, M2, hq3, h⟩ := hz_ct_e h
  refine hz_callVi (as := [.int a1]) (rest := []) hO (c_X3_isStep l w hN a1 hq3) hz_cal_X3_isStep hz_K_4 hz_sh_1 (hz_lt_1 hN) tw_4_193 (Nat.le_of_ble_eq_true rfl) rfl rfl (Nat.le_of_ble_eq_true rfl) dX10_step_5 ?_
  obtain ⟨r4, M5, hq6, h⟩ := hz_ct_e h
  refine hz_callSv (as := [.int r1]) (rest := []) hO (c_X10_need l w hN r1 hq6) hz_cal_X10_need tw_4_61 (Nat.le_of_ble_eq_true rfl) rfl rfl (Nat.le_of_ble_eq_true rfl) dX10_step_8 ?_
  refine hz_iload_n hO dX10_step_11 rfl 2 rfl ?_
  by_cases hc7 : a2 = (0 : Int32)
  · rw [if_pos hc7] at h
    refine hz_tin (tgt := 48) hO hc7 dX10_step_12 (by decide) (by decide) rfl (by decide) ?_
    refine hz_aload_n hO dX10_step_48 rfl 0 rfl ?_
    refine hz_getR (k := 3) hO 11 hz_K_10 hz_sh_0 (hz_lt_0 hN) rfl (Nat.le_of_ble_eq_true rfl) tw_3_31 rfl dX10_step_49 ?_
    refine hz_iload_n hO dX10_step_52 rfl 1 rfl ?_
    obtain ⟨r8, M9, hq10, h⟩ := hz_ct_e h
    refine hz_callVi (as := [.int a1]) (rest := []) hO (c_X7_guestsAt l w hN a1 hq10) hz_cal_X7_guestsAt hz_K_7 hz_sh_11 (hz_lt_11 hN) tw_3_68 (Nat.le_of_ble_eq_true rfl) rfl rfl (Nat.le_of_ble_eq_true rfl) dX10_step_53 ?_
    exact hz_nameM (hz_some_e h).2.symm (hz_name (hz_some_e h).1.symm (hz_iret hO dX10_step_56))
  · rw [if_neg hc7] at h
    by_cases hc11 : a2 = (1 : Int32)
    · rw [if_pos hc11] at h
      refine hz_tin (tgt := 57) hO hc11 dX10_step_12 (by decide) (by decide) rfl (by decide) ?_
      refine hz_aload_n hO dX10_step_57 rfl 0 rfl ?_
      refine hz_getR (k := 3) hO 11 hz_K_10 hz_sh_0 (hz_lt_0 hN) rfl (Nat.le_of_ble_eq_true rfl) tw_3_31 rfl dX10_step_58 ?_
      refine hz_iload_n hO dX10_step_61 rfl 1 rfl ?_
      obtain ⟨r12, M13, hq14, h⟩ := hz_ct_e h
      refine hz_callVi (as := [.int a1]) (rest := []) hO (c_X7_temperature l w hN a1 hq14) hz_cal_X7_temperature hz_K_7 hz_sh_11 (hz_lt_11 hN) tw_4_194 (Nat.le_of_ble_eq_true rfl) rfl rfl (Nat.le_of_ble_eq_true rfl) dX10_step_62 ?_
      exact hz_nameM (hz_some_e h).2.symm (hz_name (hz_some_e h).1.symm (hz_iret hO dX10_step_65))
    · rw [if_neg hc11] at h
      by_cases hc15 : a2 = (2 : Int32)
      · rw [if_pos hc15] at h
        refine hz_tin (tgt := 66) hO hc15 dX10_step_12 (by decide) (by decide) rfl (by decide) ?_
        refine hz_iload_n hO dX10_step_66 rfl 1 rfl ?_
        obtain ⟨r16, M17, hq18, h⟩ := hz_ct_e h
        refine hz_callSi (as := [.int a1]) (rest := []) hO (c_X3_ageFor l w hN a1 hq18) hz_cal_X3_ageFor tw_4_198 (Nat.le_of_ble_eq_true rfl) rfl rfl (Nat.le_of_ble_eq_true rfl) dX10_step_67 ?_
        exact hz_nameM (hz_some_e h).2.symm (hz_name (hz_some_e h).1.symm (hz_iret hO dX10_step_70))
      · rw [if_neg hc15] at h
        by_cases hc19 : a2 = (3 : Int32)
        · rw [if_pos hc19] at h
          refine hz_tin (tgt := 71) hO hc19 dX10_step_12 (by decide) (by decide) rfl (by decide) ?_
          refine hz_aload_n hO dX10_step_71 rfl 0 rfl ?_
          refine hz_getR (k := 3) hO 11 hz_K_10 hz_sh_0 (hz_lt_0 hN) rfl (Nat.le_of_ble_eq_true rfl) tw_3_31 rfl dX10_step_72 ?_
          refine hz_iload_n hO dX10_step_75 rfl 1 rfl ?_
          obtain ⟨r20, M21, hq22, h⟩ := hz_ct_e h
          refine hz_callVi (as := [.int a1]) (rest := []) hO (c_X7_eldestAt l w hN a1 hq22) hz_cal_X7_eldestAt hz_K_7 hz_sh_11 (hz_lt_11 hN) tw_4_199 (Nat.le_of_ble_eq_true rfl) rfl rfl (Nat.le_of_ble_eq_true rfl) dX10_step_76 ?_
          exact hz_nameM (hz_some_e h).2.symm (hz_name (hz_some_e h).1.symm (hz_iret hO dX10_step_79))
        · rw [if_neg hc19] at h
          by_cases hc23 : a2 = (4 : Int32)
          · rw [if_pos hc23] at h
            refine hz_tin (tgt := 80) hO hc23 dX10_step_12 (by decide) (by decide) rfl (by decide) ?_
            refine hz_aload_n hO dX10_step_80 rfl 0 rfl ?_
            refine hz_getR (k := 3) hO 11 hz_K_10 hz_sh_0 (hz_lt_0 hN) rfl (Nat.le_of_ble_eq_true rfl) tw_3_31 rfl dX10_step_81 ?_
            refine hz_iload_n hO dX10_step_84 rfl 1 rfl ?_
            obtain ⟨r24, M25, hq26, h⟩ := hz_ct_e h
            refine hz_callVi (as := [.int a1]) (rest := []) hO (c_X7_strainedAt l w hN a1 hq26) hz_cal_X7_strainedAt hz_K_7 hz_sh_11 (hz_lt_11 hN) tw_4_204 (Nat.le_of_ble_eq_true rfl) rfl rfl (Nat.le_of_ble_eq_true rfl) dX10_step_85 ?_
            exact hz_nameM (hz_some_e h).2.symm (hz_name (hz_some_e h).1.symm (hz_iret hO dX10_step_88))
          · rw [if_neg hc23] at h
            have hn0 : ¬ a2.toInt = 0 := lv_neT hc7 rfl
            have hn1 : ¬ a2.toInt = 1 := lv_neT hc11 rfl
            have hn2 : ¬ a2.toInt = 2 := lv_neT hc15 rfl
            have hn3 : ¬ a2.toInt = 3 := lv_neT hc19 rfl
            have hn4 : ¬ a2.toInt = 4 := lv_neT hc23 rfl
            refine hz_tout (tgt := 89) hO dX10_step_12 (by omega) (by decide) ?_
            cases h
def f_X10_letter (a1 : Int32) (a2 : Int32) (M : hz_M) : hz_O :=
  hz_ct (f_X3_isGuest a1 M) fun r1 M2 =>
  hz_ct (f_X10_need r1 M2) fun r4 M5 =>
  hz_ct (f_X3_letterOf a1 a2 M5) fun r7 M8 =>
  some (r7, M8)
set_option maxRecDepth 100000 in
set_option maxHeartbeats 4000000 in
theorem c_X10_letter (l : Launch) (w : hz_C) {N : Nat} (hN : 178 ≤ N) (a1 : Int32) (a2 : Int32) {M : hz_M} {rE : Int32} {ME : hz_M} (h : f_X10_letter a1 a2 M = some (rE, ME)) : hz_Ct l yX10_letter cX10_letter 3 (some .int) 2 w N [.ref (hz_ad w 0), .int a1, .int a2] M (hz_Qi w N rE ME) := by
  refine hz_ofW (by decide) rfl (Nat.le_of_ble_eq_true rfl) tw_4_180 ?_
  intro p e s m args below meth c hO
  show hz_G p l e 2 hz_z0 s m args below meth c w N 3 _ M 0 [(0, .ref (hz_ad w 0)), (1, .int a1), (2, .int a2)] []
  unfold f_X10_letter at h
  refine hz_aload_n hO dX10_letter_0 rfl 0 rfl ?_
  refine hz_getR (k := 0) hO 1 hz_K_10 hz_sh_0 (hz_lt_0 hN) rfl (Nat.le_of_ble_eq_true rfl) tw_3_28 rfl dX10_letter_1 ?_
  refine hz_iload_n hO dX10_letter_4 rfl 1 rfl ?_
  obtain ⟨r1, M2, hq3, h⟩ := hz_ct_e h
  refine hz_callVi (as := [.int a1]) (rest := []) hO (c_X3_isGuest l w hN a1 hq3) hz_cal_X3_isGuest hz_K_4 hz_sh_1 (hz_lt_1 hN) tw_4_57 (Nat.le_of_ble_eq_true rfl) rfl rfl (Nat.le_of_ble_eq_true rfl) dX10_letter_5 ?_
  obtain ⟨r4, M5, hq6, h⟩ := hz_ct_e h
  refine hz_callSv (as := [.int r1]) (rest := []) hO (c_X10_need l w hN r1 hq6) hz_cal_X10_need tw_4_61 (Nat.le_of_ble_eq_true rfl) rfl rfl (Nat.le_of_ble_eq_true rfl) dX10_letter_8 ?_
  refine hz_aload_n hO dX10_letter_11 rfl 0 rfl ?_
  refine hz_getR (k := 0) hO 1 hz_K_10 hz_sh_0 (hz_lt_0 hN) rfl (Nat.le_of_ble_eq_true rfl) tw_3_28 rfl dX10_letter_12 ?_
  refine hz_iload_n hO dX10_letter_15 rfl 1 rfl ?_
  refine hz_iload_n hO dX10_letter_16 rfl 2 rfl ?_
  obtain ⟨r7, M8, hq9, h⟩ := hz_ct_e h
  refine hz_callVi (as := [.int a1, .int a2]) (rest := []) hO (c_X3_letterOf l w hN a1 a2 hq9) hz_cal_X3_letterOf hz_K_4 hz_sh_1 (hz_lt_1 hN) tw_4_181 (Nat.le_of_ble_eq_true rfl) rfl rfl (Nat.le_of_ble_eq_true rfl) dX10_letter_17 ?_
  exact hz_nameM (hz_some_e h).2.symm (hz_name (hz_some_e h).1.symm (hz_iret hO dX10_letter_20))
def f_X10_why (a1 : Int32) (a2 : Int32) (a3 : Int32) (M : hz_M) : hz_O :=
  hz_ct (f_X3_isGuest a1 M) fun r1 M2 =>
  hz_ct (f_X10_need r1 M2) fun r4 M5 =>
  hz_ct (f_X9_isDeed a2 M5) fun r7 M8 =>
  hz_ct (f_X10_need r7 M8) fun r10 M11 =>
  hz_jn (fun (v1_13 : Int32) (v2_14 : Int32) (v3_15 : Int32) (q16 : Int32) (M17 : hz_M) =>
    hz_ct (f_X10_need q16 M17) fun r18 M19 =>
    if v3_15 = 0 then
      hz_ct (f_X9_reason v1_13 v2_14 M19) fun r25 M26 =>
      some (r25, M26)
    else
      hz_ct (f_X9_cause v1_13 v2_14 M19) fun r22 M23 =>
      some (r22, M23)
    ) fun k28 =>
  hz_jn (fun (v1_29 : Int32) (v2_30 : Int32) (v3_31 : Int32) (M32 : hz_M) =>
    k28 v1_29 v2_30 v3_31 (1 : Int32) M32
    ) fun k33 =>
  if a3 = 0 then
    k33 a1 a2 a3 M11
  else
    if a3 = (1 : Int32) then
      k33 a1 a2 a3 M11
    else
      k28 a1 a2 a3 (0 : Int32) M11
set_option maxRecDepth 100000 in
set_option maxHeartbeats 4000000 in
theorem c_X10_why (l : Launch) (w : hz_C) {N : Nat} (hN : 178 ≤ N) (a1 : Int32) (a2 : Int32) (a3 : Int32) {M : hz_M} {rE : Int32} {ME : hz_M} (h : f_X10_why a1 a2 a3 M = some (rE, ME)) : hz_Ct l yX10_why cX10_why 4 (some .int) 4 w N [.ref (hz_ad w 0), .int a1, .int a2, .int a3] M (hz_Qi w N rE ME) := by
  refine hz_ofW (by decide) rfl (Nat.le_of_ble_eq_true rfl) tw_4_56 ?_
  intro p e s m args below meth c hO
  show hz_G p l e 4 hz_z0 s m args below meth c w N 4 _ M 0 [(0, .ref (hz_ad w 0)), (1, .int a1), (2, .int a2), (3, .int a3)] []
  unfold f_X10_why at h
  refine hz_aload_n hO dX10_why_0 rfl 0 rfl ?_
  refine hz_getR (k := 0) hO 1 hz_K_10 hz_sh_0 (hz_lt_0 hN) rfl (Nat.le_of_ble_eq_true rfl) tw_3_28 rfl dX10_why_1 ?_
  refine hz_iload_n hO dX10_why_4 rfl 1 rfl ?_
  obtain ⟨r1, M2, hq3, h⟩ := hz_ct_e h
  refine hz_callVi (as := [.int a1]) (rest := []) hO (c_X3_isGuest l w hN a1 hq3) hz_cal_X3_isGuest hz_K_4 hz_sh_1 (hz_lt_1 hN) tw_4_57 (Nat.le_of_ble_eq_true rfl) rfl rfl (Nat.le_of_ble_eq_true rfl) dX10_why_5 ?_
  obtain ⟨r4, M5, hq6, h⟩ := hz_ct_e h
  refine hz_callSv (as := [.int r1]) (rest := []) hO (c_X10_need l w hN r1 hq6) hz_cal_X10_need tw_4_61 (Nat.le_of_ble_eq_true rfl) rfl rfl (Nat.le_of_ble_eq_true rfl) dX10_why_8 ?_
  refine hz_aload_n hO dX10_why_11 rfl 0 rfl ?_
  refine hz_getR (k := 4) hO 25 hz_K_10 hz_sh_0 (hz_lt_0 hN) rfl (Nat.le_of_ble_eq_true rfl) tw_3_32 rfl dX10_why_12 ?_
  refine hz_iload_n hO dX10_why_15 rfl 2 rfl ?_
  obtain ⟨r7, M8, hq9, h⟩ := hz_ct_e h
  refine hz_callVi (as := [.int a2]) (rest := []) hO (c_X9_isDeed l w hN a2 hq9) hz_cal_X9_isDeed hz_K_9 hz_sh_25 (hz_lt_25 hN) tw_4_65 (Nat.le_of_ble_eq_true rfl) rfl rfl (Nat.le_of_ble_eq_true rfl) dX10_why_16 ?_
  obtain ⟨r10, M11, hq12, h⟩ := hz_ct_e h
  refine hz_callSv (as := [.int r7]) (rest := []) hO (c_X10_need l w hN r7 hq12) hz_cal_X10_need tw_4_61 (Nat.le_of_ble_eq_true rfl) rfl rfl (Nat.le_of_ble_eq_true rfl) dX10_why_19 ?_
  refine hz_iload_n hO dX10_why_22 rfl 3 rfl ?_
  obtain ⟨k28, hk28, h⟩ := hz_jn_e h
  have gk28 : ∀ (v1_13 : Int32) (v2_14 : Int32) (v3_15 : Int32) (q16 : Int32) (M17 : hz_M), k28 v1_13 v2_14 v3_15 q16 M17 = some (rE, ME) → hz_G p l e 4 hz_z0 s m args below meth c w N 4 (MQ below (hz_Qi w N rE ME) args s 0 0 (hz_A w)) M17 36 [(0, .ref (hz_ad w 0)), (1, .int v1_13), (2, .int v2_14), (3, .int v3_15)] [.int q16] := by
    intro v1_13 v2_14 v3_15 q16 M17 h
    rw [hk28] at h
    dsimp only at h
    obtain ⟨r18, M19, hq20, h⟩ := hz_ct_e h
    refine hz_callSv (as := [.int q16]) (rest := []) hO (c_X10_need l w hN q16 hq20) hz_cal_X10_need tw_4_61 (Nat.le_of_ble_eq_true rfl) rfl rfl (Nat.le_of_ble_eq_true rfl) dX10_why_36 ?_
    refine hz_iload_n hO dX10_why_39 rfl 3 rfl ?_
    refine hz_if_ne (tgt := 55) hO dX10_why_40 (by decide) (fun hc21 => ?_) (fun hc21 => ?_)
    · rw [if_neg hc21] at h
      refine hz_aload_n hO dX10_why_55 rfl 0 rfl ?_
      refine hz_getR (k := 4) hO 25 hz_K_10 hz_sh_0 (hz_lt_0 hN) rfl (Nat.le_of_ble_eq_true rfl) tw_3_32 rfl dX10_why_56 ?_
      refine hz_iload_n hO dX10_why_59 rfl 1 rfl ?_
      refine hz_iload_n hO dX10_why_60 rfl 2 rfl ?_
      obtain ⟨r22, M23, hq24, h⟩ := hz_ct_e h
      refine hz_callVi (as := [.int v1_13, .int v2_14]) (rest := []) hO (c_X9_cause l w hN v1_13 v2_14 hq24) hz_cal_X9_cause hz_K_9 hz_sh_25 (hz_lt_25 hN) tw_4_113 (Nat.le_of_ble_eq_true rfl) rfl rfl (Nat.le_of_ble_eq_true rfl) dX10_why_61 ?_
      exact hz_nameM (hz_some_e h).2.symm (hz_name (hz_some_e h).1.symm (hz_iret hO dX10_why_64))
    · rw [if_pos hc21] at h
      refine hz_aload_n hO dX10_why_43 rfl 0 rfl ?_
      refine hz_getR (k := 4) hO 25 hz_K_10 hz_sh_0 (hz_lt_0 hN) rfl (Nat.le_of_ble_eq_true rfl) tw_3_32 rfl dX10_why_44 ?_
      refine hz_iload_n hO dX10_why_47 rfl 1 rfl ?_
      refine hz_iload_n hO dX10_why_48 rfl 2 rfl ?_
      obtain ⟨r25, M26, hq27, h⟩ := hz_ct_e h
      refine hz_callVi (as := [.int v1_13, .int v2_14]) (rest := []) hO (c_X9_reason l w hN v1_13 v2_14 hq27) hz_cal_X9_reason hz_K_9 hz_sh_25 (hz_lt_25 hN) tw_4_77 (Nat.le_of_ble_eq_true rfl) rfl rfl (Nat.le_of_ble_eq_true rfl) dX10_why_49 ?_
      refine hz_goto (tgt := 64) hO dX10_why_52 (by decide) ?_
      exact hz_nameM (hz_some_e h).2.symm (hz_name (hz_some_e h).1.symm (hz_iret hO dX10_why_64))
  clear hk28
  obtain ⟨k33, hk33, h⟩ := hz_jn_e h
  have gk33 : ∀ (v1_29 : Int32) (v2_30 : Int32) (v3_31 : Int32) (M32 : hz_M), k33 v1_29 v2_30 v3_31 M32 = some (rE, ME) → hz_G p l e 4 hz_z0 s m args below meth c w N 4 (MQ below (hz_Qi w N rE ME) args s 0 0 (hz_A w)) M32 31 [(0, .ref (hz_ad w 0)), (1, .int v1_29), (2, .int v2_30), (3, .int v3_31)] [] := by
    intro v1_29 v2_30 v3_31 M32 h
    rw [hk33] at h
    dsimp only at h
    refine hz_iconst (v := (1 : Int32)) hO dX10_why_31 (by decide) ?_
    refine hz_goto (tgt := 36) hO dX10_why_32 (by decide) ?_
    exact hz_ls [0, 1, 2, 3] rfl (gk28 v1_29 v2_30 v3_31 (1 : Int32) M32 h)
  clear hk33
  refine hz_if_eq (tgt := 31) hO dX10_why_23 (by decide) (fun hc34 => ?_) (fun hc34 => ?_)
  · rw [if_pos hc34] at h
    exact hz_ls [0, 1, 2, 3] rfl (gk33 a1 a2 a3 M11 h)
  · rw [if_neg hc34] at h
    refine hz_iload_n hO dX10_why_26 rfl 3 rfl ?_
    refine hz_iconst (v := (1 : Int32)) hO dX10_why_27 (by decide) ?_
    refine hz_icmp_ne (tgt := 35) hO dX10_why_28 (by decide) (fun hc35 => ?_) (fun hc35 => ?_)
    · rw [if_neg hc35] at h
      refine hz_iconst (v := (0 : Int32)) hO dX10_why_35 (by decide) ?_
      exact hz_ls [0, 1, 2, 3] rfl (gk28 a1 a2 a3 (0 : Int32) M11 h)
    · rw [if_pos hc35] at h
      exact hz_ls [0, 1, 2, 3] rfl (gk33 a1 a2 a3 M11 h)
def f_X10_highest_L19 : Nat → Int32 → Int32 → hz_M → hz_O
  | 0, _, _, _ => none
  | n + 1, v1_8, v2_9, M10 =>
    if v2_9 < (1 : Int32) then
      some ((0 : Int32), M10)
    else
      hz_ct (f_X9_reason v1_8 ((10 : Int32) + v2_9) M10) fun r12 M13 =>
      if r12 = 0 then
        some (v2_9, M13)
      else
        hz_lt (v2_9 + (-1 : Int32)) fun x16 =>
        f_X10_highest_L19 n v1_8 x16 M13
def f_X10_highest (a1 : Int32) (M : hz_M) : hz_O :=
  hz_ct (f_X3_isGuest a1 M) fun r1 M2 =>
  hz_ct (f_X10_need r1 M2) fun r4 M5 =>
  hz_lt ((M5 1 8)) fun x7 =>
  f_X10_highest_L19 hz_FU a1 x7 M5
set_option maxRecDepth 100000 in
set_option maxHeartbeats 4000000 in
theorem g_X10_highest_L19 {p : Program} {l : Launch} {e : Env} {s : State} {m : MethodId} {args : Array Value} {below : List Frame} {meth : Method} {c : Code} {w : hz_C} {N : Nat} (hN : 178 ≤ N) {rE : Int32} {ME : hz_M} (hO : hz_Ok p s m args meth c w cX10_highest 3 RX10 (some .int)) : ∀ (n : Nat) (v1_8 : Int32) (v2_9 : Int32) (M10 : hz_M), f_X10_highest_L19 n v1_8 v2_9 M10 = some (rE, ME) → hz_G p l e 3 hz_z0 s m args below meth c w N 3 (MQ below (hz_Qi w N rE ME) args s 0 0 (hz_A w)) M10 19 [(0, .ref (hz_ad w 0)), (1, .int v1_8), (2, .int v2_9)] [] := by
  intro n
  induction n with
  | zero =>
    intro v1_8 v2_9 M10 h
    rw [f_X10_highest_L19] at h
    cases h
  | succ n ih =>
    intro v1_8 v2_9 M10 h
    rw [f_X10_highest_L19] at h
    refine hz_iload_n hO dX10_highest_19 rfl 2 rfl ?_
    refine hz_iconst (v := (1 : Int32)) hO dX10_highest_20 (by decide) ?_
    refine hz_icmp_lt (tgt := 47) hO dX10_highest_21 (by decide) (fun hc11 => ?_) (fun hc11 => ?_)
    · rw [if_pos hc11] at h
      refine hz_iconst (v := (0 : Int32)) hO dX10_highest_47 (by decide) ?_
      exact hz_nameM (hz_some_e h).2.symm (hz_name (hz_some_e h).1.symm (hz_iret hO dX10_highest_48))
    · rw [if_neg hc11] at h
      refine hz_aload_n hO dX10_highest_24 rfl 0 rfl ?_
      refine hz_getR (k := 4) hO 25 hz_K_10 hz_sh_0 (hz_lt_0 hN) rfl (Nat.le_of_ble_eq_true rfl) tw_3_32 rfl dX10_highest_25 ?_
      refine hz_iload_n hO dX10_highest_28 rfl 1 rfl ?_
      refine hz_bipush (v := (10 : Int32)) hO dX10_highest_29 (by decide) ?_
      refine hz_iload_n hO dX10_highest_31 rfl 2 rfl ?_
      refine hz_iadd hO dX10_highest_32 ?_
      obtain ⟨r12, M13, hq14, h⟩ := hz_ct_e h
      refine hz_callVi (as := [.int v1_8, .int ((10 : Int32) + v2_9)]) (rest := []) hO (c_X9_reason l w hN v1_8 ((10 : Int32) + v2_9) hq14) hz_cal_X9_reason hz_K_9 hz_sh_25 (hz_lt_25 hN) tw_4_77 (Nat.le_of_ble_eq_true rfl) rfl rfl (Nat.le_of_ble_eq_true rfl) dX10_highest_33 ?_
      refine hz_if_ne (tgt := 41) hO dX10_highest_36 (by decide) (fun hc15 => ?_) (fun hc15 => ?_)
      · rw [if_neg hc15] at h
        obtain ⟨x16, h_x16, h⟩ := hz_lt_e h
        refine hz_iinc (k := 2) (v := x16) (ls1 := [(2, .int x16), (0, .ref (hz_ad w 0)), (1, .int v1_8)]) hO dX10_highest_41 rfl (by rw [h_x16]; rfl) (Nat.le_of_ble_eq_true rfl) rfl ?_
        refine hz_goto (tgt := 19) hO dX10_highest_44 (by decide) ?_
        exact hz_ls [1, 2, 0] rfl (ih v1_8 x16 M13 h)
      · rw [if_pos hc15] at h
        refine hz_iload_n hO dX10_highest_39 rfl 2 rfl ?_
        exact hz_nameM (hz_some_e h).2.symm (hz_name (hz_some_e h).1.symm (hz_iret hO dX10_highest_40))
set_option maxRecDepth 100000 in
set_option maxHeartbeats 4000000 in
theorem c_X10_highest (l : Launch) (w : hz_C) {N : Nat} (hN : 178 ≤ N) (a1 : Int32) {M : hz_M} {rE : Int32} {ME : hz_M} (h : f_X10_highest a1 M = some (rE, ME)) : hz_Ct l yX10_highest cX10_highest 3 (some .int) 3 w N [.ref (hz_ad w 0), .int a1] M (hz_Qi w N rE ME) := by
  refine hz_ofW (by decide) rfl (Nat.le_of_ble_eq_true rfl) tw_4_172 ?_
  intro p e s m args below meth c hO
  show hz_G p l e 3 hz_z0 s m args below meth c w N 3 _ M 0 [(0, .ref (hz_ad w 0)), (1, .int a1)] []
  unfold f_X10_highest at h
  refine hz_aload_n hO dX10_highest_0 rfl 0 rfl ?_
  refine hz_getR (k := 0) hO 1 hz_K_10 hz_sh_0 (hz_lt_0 hN) rfl (Nat.le_of_ble_eq_true rfl) tw_3_28 rfl dX10_highest_1 ?_
  refine hz_iload_n hO dX10_highest_4 rfl 1 rfl ?_
  obtain ⟨r1, M2, hq3, h⟩ := hz_ct_e h
  refine hz_callVi (as := [.int a1]) (rest := []) hO (c_X3_isGuest l w hN a1 hq3) hz_cal_X3_isGuest hz_K_4 hz_sh_1 (hz_lt_1 hN) tw_4_57 (Nat.le_of_ble_eq_true rfl) rfl rfl (Nat.le_of_ble_eq_true rfl) dX10_highest_5 ?_
  obtain ⟨r4, M5, hq6, h⟩ := hz_ct_e h
  refine hz_callSv (as := [.int r1]) (rest := []) hO (c_X10_need l w hN r1 hq6) hz_cal_X10_need tw_4_61 (Nat.le_of_ble_eq_true rfl) rfl rfl (Nat.le_of_ble_eq_true rfl) dX10_highest_8 ?_
  refine hz_aload_n hO dX10_highest_11 rfl 0 rfl ?_
  refine hz_getR (k := 0) hO 1 hz_K_10 hz_sh_0 (hz_lt_0 hN) rfl (Nat.le_of_ble_eq_true rfl) tw_3_28 rfl dX10_highest_12 ?_
  refine hz_getI (k := 8) hO hz_K_4 hz_sh_1 (hz_lt_1 hN) rfl (Nat.le_of_ble_eq_true rfl) tw_1_69 rfl dX10_highest_15 ?_
  obtain ⟨x7, h_x7, h⟩ := hz_lt_e h
  refine hz_name h_x7 ?_
  refine hz_istore_n (ls1 := [(2, .int x7), (0, .ref (hz_ad w 0)), (1, .int a1)]) hO dX10_highest_18 rfl (Nat.le_of_ble_eq_true rfl) rfl ?_
  exact hz_ls [1, 2, 0] rfl (g_X10_highest_L19 hN hO _ a1 x7 M5 h)
def f_X10_account (a1 : Int32) (M : hz_M) : hz_O :=
  hz_jn (fun (v1_1 : Int32) (q2 : Int32) (M3 : hz_M) =>
    hz_ct (f_X10_need q2 M3) fun r4 M5 =>
    if (9 : Int32) ≤ v1_1 then
      some ((M5 26 3), M5)
    else
      hz_gd (hz_in v1_1 9) <|
      some ((M5 24 (Int32.toNatClampNeg v1_1)), M5)
    ) fun k9 =>
  hz_jn (fun (v1_10 : Int32) (M11 : hz_M) =>
    k9 v1_10 (0 : Int32) M11
    ) fun k12 =>
  if a1 < 0 then
    k12 a1 M
  else
    if (9 : Int32) < a1 then
      k12 a1 M
    else
      k9 a1 (1 : Int32) M
set_option maxRecDepth 100000 in
set_option maxHeartbeats 4000000 in
theorem c_X10_account (l : Launch) (w : hz_C) {N : Nat} (hN : 178 ≤ N) (a1 : Int32) {M : hz_M} {rE : Int32} {ME : hz_M} (h : f_X10_account a1 M = some (rE, ME)) : hz_Ct l yX10_account cX10_account 2 (some .int) 1 w N [.ref (hz_ad w 0), .int a1] M (hz_Qi w N rE ME) := by
  refine hz_ofW (by decide) rfl (Nat.le_of_ble_eq_true rfl) tw_5_20 ?_
  intro p e s m args below meth c hO
  show hz_G p l e 1 hz_z0 s m args below meth c w N 2 _ M 0 [(0, .ref (hz_ad w 0)), (1, .int a1)] []
  unfold f_X10_account at h
  refine hz_iload_n hO dX10_account_0 rfl 1 rfl ?_
  obtain ⟨k9, hk9, h⟩ := hz_jn_e h
  have gk9 : ∀ (v1_1 : Int32) (q2 : Int32) (M3 : hz_M), k9 v1_1 q2 M3 = some (rE, ME) → hz_G p l e 1 hz_z0 s m args below meth c w N 2 (MQ below (hz_Qi w N rE ME) args s 0 0 (hz_A w)) M3 15 [(0, .ref (hz_ad w 0)), (1, .int v1_1)] [.int q2] := by
    intro v1_1 q2 M3 h
    rw [hk9] at h
    dsimp only at h
    obtain ⟨r4, M5, hq6, h⟩ := hz_ct_e h
    refine hz_callSv (as := [.int q2]) (rest := []) hO (c_X10_need l w hN q2 hq6) hz_cal_X10_need tw_4_61 (Nat.le_of_ble_eq_true rfl) rfl rfl (Nat.le_of_ble_eq_true rfl) dX10_account_15 ?_
    refine hz_iload_n hO dX10_account_18 rfl 1 rfl ?_
    refine hz_bipush (v := (9 : Int32)) hO dX10_account_19 (by decide) ?_
    refine hz_icmp_ge (tgt := 36) hO dX10_account_21 (by decide) (fun hc7 => ?_) (fun hc7 => ?_)
    · rw [if_pos hc7] at h
      refine hz_aload_n hO dX10_account_36 rfl 0 rfl ?_
      refine hz_getR (k := 5) hO 26 hz_K_10 hz_sh_0 (hz_lt_0 hN) rfl (Nat.le_of_ble_eq_true rfl) tw_3_33 rfl dX10_account_37 ?_
      refine hz_getI (k := 3) hO hz_K_2 hz_sh_26 (hz_lt_26 hN) rfl (Nat.le_of_ble_eq_true rfl) tw_2_25 rfl dX10_account_40 ?_
      exact hz_nameM (hz_some_e h).2.symm (hz_name (hz_some_e h).1.symm (hz_iret hO dX10_account_43))
    · rw [if_neg hc7] at h
      refine hz_aload_n hO dX10_account_24 rfl 0 rfl ?_
      refine hz_getR (k := 3) hO 11 hz_K_10 hz_sh_0 (hz_lt_0 hN) rfl (Nat.le_of_ble_eq_true rfl) tw_3_31 rfl dX10_account_25 ?_
      refine hz_getR (k := 13) hO 24 hz_K_7 hz_sh_11 (hz_lt_11 hN) rfl (Nat.le_of_ble_eq_true rfl) tw_1_188 rfl dX10_account_28 ?_
      refine hz_iload_n hO dX10_account_31 rfl 1 rfl ?_
      obtain ⟨hg8, h⟩ := hz_gd_e h
      refine hz_iald hO hz_sh_24 (hz_lt_24 hN) hg8 dX10_account_32 ?_
      refine hz_goto (tgt := 43) hO dX10_account_33 (by decide) ?_
      exact hz_nameM (hz_some_e h).2.symm (hz_name (hz_some_e h).1.symm (hz_iret hO dX10_account_43))
  clear hk9
  obtain ⟨k12, hk12, h⟩ := hz_jn_e h
  have gk12 : ∀ (v1_10 : Int32) (M11 : hz_M), k12 v1_10 M11 = some (rE, ME) → hz_G p l e 1 hz_z0 s m args below meth c w N 2 (MQ below (hz_Qi w N rE ME) args s 0 0 (hz_A w)) M11 14 [(0, .ref (hz_ad w 0)), (1, .int v1_10)] [] := by
    intro v1_10 M11 h
    rw [hk12] at h
    dsimp only at h
    refine hz_iconst (v := (0 : Int32)) hO dX10_account_14 (by decide) ?_
    exact hz_ls [0, 1] rfl (gk9 v1_10 (0 : Int32) M11 h)
  clear hk12
  refine hz_if_lt (tgt := 14) hO dX10_account_1 (by decide) (fun hc13 => ?_) (fun hc13 => ?_)
  · rw [if_pos hc13] at h
    exact hz_ls [0, 1] rfl (gk12 a1 M h)
  · rw [if_neg hc13] at h
    refine hz_iload_n hO dX10_account_4 rfl 1 rfl ?_
    refine hz_bipush (v := (9 : Int32)) hO dX10_account_5 (by decide) ?_
    refine hz_icmp_gt (tgt := 14) hO dX10_account_7 (by decide) (fun hc14 => ?_) (fun hc14 => ?_)
    · rw [if_pos hc14] at h
      exact hz_ls [0, 1] rfl (gk12 a1 M h)
    · rw [if_neg hc14] at h
      refine hz_iconst (v := (1 : Int32)) hO dX10_account_10 (by decide) ?_
      refine hz_goto (tgt := 15) hO dX10_account_11 (by decide) ?_
      exact hz_ls [0, 1] rfl (gk9 a1 (1 : Int32) M h)
def f_X10_heatBits (M : hz_M) : hz_O :=
  hz_gd (hz_n32 (FP.fdiv (FP.i2f (M 11 15)) (1120403456 : UInt32))) <|
  hz_ct (f_X10_bitsOf (FP.fdiv (FP.i2f (M 11 15)) (1120403456 : UInt32)) M) fun r2 M3 =>
  some (r2, M3)
set_option maxRecDepth 100000 in
set_option maxHeartbeats 4000000 in
theorem c_X10_heatBits (l : Launch) (w : hz_C) {N : Nat} (hN : 178 ≤ N) {M : hz_M} {rE : Int32} {ME : hz_M} (h : f_X10_heatBits M = some (rE, ME)) : hz_Ct l yX10_heatBits cX10_heatBits 1 (some .int) 1 w N [.ref (hz_ad w 0)] M (hz_Qi w N rE ME) := by
  refine hz_ofW (by decide) rfl (Nat.le_of_ble_eq_true rfl) tw_5_63 ?_
  intro p e s m args below meth c hO
  show hz_G p l e 1 hz_z0 s m args below meth c w N 1 _ M 0 [(0, .ref (hz_ad w 0))] []
  unfold f_X10_heatBits at h
  refine hz_aload_n hO dX10_heatBits_0 rfl 0 rfl ?_
  refine hz_getR (k := 3) hO 11 hz_K_10 hz_sh_0 (hz_lt_0 hN) rfl (Nat.le_of_ble_eq_true rfl) tw_3_31 rfl dX10_heatBits_1 ?_
  refine hz_getI (k := 15) hO hz_K_7 hz_sh_11 (hz_lt_11 hN) rfl (Nat.le_of_ble_eq_true rfl) tw_1_193 rfl dX10_heatBits_4 ?_
  refine hz_i2f hO dX10_heatBits_7 ?_
  refine hz_ldcwF hO tw_5_64 dX10_heatBits_8 ?_
  obtain ⟨hg1, h⟩ := hz_gd_e h
  refine hz_fdiv hO dX10_heatBits_11 hg1 ?_
  obtain ⟨r2, M3, hq4, h⟩ := hz_ct_e h
  refine hz_callSi (as := [.float (FP.fdiv (FP.i2f (M 11 15)) (1120403456 : UInt32))]) (rest := []) hO (c_X10_bitsOf l w hN (FP.fdiv (FP.i2f (M 11 15)) (1120403456 : UInt32)) hq4) hz_cal_X10_bitsOf tw_5_65 (Nat.le_of_ble_eq_true rfl) rfl rfl (Nat.le_of_ble_eq_true rfl) dX10_heatBits_12 ?_
  exact hz_nameM (hz_some_e h).2.symm (hz_name (hz_some_e h).1.symm (hz_iret hO dX10_heatBits_15))
def f_X10_heatIn_L29 : Nat → Int32 → Int32 → Int32 → hz_M → hz_O
  | 0, _, _, _, _ => none
  | n + 1, v1_8, v2_9, v3_10, M11 =>
    if v1_8 ≤ v3_10 then
      some (v2_9, M11)
    else
      hz_ct (f_X7_steam M11) fun r13 M14 =>
      hz_ct (f_X7_heatBehind v2_9 r13 M14) fun r16 M17 =>
      hz_lt (v3_10 + (1 : Int32)) fun x19 =>
      f_X10_heatIn_L29 n v1_8 r16 x19 M17
def f_X10_heatIn (a1 : Int32) (M : hz_M) : hz_O :=
  hz_jn (fun (v1_1 : Int32) (q2 : Int32) (M3 : hz_M) =>
    hz_ct (f_X10_need q2 M3) fun r4 M5 =>
    hz_lt ((M5 11 15)) fun x7 =>
    f_X10_heatIn_L29 hz_FU v1_1 x7 (0 : Int32) M5
    ) fun k20 =>
  hz_jn (fun (v1_21 : Int32) (M22 : hz_M) =>
    k20 v1_21 (0 : Int32) M22
    ) fun k23 =>
  if a1 < 0 then
    k23 a1 M
  else
    if (200 : Int32) < a1 then
      k23 a1 M
    else
      k20 a1 (1 : Int32) M
set_option maxRecDepth 100000 in
set_option maxHeartbeats 4000000 in
theorem g_X10_heatIn_L29 {p : Program} {l : Launch} {e : Env} {s : State} {m : MethodId} {args : Array Value} {below : List Frame} {meth : Method} {c : Code} {w : hz_C} {N : Nat} (hN : 178 ≤ N) {rE : Int32} {ME : hz_M} (hO : hz_Ok p s m args meth c w cX10_heatIn 4 RX10 (some .int)) : ∀ (n : Nat) (v1_8 : Int32) (v2_9 : Int32) (v3_10 : Int32) (M11 : hz_M), f_X10_heatIn_L29 n v1_8 v2_9 v3_10 M11 = some (rE, ME) → hz_G p l e 2 hz_z0 s m args below meth c w N 4 (MQ below (hz_Qi w N rE ME) args s 0 0 (hz_A w)) M11 29 [(0, .ref (hz_ad w 0)), (1, .int v1_8), (2, .int v2_9), (3, .int v3_10)] [] := by
  intro n
  induction n with
  | zero =>
    intro v1_8 v2_9 v3_10 M11 h
    rw [f_X10_heatIn_L29] at h
    cases h
  | succ n ih =>
    intro v1_8 v2_9 v3_10 M11 h
    rw [f_X10_heatIn_L29] at h
    refine hz_iload_n hO dX10_heatIn_29 rfl 3 rfl ?_
    refine hz_iload_n hO dX10_heatIn_30 rfl 1 rfl ?_
    refine hz_icmp_ge (tgt := 52) hO dX10_heatIn_31 (by decide) (fun hc12 => ?_) (fun hc12 => ?_)
    · rw [if_pos hc12] at h
      refine hz_iload_n hO dX10_heatIn_52 rfl 2 rfl ?_
      exact hz_nameM (hz_some_e h).2.symm (hz_name (hz_some_e h).1.symm (hz_iret hO dX10_heatIn_53))
    · rw [if_neg hc12] at h
      refine hz_iload_n hO dX10_heatIn_34 rfl 2 rfl ?_
      refine hz_aload_n hO dX10_heatIn_35 rfl 0 rfl ?_
      refine hz_getR (k := 3) hO 11 hz_K_10 hz_sh_0 (hz_lt_0 hN) rfl (Nat.le_of_ble_eq_true rfl) tw_3_31 rfl dX10_heatIn_36 ?_
      obtain ⟨r13, M14, hq15, h⟩ := hz_ct_e h
      refine hz_callVi (as := []) (rest := [.int v2_9]) hO (c_X7_steam l w hN hq15) hz_cal_X7_steam hz_K_7 hz_sh_11 (hz_lt_11 hN) tw_5_87 (Nat.le_of_ble_eq_true rfl) rfl rfl (Nat.le_of_ble_eq_true rfl) dX10_heatIn_39 ?_
      obtain ⟨r16, M17, hq18, h⟩ := hz_ct_e h
      refine hz_callSi (as := [.int v2_9, .int r13]) (rest := []) hO (c_X7_heatBehind l w hN v2_9 r13 hq18) hz_cal_X7_heatBehind tw_5_91 (Nat.le_of_ble_eq_true rfl) rfl rfl (Nat.le_of_ble_eq_true rfl) dX10_heatIn_42 ?_
      refine hz_istore_n (ls1 := [(2, .int r16), (0, .ref (hz_ad w 0)), (1, .int v1_8), (3, .int v3_10)]) hO dX10_heatIn_45 rfl (Nat.le_of_ble_eq_true rfl) rfl ?_
      obtain ⟨x19, h_x19, h⟩ := hz_lt_e h
      refine hz_iinc (k := 3) (v := x19) (ls1 := [(3, .int x19), (2, .int r16), (0, .ref (hz_ad w 0)), (1, .int v1_8)]) hO dX10_heatIn_46 rfl (by rw [h_x19]; rfl) (Nat.le_of_ble_eq_true rfl) rfl ?_
      refine hz_goto (tgt := 29) hO dX10_heatIn_49 (by decide) ?_
      exact hz_ls [2, 3, 1, 0] rfl (ih v1_8 r16 x19 M17 h)
set_option maxRecDepth 100000 in
set_option maxHeartbeats 4000000 in
theorem c_X10_heatIn (l : Launch) (w : hz_C) {N : Nat} (hN : 178 ≤ N) (a1 : Int32) {M : hz_M} {rE : Int32} {ME : hz_M} (h : f_X10_heatIn a1 M = some (rE, ME)) : hz_Ct l yX10_heatIn cX10_heatIn 4 (some .int) 2 w N [.ref (hz_ad w 0), .int a1] M (hz_Qi w N rE ME) := by
  refine hz_ofW (by decide) rfl (Nat.le_of_ble_eq_true rfl) tw_5_86 ?_
  intro p e s m args below meth c hO
  show hz_G p l e 2 hz_z0 s m args below meth c w N 4 _ M 0 [(0, .ref (hz_ad w 0)), (1, .int a1)] []
  unfold f_X10_heatIn at h
  refine hz_iload_n hO dX10_heatIn_0 rfl 1 rfl ?_
  obtain ⟨k20, hk20, h⟩ := hz_jn_e h
  have gk20 : ∀ (v1_1 : Int32) (q2 : Int32) (M3 : hz_M), k20 v1_1 q2 M3 = some (rE, ME) → hz_G p l e 2 hz_z0 s m args below meth c w N 4 (MQ below (hz_Qi w N rE ME) args s 0 0 (hz_A w)) M3 16 [(0, .ref (hz_ad w 0)), (1, .int v1_1)] [.int q2] := by
    intro v1_1 q2 M3 h
    rw [hk20] at h
    dsimp only at h
    obtain ⟨r4, M5, hq6, h⟩ := hz_ct_e h
    refine hz_callSv (as := [.int q2]) (rest := []) hO (c_X10_need l w hN q2 hq6) hz_cal_X10_need tw_4_61 (Nat.le_of_ble_eq_true rfl) rfl rfl (Nat.le_of_ble_eq_true rfl) dX10_heatIn_16 ?_
    refine hz_aload_n hO dX10_heatIn_19 rfl 0 rfl ?_
    refine hz_getR (k := 3) hO 11 hz_K_10 hz_sh_0 (hz_lt_0 hN) rfl (Nat.le_of_ble_eq_true rfl) tw_3_31 rfl dX10_heatIn_20 ?_
    refine hz_getI (k := 15) hO hz_K_7 hz_sh_11 (hz_lt_11 hN) rfl (Nat.le_of_ble_eq_true rfl) tw_1_193 rfl dX10_heatIn_23 ?_
    obtain ⟨x7, h_x7, h⟩ := hz_lt_e h
    refine hz_name h_x7 ?_
    refine hz_istore_n (ls1 := [(2, .int x7), (0, .ref (hz_ad w 0)), (1, .int v1_1)]) hO dX10_heatIn_26 rfl (Nat.le_of_ble_eq_true rfl) rfl ?_
    refine hz_iconst (v := (0 : Int32)) hO dX10_heatIn_27 (by decide) ?_
    refine hz_istore_n (ls1 := [(3, .int (0 : Int32)), (2, .int x7), (0, .ref (hz_ad w 0)), (1, .int v1_1)]) hO dX10_heatIn_28 rfl (Nat.le_of_ble_eq_true rfl) rfl ?_
    exact hz_ls [2, 3, 1, 0] rfl (g_X10_heatIn_L29 hN hO _ v1_1 x7 (0 : Int32) M5 h)
  clear hk20
  obtain ⟨k23, hk23, h⟩ := hz_jn_e h
  have gk23 : ∀ (v1_21 : Int32) (M22 : hz_M), k23 v1_21 M22 = some (rE, ME) → hz_G p l e 2 hz_z0 s m args below meth c w N 4 (MQ below (hz_Qi w N rE ME) args s 0 0 (hz_A w)) M22 15 [(0, .ref (hz_ad w 0)), (1, .int v1_21)] [] := by
    intro v1_21 M22 h
    rw [hk23] at h
    dsimp only at h
    refine hz_iconst (v := (0 : Int32)) hO dX10_heatIn_15 (by decide) ?_
    exact hz_ls [0, 1] rfl (gk20 v1_21 (0 : Int32) M22 h)
  clear hk23
  refine hz_if_lt (tgt := 15) hO dX10_heatIn_1 (by decide) (fun hc24 => ?_) (fun hc24 => ?_)
  · rw [if_pos hc24] at h
    exact hz_ls [0, 1] rfl (gk23 a1 M h)
  · rw [if_neg hc24] at h
    refine hz_iload_n hO dX10_heatIn_4 rfl 1 rfl ?_
    refine hz_sipush (v := (200 : Int32)) hO dX10_heatIn_5 (by decide) ?_
    refine hz_icmp_gt (tgt := 15) hO dX10_heatIn_8 (by decide) (fun hc25 => ?_) (fun hc25 => ?_)
    · rw [if_pos hc25] at h
      exact hz_ls [0, 1] rfl (gk23 a1 M h)
    · rw [if_neg hc25] at h
      refine hz_iconst (v := (1 : Int32)) hO dX10_heatIn_11 (by decide) ?_
      refine hz_goto (tgt := 16) hO dX10_heatIn_12 (by decide) ?_
      exact hz_ls [0, 1] rfl (gk20 a1 (1 : Int32) M h)
def f_X10_downIn_L56 : Nat → Int32 → Int32 → Int32 → Int32 → Int32 → hz_M → hz_O
  | 0, _, _, _, _, _, _ => none
  | n + 1, v1_16, v2_17, v3_18, v4_19, v5_20, M21 =>
    if (200 : Int32) < v5_20 then
      some ((-1 : Int32), M21)
    else
      hz_ct (f_X7_steam M21) fun r23 M24 =>
      hz_ct (f_X7_heatBehind v3_18 r23 M24) fun r26 M27 =>
      hz_ct (f_X3_bears v1_16 M27) fun r29 M30 =>
      hz_ct (f_X7_strainBehind v4_19 ((r26 + ((6 : Int32) * v2_17)) - r29) M30) fun r32 M33 =>
      if r32 < (10 : Int32) then
        hz_lt (v5_20 + (1 : Int32)) fun x36 =>
        f_X10_downIn_L56 n v1_16 v2_17 r26 r32 x36 M33
      else
        some (v5_20, M33)
def f_X10_downIn (a1 : Int32) (M : hz_M) : hz_O :=
  hz_ct (f_X3_isGuest a1 M) fun r1 M2 =>
  hz_ct (f_X10_need r1 M2) fun r4 M5 =>
  hz_gd (hz_in a1 16) <|
  hz_lt ((M5 13 (Int32.toNatClampNeg a1))) fun x8 =>
  hz_ct (f_X3_isStep x8 M5) fun r9 M10 =>
  if r9 = 0 then
    some ((0 : Int32), M10)
  else
    hz_lt ((M10 11 15)) fun x13 =>
    hz_gd (hz_in a1 16) <|
    hz_lt ((M10 16 (Int32.toNatClampNeg a1))) fun x15 =>
    f_X10_downIn_L56 hz_FU a1 x8 x13 x15 (1 : Int32) M10
set_option maxRecDepth 100000 in
set_option maxHeartbeats 4000000 in
theorem g_X10_downIn_L56 {p : Program} {l : Launch} {e : Env} {s : State} {m : MethodId} {args : Array Value} {below : List Frame} {meth : Method} {c : Code} {w : hz_C} {N : Nat} (hN : 178 ≤ N) {rE : Int32} {ME : hz_M} (hO : hz_Ok p s m args meth c w cX10_downIn 6 RX10 (some .int)) : ∀ (n : Nat) (v1_16 : Int32) (v2_17 : Int32) (v3_18 : Int32) (v4_19 : Int32) (v5_20 : Int32) (M21 : hz_M), f_X10_downIn_L56 n v1_16 v2_17 v3_18 v4_19 v5_20 M21 = some (rE, ME) → hz_G p l e 2 hz_z0 s m args below meth c w N 6 (MQ below (hz_Qi w N rE ME) args s 0 0 (hz_A w)) M21 56 [(0, .ref (hz_ad w 0)), (1, .int v1_16), (2, .int v2_17), (3, .int v3_18), (4, .int v4_19), (5, .int v5_20)] [] := by
  intro n
  induction n with
  | zero =>
    intro v1_16 v2_17 v3_18 v4_19 v5_20 M21 h
    rw [f_X10_downIn_L56] at h
    cases h
  | succ n ih =>
    intro v1_16 v2_17 v3_18 v4_19 v5_20 M21 h
    rw [f_X10_downIn_L56] at h
    refine hz_iload hO dX10_downIn_56 5 rfl ?_
    refine hz_sipush (v := (200 : Int32)) hO dX10_downIn_58 (by decide) ?_
    refine hz_icmp_gt (tgt := 114) hO dX10_downIn_61 (by decide) (fun hc22 => ?_) (fun hc22 => ?_)
    · rw [if_pos hc22] at h
      refine hz_iconst (v := (-1 : Int32)) hO dX10_downIn_114 (by decide) ?_
      exact hz_nameM (hz_some_e h).2.symm (hz_name (hz_some_e h).1.symm (hz_iret hO dX10_downIn_115))
    · rw [if_neg hc22] at h
      refine hz_iload_n hO dX10_downIn_64 rfl 3 rfl ?_
      refine hz_aload_n hO dX10_downIn_65 rfl 0 rfl ?_
      refine hz_getR (k := 3) hO 11 hz_K_10 hz_sh_0 (hz_lt_0 hN) rfl (Nat.le_of_ble_eq_true rfl) tw_3_31 rfl dX10_downIn_66 ?_
      obtain ⟨r23, M24, hq25, h⟩ := hz_ct_e h
      refine hz_callVi (as := []) (rest := [.int v3_18]) hO (c_X7_steam l w hN hq25) hz_cal_X7_steam hz_K_7 hz_sh_11 (hz_lt_11 hN) tw_5_87 (Nat.le_of_ble_eq_true rfl) rfl rfl (Nat.le_of_ble_eq_true rfl) dX10_downIn_69 ?_
      obtain ⟨r26, M27, hq28, h⟩ := hz_ct_e h
      refine hz_callSi (as := [.int v3_18, .int r23]) (rest := []) hO (c_X7_heatBehind l w hN v3_18 r23 hq28) hz_cal_X7_heatBehind tw_5_91 (Nat.le_of_ble_eq_true rfl) rfl rfl (Nat.le_of_ble_eq_true rfl) dX10_downIn_72 ?_
      refine hz_istore_n (ls1 := [(3, .int r26), (0, .ref (hz_ad w 0)), (1, .int v1_16), (2, .int v2_17), (4, .int v4_19), (5, .int v5_20)]) hO dX10_downIn_75 rfl (Nat.le_of_ble_eq_true rfl) rfl ?_
      refine hz_iload hO dX10_downIn_76 4 rfl ?_
      refine hz_iload_n hO dX10_downIn_78 rfl 0 rfl ?_
      refine hz_bipush (v := (6 : Int32)) hO dX10_downIn_79 (by decide) ?_
      refine hz_iload_n hO dX10_downIn_81 rfl 3 rfl ?_
      refine hz_imul hO dX10_downIn_82 ?_
      refine hz_iadd hO dX10_downIn_83 ?_
      refine hz_aload_n hO dX10_downIn_84 rfl 1 rfl ?_
      refine hz_getR (k := 0) hO 1 hz_K_10 hz_sh_0 (hz_lt_0 hN) rfl (Nat.le_of_ble_eq_true rfl) tw_3_28 rfl dX10_downIn_85 ?_
      refine hz_iload_n hO dX10_downIn_88 rfl 2 rfl ?_
      obtain ⟨r29, M30, hq31, h⟩ := hz_ct_e h
      refine hz_callVi (as := [.int v1_16]) (rest := [.int (r26 + ((6 : Int32) * v2_17)), .int v4_19]) hO (c_X3_bears l w hN v1_16 hq31) hz_cal_X3_bears hz_K_4 hz_sh_1 (hz_lt_1 hN) tw_4_151 (Nat.le_of_ble_eq_true rfl) rfl rfl (Nat.le_of_ble_eq_true rfl) dX10_downIn_89 ?_
      refine hz_isub hO dX10_downIn_92 ?_
      obtain ⟨r32, M33, hq34, h⟩ := hz_ct_e h
      refine hz_callSi (as := [.int v4_19, .int ((r26 + ((6 : Int32) * v2_17)) - r29)]) (rest := []) hO (c_X7_strainBehind l w hN v4_19 ((r26 + ((6 : Int32) * v2_17)) - r29) hq34) hz_cal_X7_strainBehind tw_5_112 (Nat.le_of_ble_eq_true rfl) rfl rfl (Nat.le_of_ble_eq_true rfl) dX10_downIn_93 ?_
      refine hz_istore (ls1 := [(4, .int r32), (3, .int r26), (0, .ref (hz_ad w 0)), (1, .int v1_16), (2, .int v2_17), (5, .int v5_20)]) hO dX10_downIn_96 (Nat.le_of_ble_eq_true rfl) rfl ?_
      refine hz_iload hO dX10_downIn_98 0 rfl ?_
      refine hz_bipush (v := (10 : Int32)) hO dX10_downIn_100 (by decide) ?_
      refine hz_icmp_lt (tgt := 108) hO dX10_downIn_102 (by decide) (fun hc35 => ?_) (fun hc35 => ?_)
      · rw [if_pos hc35] at h
        obtain ⟨x36, h_x36, h⟩ := hz_lt_e h
        refine hz_iinc (k := 5) (v := x36) (ls1 := [(5, .int x36), (4, .int r32), (3, .int r26), (0, .ref (hz_ad w 0)), (1, .int v1_16), (2, .int v2_17)]) hO dX10_downIn_108 rfl (by rw [h_x36]; rfl) (Nat.le_of_ble_eq_true rfl) rfl ?_
        refine hz_goto (tgt := 56) hO dX10_downIn_111 (by decide) ?_
        exact hz_ls [3, 4, 5, 2, 1, 0] rfl (ih v1_16 v2_17 r26 r32 x36 M33 h)
      · rw [if_neg hc35] at h
        refine hz_iload hO dX10_downIn_105 5 rfl ?_
        exact hz_nameM (hz_some_e h).2.symm (hz_name (hz_some_e h).1.symm (hz_iret hO dX10_downIn_107))
set_option maxRecDepth 100000 in
set_option maxHeartbeats 4000000 in
theorem c_X10_downIn (l : Launch) (w : hz_C) {N : Nat} (hN : 178 ≤ N) (a1 : Int32) {M : hz_M} {rE : Int32} {ME : hz_M} (h : f_X10_downIn a1 M = some (rE, ME)) : hz_Ct l yX10_downIn cX10_downIn 6 (some .int) 2 w N [.ref (hz_ad w 0), .int a1] M (hz_Qi w N rE ME) := by
  refine hz_ofW (by decide) rfl (Nat.le_of_ble_eq_true rfl) tw_5_111 ?_
  intro p e s m args below meth c hO
  show hz_G p l e 2 hz_z0 s m args below meth c w N 6 _ M 0 [(0, .ref (hz_ad w 0)), (1, .int a1)] []
  unfold f_X10_downIn at h
  refine hz_aload_n hO dX10_downIn_0 rfl 0 rfl ?_
  refine hz_getR (k := 0) hO 1 hz_K_10 hz_sh_0 (hz_lt_0 hN) rfl (Nat.le_of_ble_eq_true rfl) tw_3_28 rfl dX10_downIn_1 ?_
  refine hz_iload_n hO dX10_downIn_4 rfl 1 rfl ?_
  obtain ⟨r1, M2, hq3, h⟩ := hz_ct_e h
  refine hz_callVi (as := [.int a1]) (rest := []) hO (c_X3_isGuest l w hN a1 hq3) hz_cal_X3_isGuest hz_K_4 hz_sh_1 (hz_lt_1 hN) tw_4_57 (Nat.le_of_ble_eq_true rfl) rfl rfl (Nat.le_of_ble_eq_true rfl) dX10_downIn_5 ?_
  obtain ⟨r4, M5, hq6, h⟩ := hz_ct_e h
  refine hz_callSv (as := [.int r1]) (rest := []) hO (c_X10_need l w hN r1 hq6) hz_cal_X10_need tw_4_61 (Nat.le_of_ble_eq_true rfl) rfl rfl (Nat.le_of_ble_eq_true rfl) dX10_downIn_8 ?_
  refine hz_aload_n hO dX10_downIn_11 rfl 0 rfl ?_
  refine hz_getR (k := 3) hO 11 hz_K_10 hz_sh_0 (hz_lt_0 hN) rfl (Nat.le_of_ble_eq_true rfl) tw_3_31 rfl dX10_downIn_12 ?_
  refine hz_getR (k := 2) hO 13 hz_K_7 hz_sh_11 (hz_lt_11 hN) rfl (Nat.le_of_ble_eq_true rfl) tw_1_153 rfl dX10_downIn_15 ?_
  refine hz_iload_n hO dX10_downIn_18 rfl 1 rfl ?_
  obtain ⟨hg7, h⟩ := hz_gd_e h
  refine hz_iald hO hz_sh_13 (hz_lt_13 hN) hg7 dX10_downIn_19 ?_
  obtain ⟨x8, h_x8, h⟩ := hz_lt_e h
  refine hz_name h_x8 ?_
  refine hz_istore_n (ls1 := [(2, .int x8), (0, .ref (hz_ad w 0)), (1, .int a1)]) hO dX10_downIn_20 rfl (Nat.le_of_ble_eq_true rfl) rfl ?_
  refine hz_aload_n hO dX10_downIn_21 rfl 1 rfl ?_
  refine hz_getR (k := 0) hO 1 hz_K_10 hz_sh_0 (hz_lt_0 hN) rfl (Nat.le_of_ble_eq_true rfl) tw_3_28 rfl dX10_downIn_22 ?_
  refine hz_iload_n hO dX10_downIn_25 rfl 0 rfl ?_
  obtain ⟨r9, M10, hq11, h⟩ := hz_ct_e h
  refine hz_callVi (as := [.int x8]) (rest := []) hO (c_X3_isStep l w hN x8 hq11) hz_cal_X3_isStep hz_K_4 hz_sh_1 (hz_lt_1 hN) tw_4_193 (Nat.le_of_ble_eq_true rfl) rfl rfl (Nat.le_of_ble_eq_true rfl) dX10_downIn_26 ?_
  refine hz_if_ne (tgt := 34) hO dX10_downIn_29 (by decide) (fun hc12 => ?_) (fun hc12 => ?_)
  · rw [if_neg hc12] at h
    refine hz_aload_n hO dX10_downIn_34 rfl 1 rfl ?_
    refine hz_getR (k := 3) hO 11 hz_K_10 hz_sh_0 (hz_lt_0 hN) rfl (Nat.le_of_ble_eq_true rfl) tw_3_31 rfl dX10_downIn_35 ?_
    refine hz_getI (k := 15) hO hz_K_7 hz_sh_11 (hz_lt_11 hN) rfl (Nat.le_of_ble_eq_true rfl) tw_1_193 rfl dX10_downIn_38 ?_
    obtain ⟨x13, h_x13, h⟩ := hz_lt_e h
    refine hz_name h_x13 ?_
    refine hz_istore_n (ls1 := [(3, .int x13), (2, .int x8), (0, .ref (hz_ad w 0)), (1, .int a1)]) hO dX10_downIn_41 rfl (Nat.le_of_ble_eq_true rfl) rfl ?_
    refine hz_aload_n hO dX10_downIn_42 rfl 2 rfl ?_
    refine hz_getR (k := 3) hO 11 hz_K_10 hz_sh_0 (hz_lt_0 hN) rfl (Nat.le_of_ble_eq_true rfl) tw_3_31 rfl dX10_downIn_43 ?_
    refine hz_getR (k := 5) hO 16 hz_K_7 hz_sh_11 (hz_lt_11 hN) rfl (Nat.le_of_ble_eq_true rfl) tw_1_163 rfl dX10_downIn_46 ?_
    refine hz_iload_n hO dX10_downIn_49 rfl 3 rfl ?_
    obtain ⟨hg14, h⟩ := hz_gd_e h
    refine hz_iald hO hz_sh_16 (hz_lt_16 hN) hg14 dX10_downIn_50 ?_
    obtain ⟨x15, h_x15, h⟩ := hz_lt_e h
    refine hz_name h_x15 ?_
    refine hz_istore (ls1 := [(4, .int x15), (3, .int x13), (2, .int x8), (0, .ref (hz_ad w 0)), (1, .int a1)]) hO dX10_downIn_51 (Nat.le_of_ble_eq_true rfl) rfl ?_
    refine hz_iconst (v := (1 : Int32)) hO dX10_downIn_53 (by decide) ?_
    refine hz_istore (ls1 := [(5, .int (1 : Int32)), (4, .int x15), (3, .int x13), (2, .int x8), (0, .ref (hz_ad w 0)), (1, .int a1)]) hO dX10_downIn_54 (Nat.le_of_ble_eq_true rfl) rfl ?_
    exact hz_ls [4, 5, 3, 2, 1, 0] rfl (g_X10_downIn_L56 hN hO _ a1 x8 x13 x15 (1 : Int32) M10 h)
  · rw [if_pos hc12] at h
    refine hz_iconst (v := (0 : Int32)) hO dX10_downIn_32 (by decide) ?_
    exact hz_nameM (hz_some_e h).2.symm (hz_name (hz_some_e h).1.symm (hz_iret hO dX10_downIn_33))
def f_X10_dryIn_L59 : Nat → Int32 → Int32 → Int32 → hz_M → hz_O
  | 0, _, _, _, _ => none
  | n + 1, v2_16, v3_17, v4_18, M19 =>
    if (200 : Int32) < v4_18 then
      some ((-1 : Int32), M19)
    else
      hz_ct (f_X7_steam M19) fun r21 M22 =>
      hz_ct (f_X7_heatBehind v3_17 r21 M22) fun r24 M25 =>
      hz_ct (f_X7_wetOnPegBehind v2_16 r24 M25) fun r27 M28 =>
      if r27 = 0 then
        some (v4_18, M28)
      else
        hz_lt (v4_18 + (1 : Int32)) fun x31 =>
        f_X10_dryIn_L59 n r27 r24 x31 M28
def f_X10_dryIn (a1 : Int32) (M : hz_M) : hz_O :=
  hz_ct (f_X3_isTowel a1 M) fun r1 M2 =>
  hz_ct (f_X10_need r1 M2) fun r4 M5 =>
  hz_gd (hz_in a1 16) <|
  hz_lt ((M5 20 (Int32.toNatClampNeg a1))) fun x8 =>
  if x8 = 0 then
    some ((0 : Int32), M5)
  else
    hz_gd (hz_in a1 16) <|
    hz_ct (f_X3_isPeg (M5 21 (Int32.toNatClampNeg a1)) M5) fun r11 M12 =>
    if r11 = 0 then
      some ((-1 : Int32), M12)
    else
      hz_lt ((M12 11 15)) fun x15 =>
      f_X10_dryIn_L59 hz_FU x8 x15 (1 : Int32) M12
set_option maxRecDepth 100000 in
set_option maxHeartbeats 4000000 in
theorem g_X10_dryIn_L59 {p : Program} {l : Launch} {e : Env} {s : State} {m : MethodId} {args : Array Value} {below : List Frame} {meth : Method} {c : Code} {w : hz_C} {N : Nat} (hN : 178 ≤ N) {rE : Int32} {ME : hz_M} (hO : hz_Ok p s m args meth c w cX10_dryIn 5 RX10 (some .int)) : ∀ (n : Nat) (v2_16 : Int32) (v3_17 : Int32) (v4_18 : Int32) (M19 : hz_M), f_X10_dryIn_L59 n v2_16 v3_17 v4_18 M19 = some (rE, ME) → hz_G p l e 2 hz_z0 s m args below meth c w N 5 (MQ below (hz_Qi w N rE ME) args s 0 0 (hz_A w)) M19 59 [(0, .ref (hz_ad w 0)), (2, .int v2_16), (3, .int v3_17), (4, .int v4_18)] [] := by
  intro n
  induction n with
  | zero =>
    intro v2_16 v3_17 v4_18 M19 h
    rw [f_X10_dryIn_L59] at h
    cases h
  | succ n ih =>
    intro v2_16 v3_17 v4_18 M19 h
    rw [f_X10_dryIn_L59] at h
    refine hz_iload hO dX10_dryIn_59 3 rfl ?_
    refine hz_sipush (v := (200 : Int32)) hO dX10_dryIn_61 (by decide) ?_
    refine hz_icmp_gt (tgt := 98) hO dX10_dryIn_64 (by decide) (fun hc20 => ?_) (fun hc20 => ?_)
    · rw [if_pos hc20] at h
      refine hz_iconst (v := (-1 : Int32)) hO dX10_dryIn_98 (by decide) ?_
      exact hz_nameM (hz_some_e h).2.symm (hz_name (hz_some_e h).1.symm (hz_iret hO dX10_dryIn_99))
    · rw [if_neg hc20] at h
      refine hz_iload_n hO dX10_dryIn_67 rfl 2 rfl ?_
      refine hz_aload_n hO dX10_dryIn_68 rfl 0 rfl ?_
      refine hz_getR (k := 3) hO 11 hz_K_10 hz_sh_0 (hz_lt_0 hN) rfl (Nat.le_of_ble_eq_true rfl) tw_3_31 rfl dX10_dryIn_69 ?_
      obtain ⟨r21, M22, hq23, h⟩ := hz_ct_e h
      refine hz_callVi (as := []) (rest := [.int v3_17]) hO (c_X7_steam l w hN hq23) hz_cal_X7_steam hz_K_7 hz_sh_11 (hz_lt_11 hN) tw_5_87 (Nat.le_of_ble_eq_true rfl) rfl rfl (Nat.le_of_ble_eq_true rfl) dX10_dryIn_72 ?_
      obtain ⟨r24, M25, hq26, h⟩ := hz_ct_e h
      refine hz_callSi (as := [.int v3_17, .int r21]) (rest := []) hO (c_X7_heatBehind l w hN v3_17 r21 hq26) hz_cal_X7_heatBehind tw_5_91 (Nat.le_of_ble_eq_true rfl) rfl rfl (Nat.le_of_ble_eq_true rfl) dX10_dryIn_75 ?_
      refine hz_istore_n (ls1 := [(3, .int r24), (0, .ref (hz_ad w 0)), (2, .int v2_16), (4, .int v4_18)]) hO dX10_dryIn_78 rfl (Nat.le_of_ble_eq_true rfl) rfl ?_
      refine hz_iload_n hO dX10_dryIn_79 rfl 2 rfl ?_
      refine hz_iload_n hO dX10_dryIn_80 rfl 0 rfl ?_
      obtain ⟨r27, M28, hq29, h⟩ := hz_ct_e h
      refine hz_callSi (as := [.int v2_16, .int r24]) (rest := []) hO (c_X7_wetOnPegBehind l w hN v2_16 r24 hq29) hz_cal_X7_wetOnPegBehind tw_5_119 (Nat.le_of_ble_eq_true rfl) rfl rfl (Nat.le_of_ble_eq_true rfl) dX10_dryIn_81 ?_
      refine hz_istore_n (ls1 := [(2, .int r27), (3, .int r24), (0, .ref (hz_ad w 0)), (4, .int v4_18)]) hO dX10_dryIn_84 rfl (Nat.le_of_ble_eq_true rfl) rfl ?_
      refine hz_iload_n hO dX10_dryIn_85 rfl 0 rfl ?_
      refine hz_if_ne (tgt := 92) hO dX10_dryIn_86 (by decide) (fun hc30 => ?_) (fun hc30 => ?_)
      · rw [if_neg hc30] at h
        obtain ⟨x31, h_x31, h⟩ := hz_lt_e h
        refine hz_iinc (k := 3) (v := x31) (ls1 := [(4, .int x31), (2, .int r27), (3, .int r24), (0, .ref (hz_ad w 0))]) hO dX10_dryIn_92 rfl (by rw [h_x31]; rfl) (Nat.le_of_ble_eq_true rfl) rfl ?_
        refine hz_goto (tgt := 59) hO dX10_dryIn_95 (by decide) ?_
        exact hz_ls [3, 1, 2, 0] rfl (ih r27 r24 x31 M28 h)
      · rw [if_pos hc30] at h
        refine hz_iload hO dX10_dryIn_89 3 rfl ?_
        exact hz_nameM (hz_some_e h).2.symm (hz_name (hz_some_e h).1.symm (hz_iret hO dX10_dryIn_91))
set_option maxRecDepth 100000 in
set_option maxHeartbeats 4000000 in
theorem c_X10_dryIn (l : Launch) (w : hz_C) {N : Nat} (hN : 178 ≤ N) (a1 : Int32) {M : hz_M} {rE : Int32} {ME : hz_M} (h : f_X10_dryIn a1 M = some (rE, ME)) : hz_Ct l yX10_dryIn cX10_dryIn 5 (some .int) 2 w N [.ref (hz_ad w 0), .int a1] M (hz_Qi w N rE ME) := by
  refine hz_ofW (by decide) rfl (Nat.le_of_ble_eq_true rfl) tw_5_118 ?_
  intro p e s m args below meth c hO
  show hz_G p l e 2 hz_z0 s m args below meth c w N 5 _ M 0 [(0, .ref (hz_ad w 0)), (1, .int a1)] []
  unfold f_X10_dryIn at h
  refine hz_aload_n hO dX10_dryIn_0 rfl 0 rfl ?_
  refine hz_getR (k := 0) hO 1 hz_K_10 hz_sh_0 (hz_lt_0 hN) rfl (Nat.le_of_ble_eq_true rfl) tw_3_28 rfl dX10_dryIn_1 ?_
  refine hz_iload_n hO dX10_dryIn_4 rfl 1 rfl ?_
  obtain ⟨r1, M2, hq3, h⟩ := hz_ct_e h
  refine hz_callVi (as := [.int a1]) (rest := []) hO (c_X3_isTowel l w hN a1 hq3) hz_cal_X3_isTowel hz_K_4 hz_sh_1 (hz_lt_1 hN) tw_4_228 (Nat.le_of_ble_eq_true rfl) rfl rfl (Nat.le_of_ble_eq_true rfl) dX10_dryIn_5 ?_
  obtain ⟨r4, M5, hq6, h⟩ := hz_ct_e h
  refine hz_callSv (as := [.int r1]) (rest := []) hO (c_X10_need l w hN r1 hq6) hz_cal_X10_need tw_4_61 (Nat.le_of_ble_eq_true rfl) rfl rfl (Nat.le_of_ble_eq_true rfl) dX10_dryIn_8 ?_
  refine hz_aload_n hO dX10_dryIn_11 rfl 0 rfl ?_
  refine hz_getR (k := 3) hO 11 hz_K_10 hz_sh_0 (hz_lt_0 hN) rfl (Nat.le_of_ble_eq_true rfl) tw_3_31 rfl dX10_dryIn_12 ?_
  refine hz_getR (k := 9) hO 20 hz_K_7 hz_sh_11 (hz_lt_11 hN) rfl (Nat.le_of_ble_eq_true rfl) tw_1_175 rfl dX10_dryIn_15 ?_
  refine hz_iload_n hO dX10_dryIn_18 rfl 1 rfl ?_
  obtain ⟨hg7, h⟩ := hz_gd_e h
  refine hz_iald hO hz_sh_20 (hz_lt_20 hN) hg7 dX10_dryIn_19 ?_
  obtain ⟨x8, h_x8, h⟩ := hz_lt_e h
  refine hz_name h_x8 ?_
  refine hz_istore_n (ls1 := [(2, .int x8), (0, .ref (hz_ad w 0)), (1, .int a1)]) hO dX10_dryIn_20 rfl (Nat.le_of_ble_eq_true rfl) rfl ?_
  refine hz_iload_n hO dX10_dryIn_21 rfl 0 rfl ?_
  refine hz_if_ne (tgt := 27) hO dX10_dryIn_22 (by decide) (fun hc9 => ?_) (fun hc9 => ?_)
  · rw [if_neg hc9] at h
    refine hz_aload_n hO dX10_dryIn_27 rfl 1 rfl ?_
    refine hz_getR (k := 0) hO 1 hz_K_10 hz_sh_0 (hz_lt_0 hN) rfl (Nat.le_of_ble_eq_true rfl) tw_3_28 rfl dX10_dryIn_28 ?_
    refine hz_aload_n hO dX10_dryIn_31 rfl 1 rfl ?_
    refine hz_getR (k := 3) hO 11 hz_K_10 hz_sh_0 (hz_lt_0 hN) rfl (Nat.le_of_ble_eq_true rfl) tw_3_31 rfl dX10_dryIn_32 ?_
    refine hz_getR (k := 10) hO 21 hz_K_7 hz_sh_11 (hz_lt_11 hN) rfl (Nat.le_of_ble_eq_true rfl) tw_1_178 rfl dX10_dryIn_35 ?_
    refine hz_iload_n hO dX10_dryIn_38 rfl 2 rfl ?_
    obtain ⟨hg10, h⟩ := hz_gd_e h
    refine hz_iald hO hz_sh_21 (hz_lt_21 hN) hg10 dX10_dryIn_39 ?_
    obtain ⟨r11, M12, hq13, h⟩ := hz_ct_e h
    refine hz_callVi (as := [.int (M5 21 (Int32.toNatClampNeg a1))]) (rest := []) hO (c_X3_isPeg l w hN (M5 21 (Int32.toNatClampNeg a1)) hq13) hz_cal_X3_isPeg hz_K_4 hz_sh_1 (hz_lt_1 hN) tw_5_0 (Nat.le_of_ble_eq_true rfl) rfl rfl (Nat.le_of_ble_eq_true rfl) dX10_dryIn_40 ?_
    refine hz_if_ne (tgt := 48) hO dX10_dryIn_43 (by decide) (fun hc14 => ?_) (fun hc14 => ?_)
    · rw [if_neg hc14] at h
      refine hz_aload_n hO dX10_dryIn_48 rfl 1 rfl ?_
      refine hz_getR (k := 3) hO 11 hz_K_10 hz_sh_0 (hz_lt_0 hN) rfl (Nat.le_of_ble_eq_true rfl) tw_3_31 rfl dX10_dryIn_49 ?_
      refine hz_getI (k := 15) hO hz_K_7 hz_sh_11 (hz_lt_11 hN) rfl (Nat.le_of_ble_eq_true rfl) tw_1_193 rfl dX10_dryIn_52 ?_
      obtain ⟨x15, h_x15, h⟩ := hz_lt_e h
      refine hz_name h_x15 ?_
      refine hz_istore_n (ls1 := [(3, .int x15), (2, .int x8), (0, .ref (hz_ad w 0)), (1, .int a1)]) hO dX10_dryIn_55 rfl (Nat.le_of_ble_eq_true rfl) rfl ?_
      refine hz_iconst (v := (1 : Int32)) hO dX10_dryIn_56 (by decide) ?_
      refine hz_istore (ls1 := [(4, .int (1 : Int32)), (3, .int x15), (2, .int x8), (0, .ref (hz_ad w 0)), (1, .int a1)]) hO dX10_dryIn_57 (Nat.le_of_ble_eq_true rfl) rfl ?_
      exact hz_ls [3, 2, 1, 0] rfl (g_X10_dryIn_L59 hN hO _ x8 x15 (1 : Int32) M12 h)
    · rw [if_pos hc14] at h
      refine hz_iconst (v := (-1 : Int32)) hO dX10_dryIn_46 (by decide) ?_
      exact hz_nameM (hz_some_e h).2.symm (hz_name (hz_some_e h).1.symm (hz_iret hO dX10_dryIn_47))
  · rw [if_pos hc9] at h
    refine hz_iconst (v := (0 : Int32)) hO dX10_dryIn_25 (by decide) ?_
    exact hz_nameM (hz_some_e h).2.symm (hz_name (hz_some_e h).1.symm (hz_iret hO dX10_dryIn_26))
