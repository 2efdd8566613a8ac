-- X1_deedOf X3_copyFrom X7_copyFrom X8_isWord X1_isThere X2_record X2_stepBack X2_keep X2_bringBack X7_begin X8_appendText X1_refusal X1_perform X8_needWord X3_readGuest X3_read
def f_X1_deedOf (a0 : Int32) (a1 : Int32) (M : hz_M) : hz_O :=
  hz_gd (hz_nn a0) <|
  hz_gd (hz_in (hz_eF 0 a0) 11) <|
  hz_lt ((hz_sw.getD (Int32.toNatClampNeg (hz_eF 0 a0)) 0)) fun x4 =>
  if x4 = 6 then
    some (((10 : Int32) + a1), M)
  else
  if x4 = 7 then
    some (((20 : Int32) + a1), M)
  else
  if x4 = 8 then
    some (((40 : Int32) + a1), M)
  else
  if x4 = 9 then
    some ((1 : Int32), M)
  else
  some ((0 : Int32), M)
set_option maxRecDepth 100000 in
set_option maxHeartbeats 4000000 in
theorem c_X1_deedOf (l : Launch) (w : hz_C) {N : Nat} (hN : 178 ≤ N) (a0 : Int32) (a1 : Int32) {M : hz_M} {rE : Int32} {ME : hz_M} (h : f_X1_deedOf a0 a1 M = some (rE, ME)) : hz_Ct l yX1_deedOf cX1_deedOf 2 (some .int) 1 w N [hz_ev w a0, .int a1] M (hz_Qi w N rE ME) := by
  refine hz_ofW (by decide) rfl (by simp [lg_sl, hz_ev_cat, hz_cr, hz_ci]) tw_3_216 ?_
  intro p e s m args below meth c hO
  rw [show lv_args 0 [hz_ev w a0, .int a1] = [(0, hz_ev w a0), (1, .int a1)] from by simp [lv_args, hz_ev_cat, hz_cr, hz_ci]]
  show hz_G p l e 1 hz_z0 s m args below meth c w N 2 _ M 0 [(0, hz_ev w a0), (1, .int a1)] []
  unfold f_X1_deedOf at h
  obtain ⟨t1, hz_t1, ht_t1⟩ := hO.2.2.2.1.2.2.2.2.2.1
  refine hz_gets hO hz_t1 tw_3_206 rfl dX1_deedOf_0 ?_
  refine hz_aload_nE hO dX1_deedOf_3 rfl 0 rfl ?_
  obtain ⟨hg2, h⟩ := hz_gd_e h
  refine hz_ord (rest := [.ref t1]) hO hg2 tw_3_208 (Nat.le_of_ble_eq_true rfl) (Nat.le_of_ble_eq_true rfl) dX1_deedOf_4 ?_
  obtain ⟨hg3, h⟩ := hz_gd_e h
  refine hz_ti (v := .int (hz_sw.getD (Int32.toNatClampNeg (hz_eF 0 a0)) 0)) hO ht_t1 (hz_in_e hg3) rfl dX1_deedOf_7 ?_
  obtain ⟨x4, h_x4, h⟩ := hz_lt_e h
  refine hz_name h_x4 ?_
  by_cases hc5 : x4 = (6 : Int32)
  · rw [if_pos hc5] at h
    refine hz_tin (tgt := 40) hO hc5 dX1_deedOf_8 (by decide) (by decide) rfl (by decide) ?_
    refine hz_bipush (v := (10 : Int32)) hO dX1_deedOf_40 (by decide) ?_
    refine hz_iload_n hO dX1_deedOf_42 rfl 1 rfl ?_
    refine hz_iadd hO dX1_deedOf_43 ?_
    exact hz_nameM (hz_some_e h).2.symm (hz_name (hz_some_e h).1.symm (hz_iret hO dX1_deedOf_44))
  · rw [if_neg hc5] at h
    by_cases hc6 : x4 = (7 : Int32)
    · rw [if_pos hc6] at h
      refine hz_tin (tgt := 45) hO hc6 dX1_deedOf_8 (by decide) (by decide) rfl (by decide) ?_
      refine hz_bipush (v := (20 : Int32)) hO dX1_deedOf_45 (by decide) ?_
      refine hz_iload_n hO dX1_deedOf_47 rfl 1 rfl ?_
      refine hz_iadd hO dX1_deedOf_48 ?_
      exact hz_nameM (hz_some_e h).2.symm (hz_name (hz_some_e h).1.symm (hz_iret hO dX1_deedOf_49))
    · rw [if_neg hc6] at h
      by_cases hc7 : x4 = (8 : Int32)
      · rw [if_pos hc7] at h
        refine hz_tin (tgt := 50) hO hc7 dX1_deedOf_8 (by decide) (by decide) rfl (by decide) ?_
        refine hz_bipush (v := (40 : Int32)) hO dX1_deedOf_50 (by decide) ?_
        refine hz_iload_n hO dX1_deedOf_52 rfl 1 rfl ?_
        refine hz_iadd hO dX1_deedOf_53 ?_
        exact hz_nameM (hz_some_e h).2.symm (hz_name (hz_some_e h).1.symm (hz_iret hO dX1_deedOf_54))
      · rw [if_neg hc7] at h
        by_cases hc8 : x4 = (9 : Int32)
        · rw [if_pos hc8] at h
          refine hz_tin (tgt := 55) hO hc8 dX1_deedOf_8 (by decide) (by decide) rfl (by decide) ?_
          refine hz_iconst (v := (1 : Int32)) hO dX1_deedOf_55 (by decide) ?_
          exact hz_nameM (hz_some_e h).2.symm (hz_name (hz_some_e h).1.symm (hz_iret hO dX1_deedOf_56))
        · rw [if_neg hc8] at h
          have hn6 : ¬ x4.toInt = 6 := lv_neT hc5 rfl
          have hn7 : ¬ x4.toInt = 7 := lv_neT hc6 rfl
          have hn8 : ¬ x4.toInt = 8 := lv_neT hc7 rfl
          have hn9 : ¬ x4.toInt = 9 := lv_neT hc8 rfl
          refine hz_tout (tgt := 57) hO dX1_deedOf_8 (by omega) (by decide) ?_
          refine hz_iconst (v := (0 : Int32)) hO dX1_deedOf_57 (by decide) ?_
          exact hz_nameM (hz_some_e h).2.symm (hz_name (hz_some_e h).1.symm (hz_iret hO dX1_deedOf_58))
def f_X3_copyFrom (M : hz_M) : hz_O :=
  hz_lm (hz_cpy M 6 2 16) fun M1 =>
  hz_lm (hz_cpy M1 7 3 96) fun M2 =>
  hz_lm (hz_cpy M2 8 4 16) fun M3 =>
  hz_lm (hz_set M3 1 3 (M3 5 3)) fun M4 =>
  hz_lm (hz_set M4 1 4 (M4 5 4)) fun M5 =>
  hz_lm (hz_set M5 1 5 (M5 5 5)) fun M6 =>
  hz_lm (hz_set M6 1 6 (M6 5 6)) fun M7 =>
  hz_lm (hz_set M7 1 7 (M7 5 7)) fun M8 =>
  hz_lm (hz_set M8 1 8 (M8 5 8)) fun M9 =>
  hz_lm (hz_set M9 1 9 (M9 5 9)) fun M10 =>
  hz_lm (hz_set M10 1 10 (M10 5 10)) fun M11 =>
  hz_lm (hz_set M11 1 11 (M11 5 11)) fun M12 =>
  some (0, M12)
set_option maxRecDepth 100000 in
set_option maxHeartbeats 4000000 in
theorem c_X3_copyFrom (l : Launch) (w : hz_C) {N : Nat} (hN : 178 ≤ N) {M : hz_M} {rE : Int32} {ME : hz_M} (h : f_X3_copyFrom M = some (rE, ME)) : hz_Ct l yX3_copyFrom cX3_copyFrom 2 none 1 w N [.ref (hz_ad w 1), .ref (hz_ad w 5)] M (hz_Qv w N ME) := by
  refine hz_ofW (by decide) rfl (Nat.le_of_ble_eq_true rfl) tw_3_97 ?_
  intro p e s m args below meth c hO
  show hz_G p l e 1 hz_z0 s m args below meth c w N 2 _ M 0 [(0, .ref (hz_ad w 1)), (1, .ref (hz_ad w 5))] []
  unfold f_X3_copyFrom at h
  refine hz_aload_n hO dX3_copyFrom_0 rfl 1 rfl ?_
  refine hz_getR (k := 0) hO 6 hz_K_2 hz_sh_5 (hz_lt_5 hN) rfl (Nat.le_of_ble_eq_true rfl) tw_1_42 rfl dX3_copyFrom_1 ?_
  refine hz_iconst (v := (0 : Int32)) hO dX3_copyFrom_4 (by decide) ?_
  refine hz_aload_n hO dX3_copyFrom_5 rfl 0 rfl ?_
  refine hz_getR (k := 0) hO 2 hz_K_2 hz_sh_1 (hz_lt_1 hN) rfl (Nat.le_of_ble_eq_true rfl) tw_1_42 rfl dX3_copyFrom_6 ?_
  refine hz_iconst (v := (0 : Int32)) hO dX3_copyFrom_9 (by decide) ?_
  refine hz_bipush (v := (16 : Int32)) hO dX3_copyFrom_10 (by decide) ?_
  obtain ⟨M1, h_M1, h⟩ := hz_lm_e h
  refine hz_acopy (k := 16) hO hz_sh_6 (hz_lt_6 hN) hz_sh_2 (hz_lt_2 hN) (by decide) (by decide) (Nat.le_of_ble_eq_true rfl) (Nat.le_of_ble_eq_true rfl) tw_3_98 (Nat.le_of_ble_eq_true rfl) (Nat.le_of_ble_eq_true rfl) dX3_copyFrom_12 ?_
  refine hz_nameM h_M1 ?_
  refine hz_aload_n hO dX3_copyFrom_15 rfl 1 rfl ?_
  refine hz_getR (k := 1) hO 7 hz_K_2 hz_sh_5 (hz_lt_5 hN) rfl (Nat.le_of_ble_eq_true rfl) tw_1_46 rfl dX3_copyFrom_16 ?_
  refine hz_iconst (v := (0 : Int32)) hO dX3_copyFrom_19 (by decide) ?_
  refine hz_aload_n hO dX3_copyFrom_20 rfl 0 rfl ?_
  refine hz_getR (k := 1) hO 3 hz_K_2 hz_sh_1 (hz_lt_1 hN) rfl (Nat.le_of_ble_eq_true rfl) tw_1_46 rfl dX3_copyFrom_21 ?_
  refine hz_iconst (v := (0 : Int32)) hO dX3_copyFrom_24 (by decide) ?_
  refine hz_bipush (v := (96 : Int32)) hO dX3_copyFrom_25 (by decide) ?_
  obtain ⟨M2, h_M2, h⟩ := hz_lm_e h
  refine hz_acopy (k := 96) hO hz_sh_7 (hz_lt_7 hN) hz_sh_3 (hz_lt_3 hN) (by decide) (by decide) (Nat.le_of_ble_eq_true rfl) (Nat.le_of_ble_eq_true rfl) tw_3_98 (Nat.le_of_ble_eq_true rfl) (Nat.le_of_ble_eq_true rfl) dX3_copyFrom_27 ?_
  refine hz_nameM h_M2 ?_
  refine hz_aload_n hO dX3_copyFrom_30 rfl 1 rfl ?_
  refine hz_getR (k := 2) hO 8 hz_K_2 hz_sh_5 (hz_lt_5 hN) rfl (Nat.le_of_ble_eq_true rfl) tw_1_47 rfl dX3_copyFrom_31 ?_
  refine hz_iconst (v := (0 : Int32)) hO dX3_copyFrom_34 (by decide) ?_
  refine hz_aload_n hO dX3_copyFrom_35 rfl 0 rfl ?_
  refine hz_getR (k := 2) hO 4 hz_K_2 hz_sh_1 (hz_lt_1 hN) rfl (Nat.le_of_ble_eq_true rfl) tw_1_47 rfl dX3_copyFrom_36 ?_
  refine hz_iconst (v := (0 : Int32)) hO dX3_copyFrom_39 (by decide) ?_
  refine hz_bipush (v := (16 : Int32)) hO dX3_copyFrom_40 (by decide) ?_
  obtain ⟨M3, h_M3, h⟩ := hz_lm_e h
  refine hz_acopy (k := 16) hO hz_sh_8 (hz_lt_8 hN) hz_sh_4 (hz_lt_4 hN) (by decide) (by decide) (Nat.le_of_ble_eq_true rfl) (Nat.le_of_ble_eq_true rfl) tw_3_98 (Nat.le_of_ble_eq_true rfl) (Nat.le_of_ble_eq_true rfl) dX3_copyFrom_42 ?_
  refine hz_nameM h_M3 ?_
  refine hz_aload_n hO dX3_copyFrom_45 rfl 0 rfl ?_
  refine hz_aload_n hO dX3_copyFrom_46 rfl 1 rfl ?_
  refine hz_getI (k := 3) hO hz_K_2 hz_sh_5 (hz_lt_5 hN) rfl (Nat.le_of_ble_eq_true rfl) tw_1_49 rfl dX3_copyFrom_47 ?_
  obtain ⟨M4, h_M4, h⟩ := hz_lm_e h
  refine hz_putI (k := 3) (ty := .int) hO hz_K_2 tyX3_ok nmX3 hz_sh_1 (hz_lt_1 hN) rfl (Nat.le_of_ble_eq_true rfl) tw_1_49 rfl rfl rfl rfl rfl dX3_copyFrom_50 ?_
  refine hz_nameM h_M4 ?_
  refine hz_aload_n hO dX3_copyFrom_53 rfl 0 rfl ?_
  refine hz_aload_n hO dX3_copyFrom_54 rfl 1 rfl ?_
  refine hz_getI (k := 4) hO hz_K_2 hz_sh_5 (hz_lt_5 hN) rfl (Nat.le_of_ble_eq_true rfl) tw_1_53 rfl dX3_copyFrom_55 ?_
  obtain ⟨M5, h_M5, h⟩ := hz_lm_e h
  refine hz_putI (k := 4) (ty := .int) hO hz_K_2 tyX3_ok nmX3 hz_sh_1 (hz_lt_1 hN) rfl (Nat.le_of_ble_eq_true rfl) tw_1_53 rfl rfl rfl rfl rfl dX3_copyFrom_58 ?_
  refine hz_nameM h_M5 ?_
  refine hz_aload_n hO dX3_copyFrom_61 rfl 0 rfl ?_
  refine hz_aload_n hO dX3_copyFrom_62 rfl 1 rfl ?_
  refine hz_getI (k := 5) hO hz_K_2 hz_sh_5 (hz_lt_5 hN) rfl (Nat.le_of_ble_eq_true rfl) tw_1_57 rfl dX3_copyFrom_63 ?_
  obtain ⟨M6, h_M6, h⟩ := hz_lm_e h
  refine hz_putI (k := 5) (ty := .int) hO hz_K_2 tyX3_ok nmX3 hz_sh_1 (hz_lt_1 hN) rfl (Nat.le_of_ble_eq_true rfl) tw_1_57 rfl rfl rfl rfl rfl dX3_copyFrom_66 ?_
  refine hz_nameM h_M6 ?_
  refine hz_aload_n hO dX3_copyFrom_69 rfl 0 rfl ?_
  refine hz_aload_n hO dX3_copyFrom_70 rfl 1 rfl ?_
  refine hz_getI (k := 6) hO hz_K_2 hz_sh_5 (hz_lt_5 hN) rfl (Nat.le_of_ble_eq_true rfl) tw_1_61 rfl dX3_copyFrom_71 ?_
  obtain ⟨M7, h_M7, h⟩ := hz_lm_e h
  refine hz_putI (k := 6) (ty := .int) hO hz_K_2 tyX3_ok nmX3 hz_sh_1 (hz_lt_1 hN) rfl (Nat.le_of_ble_eq_true rfl) tw_1_61 rfl rfl rfl rfl rfl dX3_copyFrom_74 ?_
  refine hz_nameM h_M7 ?_
  refine hz_aload_n hO dX3_copyFrom_77 rfl 0 rfl ?_
  refine hz_aload_n hO dX3_copyFrom_78 rfl 1 rfl ?_
  refine hz_getI (k := 7) hO hz_K_2 hz_sh_5 (hz_lt_5 hN) rfl (Nat.le_of_ble_eq_true rfl) tw_1_65 rfl dX3_copyFrom_79 ?_
  obtain ⟨M8, h_M8, h⟩ := hz_lm_e h
  refine hz_putI (k := 7) (ty := .int) hO hz_K_2 tyX3_ok nmX3 hz_sh_1 (hz_lt_1 hN) rfl (Nat.le_of_ble_eq_true rfl) tw_1_65 rfl rfl rfl rfl rfl dX3_copyFrom_82 ?_
  refine hz_nameM h_M8 ?_
  refine hz_aload_n hO dX3_copyFrom_85 rfl 0 rfl ?_
  refine hz_aload_n hO dX3_copyFrom_86 rfl 1 rfl ?_
  refine hz_getI (k := 8) hO hz_K_2 hz_sh_5 (hz_lt_5 hN) rfl (Nat.le_of_ble_eq_true rfl) tw_1_69 rfl dX3_copyFrom_87 ?_
  obtain ⟨M9, h_M9, h⟩ := hz_lm_e h
  refine hz_putI (k := 8) (ty := .int) hO hz_K_2 tyX3_ok nmX3 hz_sh_1 (hz_lt_1 hN) rfl (Nat.le_of_ble_eq_true rfl) tw_1_69 rfl rfl rfl rfl rfl dX3_copyFrom_90 ?_
  refine hz_nameM h_M9 ?_
  refine hz_aload_n hO dX3_copyFrom_93 rfl 0 rfl ?_
  refine hz_aload_n hO dX3_copyFrom_94 rfl 1 rfl ?_
  refine hz_getI (k := 9) hO hz_K_2 hz_sh_5 (hz_lt_5 hN) rfl (Nat.le_of_ble_eq_true rfl) tw_1_72 rfl dX3_copyFrom_95 ?_
  obtain ⟨M10, h_M10, h⟩ := hz_lm_e h
  refine hz_putI (k := 9) (ty := .int) hO hz_K_2 tyX3_ok nmX3 hz_sh_1 (hz_lt_1 hN) rfl (Nat.le_of_ble_eq_true rfl) tw_1_72 rfl rfl rfl rfl rfl dX3_copyFrom_98 ?_
  refine hz_nameM h_M10 ?_
  refine hz_aload_n hO dX3_copyFrom_101 rfl 0 rfl ?_
  refine hz_aload_n hO dX3_copyFrom_102 rfl 1 rfl ?_
  refine hz_getI (k := 10) hO hz_K_2 hz_sh_5 (hz_lt_5 hN) rfl (Nat.le_of_ble_eq_true rfl) tw_1_74 rfl dX3_copyFrom_103 ?_
  obtain ⟨M11, h_M11, h⟩ := hz_lm_e h
  refine hz_putI (k := 10) (ty := .int) hO hz_K_2 tyX3_ok nmX3 hz_sh_1 (hz_lt_1 hN) rfl (Nat.le_of_ble_eq_true rfl) tw_1_74 rfl rfl rfl rfl rfl dX3_copyFrom_106 ?_
  refine hz_nameM h_M11 ?_
  refine hz_aload_n hO dX3_copyFrom_109 rfl 0 rfl ?_
  refine hz_aload_n hO dX3_copyFrom_110 rfl 1 rfl ?_
  refine hz_getI (k := 11) hO hz_K_2 hz_sh_5 (hz_lt_5 hN) rfl (Nat.le_of_ble_eq_true rfl) tw_1_76 rfl dX3_copyFrom_111 ?_
  obtain ⟨M12, h_M12, h⟩ := hz_lm_e h
  refine hz_putI (k := 11) (ty := .int) hO hz_K_2 tyX3_ok nmX3 hz_sh_1 (hz_lt_1 hN) rfl (Nat.le_of_ble_eq_true rfl) tw_1_76 rfl rfl rfl rfl rfl dX3_copyFrom_114 ?_
  refine hz_nameM h_M12 ?_
  exact hz_nameM (hz_some_e h).2.symm (hz_vret hO dX3_copyFrom_117)
def f_X7_copyFrom (b1 : Nat) (b2 : Nat) (M : hz_M) : hz_O :=
  hz_lm (hz_set M b1 14 (M b2 14)) fun M1 =>
  hz_lm (hz_set M1 b1 15 (M1 b2 15)) fun M2 =>
  hz_lm (hz_set M2 b1 16 (M2 b2 16)) fun M3 =>
  hz_lm (hz_set M3 b1 17 (M3 b2 17)) fun M4 =>
  hz_lm (hz_set M4 b1 18 (M4 b2 18)) fun M5 =>
  hz_lm (hz_set M5 b1 19 (M5 b2 19)) fun M6 =>
  hz_lm (hz_cpy M6 (b2 + 1) (b1 + 1) 4) fun M7 =>
  hz_lm (hz_cpy M7 (b2 + 2) (b1 + 2) 16) fun M8 =>
  hz_lm (hz_cpy M8 (b2 + 3) (b1 + 3) 16) fun M9 =>
  hz_lm (hz_cpy M9 (b2 + 4) (b1 + 4) 16) fun M10 =>
  hz_lm (hz_cpy M10 (b2 + 5) (b1 + 5) 16) fun M11 =>
  hz_lm (hz_cpy M11 (b2 + 6) (b1 + 6) 16) fun M12 =>
  hz_lm (hz_cpy M12 (b2 + 7) (b1 + 7) 16) fun M13 =>
  hz_lm (hz_cpy M13 (b2 + 8) (b1 + 8) 12) fun M14 =>
  hz_lm (hz_cpy M14 (b2 + 9) (b1 + 9) 16) fun M15 =>
  hz_lm (hz_cpy M15 (b2 + 10) (b1 + 10) 16) fun M16 =>
  hz_lm (hz_cpy M16 (b2 + 11) (b1 + 11) 16) fun M17 =>
  hz_lm (hz_cpy M17 (b2 + 12) (b1 + 12) 16) fun M18 =>
  hz_lm (hz_cpy M18 (b2 + 13) (b1 + 13) 9) fun M19 =>
  some (0, M19)
set_option maxRecDepth 100000 in
set_option maxHeartbeats 4000000 in
theorem c_X7_copyFrom (l : Launch) (w : hz_C) {N : Nat} (hN : 178 ≤ N) {b1 : Nat} (hB1 : hz_Sta N b1) {b2 : Nat} (hB2 : hz_Sta N b2) {M : hz_M} {rE : Int32} {ME : hz_M} (h : f_X7_copyFrom b1 b2 M = some (rE, ME)) : hz_Ct l yX7_copyFrom cX7_copyFrom 2 none 3 w N [.ref (hz_ad w b1), .ref (hz_ad w b2)] M (hz_Qv w N ME) := by
  refine hz_ofW (by decide) rfl (Nat.le_of_ble_eq_true rfl) tw_3_155 ?_
  intro p e s m args below meth c hO
  show hz_G p l e 3 hz_z0 s m args below meth c w N 2 _ M 0 [(0, .ref (hz_ad w b1)), (1, .ref (hz_ad w b2))] []
  unfold f_X7_copyFrom at h
  refine hz_aload_n hO dX7_copyFrom_0 rfl 0 rfl ?_
  refine hz_aload_n hO dX7_copyFrom_1 rfl 1 rfl ?_
  refine hz_getI (k := 14) hO hz_K_5 hB2.1 hB2.2.1 rfl (Nat.le_of_ble_eq_true rfl) tw_1_196 rfl dX7_copyFrom_2 ?_
  obtain ⟨M1, h_M1, h⟩ := hz_lm_e h
  refine hz_putI (k := 14) (ty := .int) hO hz_K_5 tyX7_ok nmX7 hB1.1 hB1.2.1 rfl (Nat.le_of_ble_eq_true rfl) tw_1_196 rfl rfl rfl rfl rfl dX7_copyFrom_5 ?_
  refine hz_nameM h_M1 ?_
  refine hz_aload_n hO dX7_copyFrom_8 rfl 0 rfl ?_
  refine hz_aload_n hO dX7_copyFrom_9 rfl 1 rfl ?_
  refine hz_getI (k := 15) hO hz_K_5 hB2.1 hB2.2.1 rfl (Nat.le_of_ble_eq_true rfl) tw_1_199 rfl dX7_copyFrom_10 ?_
  obtain ⟨M2, h_M2, h⟩ := hz_lm_e h
  refine hz_putI (k := 15) (ty := .int) hO hz_K_5 tyX7_ok nmX7 hB1.1 hB1.2.1 rfl (Nat.le_of_ble_eq_true rfl) tw_1_199 rfl rfl rfl rfl rfl dX7_copyFrom_13 ?_
  refine hz_nameM h_M2 ?_
  refine hz_aload_n hO dX7_copyFrom_16 rfl 0 rfl ?_
  refine hz_aload_n hO dX7_copyFrom_17 rfl 1 rfl ?_
  refine hz_getI (k := 16) hO hz_K_5 hB2.1 hB2.2.1 rfl (Nat.le_of_ble_eq_true rfl) tw_1_201 rfl dX7_copyFrom_18 ?_
  obtain ⟨M3, h_M3, h⟩ := hz_lm_e h
  refine hz_putI (k := 16) (ty := .int) hO hz_K_5 tyX7_ok nmX7 hB1.1 hB1.2.1 rfl (Nat.le_of_ble_eq_true rfl) tw_1_201 rfl rfl rfl rfl rfl dX7_copyFrom_21 ?_
  refine hz_nameM h_M3 ?_
  refine hz_aload_n hO dX7_copyFrom_24 rfl 0 rfl ?_
  refine hz_aload_n hO dX7_copyFrom_25 rfl 1 rfl ?_
  refine hz_getI (k := 17) hO hz_K_5 hB2.1 hB2.2.1 rfl (Nat.le_of_ble_eq_true rfl) tw_1_202 rfl dX7_copyFrom_26 ?_
  obtain ⟨M4, h_M4, h⟩ := hz_lm_e h
  refine hz_putI (k := 17) (ty := .int) hO hz_K_5 tyX7_ok nmX7 hB1.1 hB1.2.1 rfl (Nat.le_of_ble_eq_true rfl) tw_1_202 rfl rfl rfl rfl rfl dX7_copyFrom_29 ?_
  refine hz_nameM h_M4 ?_
  refine hz_aload_n hO dX7_copyFrom_32 rfl 0 rfl ?_
  refine hz_aload_n hO dX7_copyFrom_33 rfl 1 rfl ?_
  refine hz_getI (k := 18) hO hz_K_5 hB2.1 hB2.2.1 rfl (Nat.le_of_ble_eq_true rfl) tw_1_205 rfl dX7_copyFrom_34 ?_
  obtain ⟨M5, h_M5, h⟩ := hz_lm_e h
  refine hz_putI (k := 18) (ty := .int) hO hz_K_5 tyX7_ok nmX7 hB1.1 hB1.2.1 rfl (Nat.le_of_ble_eq_true rfl) tw_1_205 rfl rfl rfl rfl rfl dX7_copyFrom_37 ?_
  refine hz_nameM h_M5 ?_
  refine hz_aload_n hO dX7_copyFrom_40 rfl 0 rfl ?_
  refine hz_aload_n hO dX7_copyFrom_41 rfl 1 rfl ?_
  refine hz_getI (k := 19) hO hz_K_5 hB2.1 hB2.2.1 rfl (Nat.le_of_ble_eq_true rfl) tw_1_207 rfl dX7_copyFrom_42 ?_
  obtain ⟨M6, h_M6, h⟩ := hz_lm_e h
  refine hz_putI (k := 19) (ty := .int) hO hz_K_5 tyX7_ok nmX7 hB1.1 hB1.2.1 rfl (Nat.le_of_ble_eq_true rfl) tw_1_207 rfl rfl rfl rfl rfl dX7_copyFrom_45 ?_
  refine hz_nameM h_M6 ?_
  refine hz_aload_n hO dX7_copyFrom_48 rfl 1 rfl ?_
  refine hz_getR (k := 1) hO (b2 + 1) hz_K_5 hB2.1 hB2.2.1 rfl (Nat.le_of_ble_eq_true rfl) tw_1_152 rfl dX7_copyFrom_49 ?_
  refine hz_aload_n hO dX7_copyFrom_52 rfl 0 rfl ?_
  refine hz_getR (k := 1) hO (b1 + 1) hz_K_5 hB1.1 hB1.2.1 rfl (Nat.le_of_ble_eq_true rfl) tw_1_152 rfl dX7_copyFrom_53 ?_
  obtain ⟨M7, h_M7, h⟩ := hz_lm_e h
  refine hz_callSv (as := [.ref (hz_ad w (b2 + 1)), .ref (hz_ad w (b1 + 1))]) (rest := []) hO (c_X7_copyRow l w hB2.2.2.1 hB2.2.2.2.1 hB1.2.2.1 hB1.2.2.2.1 (by decide)) hz_cal_X7_copyRow tw_3_156 (Nat.le_of_ble_eq_true rfl) rfl rfl (Nat.le_of_ble_eq_true rfl) dX7_copyFrom_56 ?_
  refine hz_nameM h_M7 ?_
  refine hz_aload_n hO dX7_copyFrom_59 rfl 1 rfl ?_
  refine hz_getR (k := 2) hO (b2 + 2) hz_K_5 hB2.1 hB2.2.1 rfl (Nat.le_of_ble_eq_true rfl) tw_1_155 rfl dX7_copyFrom_60 ?_
  refine hz_aload_n hO dX7_copyFrom_63 rfl 0 rfl ?_
  refine hz_getR (k := 2) hO (b1 + 2) hz_K_5 hB1.1 hB1.2.1 rfl (Nat.le_of_ble_eq_true rfl) tw_1_155 rfl dX7_copyFrom_64 ?_
  obtain ⟨M8, h_M8, h⟩ := hz_lm_e h
  refine hz_callSv (as := [.ref (hz_ad w (b2 + 2)), .ref (hz_ad w (b1 + 2))]) (rest := []) hO (c_X7_copyRow l w hB2.2.2.2.2.1 hB2.2.2.2.2.2.1 hB1.2.2.2.2.1 hB1.2.2.2.2.2.1 (by decide)) hz_cal_X7_copyRow tw_3_156 (Nat.le_of_ble_eq_true rfl) rfl rfl (Nat.le_of_ble_eq_true rfl) dX7_copyFrom_67 ?_
  refine hz_nameM h_M8 ?_
  refine hz_aload_n hO dX7_copyFrom_70 rfl 1 rfl ?_
  refine hz_getR (k := 3) hO (b2 + 3) hz_K_5 hB2.1 hB2.2.1 rfl (Nat.le_of_ble_eq_true rfl) tw_1_160 rfl dX7_copyFrom_71 ?_
  refine hz_aload_n hO dX7_copyFrom_74 rfl 0 rfl ?_
  refine hz_getR (k := 3) hO (b1 + 3) hz_K_5 hB1.1 hB1.2.1 rfl (Nat.le_of_ble_eq_true rfl) tw_1_160 rfl dX7_copyFrom_75 ?_
  obtain ⟨M9, h_M9, h⟩ := hz_lm_e h
  refine hz_callSv (as := [.ref (hz_ad w (b2 + 3)), .ref (hz_ad w (b1 + 3))]) (rest := []) hO (c_X7_copyRow l w hB2.2.2.2.2.2.2.1 hB2.2.2.2.2.2.2.2.1 hB1.2.2.2.2.2.2.1 hB1.2.2.2.2.2.2.2.1 (by decide)) hz_cal_X7_copyRow tw_3_156 (Nat.le_of_ble_eq_true rfl) rfl rfl (Nat.le_of_ble_eq_true rfl) dX7_copyFrom_78 ?_
  refine hz_nameM h_M9 ?_
  refine hz_aload_n hO dX7_copyFrom_81 rfl 1 rfl ?_
  refine hz_getR (k := 4) hO (b2 + 4) hz_K_5 hB2.1 hB2.2.1 rfl (Nat.le_of_ble_eq_true rfl) tw_1_163 rfl dX7_copyFrom_82 ?_
  refine hz_aload_n hO dX7_copyFrom_85 rfl 0 rfl ?_
  refine hz_getR (k := 4) hO (b1 + 4) hz_K_5 hB1.1 hB1.2.1 rfl (Nat.le_of_ble_eq_true rfl) tw_1_163 rfl dX7_copyFrom_86 ?_
  obtain ⟨M10, h_M10, h⟩ := hz_lm_e h
  refine hz_callSv (as := [.ref (hz_ad w (b2 + 4)), .ref (hz_ad w (b1 + 4))]) (rest := []) hO (c_X7_copyRow l w hB2.2.2.2.2.2.2.2.2.1 hB2.2.2.2.2.2.2.2.2.2.1 hB1.2.2.2.2.2.2.2.2.1 hB1.2.2.2.2.2.2.2.2.2.1 (by decide)) hz_cal_X7_copyRow tw_3_156 (Nat.le_of_ble_eq_true rfl) rfl rfl (Nat.le_of_ble_eq_true rfl) dX7_copyFrom_89 ?_
  refine hz_nameM h_M10 ?_
  refine hz_aload_n hO dX7_copyFrom_92 rfl 1 rfl ?_
  refine hz_getR (k := 5) hO (b2 + 5) hz_K_5 hB2.1 hB2.2.1 rfl (Nat.le_of_ble_eq_true rfl) tw_1_167 rfl dX7_copyFrom_93 ?_
  refine hz_aload_n hO dX7_copyFrom_96 rfl 0 rfl ?_
  refine hz_getR (k := 5) hO (b1 + 5) hz_K_5 hB1.1 hB1.2.1 rfl (Nat.le_of_ble_eq_true rfl) tw_1_167 rfl dX7_copyFrom_97 ?_
  obtain ⟨M11, h_M11, h⟩ := hz_lm_e h
  refine hz_callSv (as := [.ref (hz_ad w (b2 + 5)), .ref (hz_ad w (b1 + 5))]) (rest := []) hO (c_X7_copyRow l w hB2.2.2.2.2.2.2.2.2.2.2.1 hB2.2.2.2.2.2.2.2.2.2.2.2.1 hB1.2.2.2.2.2.2.2.2.2.2.1 hB1.2.2.2.2.2.2.2.2.2.2.2.1 (by decide)) hz_cal_X7_copyRow tw_3_156 (Nat.le_of_ble_eq_true rfl) rfl rfl (Nat.le_of_ble_eq_true rfl) dX7_copyFrom_100 ?_
  refine hz_nameM h_M11 ?_
  refine hz_aload_n hO dX7_copyFrom_103 rfl 1 rfl ?_
  refine hz_getR (k := 6) hO (b2 + 6) hz_K_5 hB2.1 hB2.2.1 rfl (Nat.le_of_ble_eq_true rfl) tw_1_170 rfl dX7_copyFrom_104 ?_
  refine hz_aload_n hO dX7_copyFrom_107 rfl 0 rfl ?_
  refine hz_getR (k := 6) hO (b1 + 6) hz_K_5 hB1.1 hB1.2.1 rfl (Nat.le_of_ble_eq_true rfl) tw_1_170 rfl dX7_copyFrom_108 ?_
  obtain ⟨M12, h_M12, h⟩ := hz_lm_e h
  refine hz_callSv (as := [.ref (hz_ad w (b2 + 6)), .ref (hz_ad w (b1 + 6))]) (rest := []) hO (c_X7_copyRow l w hB2.2.2.2.2.2.2.2.2.2.2.2.2.1 hB2.2.2.2.2.2.2.2.2.2.2.2.2.2.1 hB1.2.2.2.2.2.2.2.2.2.2.2.2.1 hB1.2.2.2.2.2.2.2.2.2.2.2.2.2.1 (by decide)) hz_cal_X7_copyRow tw_3_156 (Nat.le_of_ble_eq_true rfl) rfl rfl (Nat.le_of_ble_eq_true rfl) dX7_copyFrom_111 ?_
  refine hz_nameM h_M12 ?_
  refine hz_aload_n hO dX7_copyFrom_114 rfl 1 rfl ?_
  refine hz_getR (k := 7) hO (b2 + 7) hz_K_5 hB2.1 hB2.2.1 rfl (Nat.le_of_ble_eq_true rfl) tw_1_173 rfl dX7_copyFrom_115 ?_
  refine hz_aload_n hO dX7_copyFrom_118 rfl 0 rfl ?_
  refine hz_getR (k := 7) hO (b1 + 7) hz_K_5 hB1.1 hB1.2.1 rfl (Nat.le_of_ble_eq_true rfl) tw_1_173 rfl dX7_copyFrom_119 ?_
  obtain ⟨M13, h_M13, h⟩ := hz_lm_e h
  refine hz_callSv (as := [.ref (hz_ad w (b2 + 7)), .ref (hz_ad w (b1 + 7))]) (rest := []) hO (c_X7_copyRow l w hB2.2.2.2.2.2.2.2.2.2.2.2.2.2.2.1 hB2.2.2.2.2.2.2.2.2.2.2.2.2.2.2.2.1 hB1.2.2.2.2.2.2.2.2.2.2.2.2.2.2.1 hB1.2.2.2.2.2.2.2.2.2.2.2.2.2.2.2.1 (by decide)) hz_cal_X7_copyRow tw_3_156 (Nat.le_of_ble_eq_true rfl) rfl rfl (Nat.le_of_ble_eq_true rfl) dX7_copyFrom_122 ?_
  refine hz_nameM h_M13 ?_
  refine hz_aload_n hO dX7_copyFrom_125 rfl 1 rfl ?_
  refine hz_getR (k := 8) hO (b2 + 8) hz_K_5 hB2.1 hB2.2.1 rfl (Nat.le_of_ble_eq_true rfl) tw_1_177 rfl dX7_copyFrom_126 ?_
  refine hz_aload_n hO dX7_copyFrom_129 rfl 0 rfl ?_
  refine hz_getR (k := 8) hO (b1 + 8) hz_K_5 hB1.1 hB1.2.1 rfl (Nat.le_of_ble_eq_true rfl) tw_1_177 rfl dX7_copyFrom_130 ?_
  obtain ⟨M14, h_M14, h⟩ := hz_lm_e h
  refine hz_callSv (as := [.ref (hz_ad w (b2 + 8)), .ref (hz_ad w (b1 + 8))]) (rest := []) hO (c_X7_copyRow l w hB2.2.2.2.2.2.2.2.2.2.2.2.2.2.2.2.2.1 hB2.2.2.2.2.2.2.2.2.2.2.2.2.2.2.2.2.2.1 hB1.2.2.2.2.2.2.2.2.2.2.2.2.2.2.2.2.1 hB1.2.2.2.2.2.2.2.2.2.2.2.2.2.2.2.2.2.1 (by decide)) hz_cal_X7_copyRow tw_3_156 (Nat.le_of_ble_eq_true rfl) rfl rfl (Nat.le_of_ble_eq_true rfl) dX7_copyFrom_133 ?_
  refine hz_nameM h_M14 ?_
  refine hz_aload_n hO dX7_copyFrom_136 rfl 1 rfl ?_
  refine hz_getR (k := 9) hO (b2 + 9) hz_K_5 hB2.1 hB2.2.1 rfl (Nat.le_of_ble_eq_true rfl) tw_1_180 rfl dX7_copyFrom_137 ?_
  refine hz_aload_n hO dX7_copyFrom_140 rfl 0 rfl ?_
  refine hz_getR (k := 9) hO (b1 + 9) hz_K_5 hB1.1 hB1.2.1 rfl (Nat.le_of_ble_eq_true rfl) tw_1_180 rfl dX7_copyFrom_141 ?_
  obtain ⟨M15, h_M15, h⟩ := hz_lm_e h
  refine hz_callSv (as := [.ref (hz_ad w (b2 + 9)), .ref (hz_ad w (b1 + 9))]) (rest := []) hO (c_X7_copyRow l w hB2.2.2.2.2.2.2.2.2.2.2.2.2.2.2.2.2.2.2.1 hB2.2.2.2.2.2.2.2.2.2.2.2.2.2.2.2.2.2.2.2.1 hB1.2.2.2.2.2.2.2.2.2.2.2.2.2.2.2.2.2.2.1 hB1.2.2.2.2.2.2.2.2.2.2.2.2.2.2.2.2.2.2.2.1 (by decide)) hz_cal_X7_copyRow tw_3_156 (Nat.le_of_ble_eq_true rfl) rfl rfl (Nat.le_of_ble_eq_true rfl) dX7_copyFrom_144 ?_
  refine hz_nameM h_M15 ?_
  refine hz_aload_n hO dX7_copyFrom_147 rfl 1 rfl ?_
  refine hz_getR (k := 10) hO (b2 + 10) hz_K_5 hB2.1 hB2.2.1 rfl (Nat.le_of_ble_eq_true rfl) tw_1_183 rfl dX7_copyFrom_148 ?_
  refine hz_aload_n hO dX7_copyFrom_151 rfl 0 rfl ?_
  refine hz_getR (k := 10) hO (b1 + 10) hz_K_5 hB1.1 hB1.2.1 rfl (Nat.le_of_ble_eq_true rfl) tw_1_183 rfl dX7_copyFrom_152 ?_
  obtain ⟨M16, h_M16, h⟩ := hz_lm_e h
  refine hz_callSv (as := [.ref (hz_ad w (b2 + 10)), .ref (hz_ad w (b1 + 10))]) (rest := []) hO (c_X7_copyRow l w hB2.2.2.2.2.2.2.2.2.2.2.2.2.2.2.2.2.2.2.2.2.1 hB2.2.2.2.2.2.2.2.2.2.2.2.2.2.2.2.2.2.2.2.2.2.1 hB1.2.2.2.2.2.2.2.2.2.2.2.2.2.2.2.2.2.2.2.2.1 hB1.2.2.2.2.2.2.2.2.2.2.2.2.2.2.2.2.2.2.2.2.2.1 (by decide)) hz_cal_X7_copyRow tw_3_156 (Nat.le_of_ble_eq_true rfl) rfl rfl (Nat.le_of_ble_eq_true rfl) dX7_copyFrom_155 ?_
  refine hz_nameM h_M16 ?_
  refine hz_aload_n hO dX7_copyFrom_158 rfl 1 rfl ?_
  refine hz_getR (k := 11) hO (b2 + 11) hz_K_5 hB2.1 hB2.2.1 rfl (Nat.le_of_ble_eq_true rfl) tw_1_185 rfl dX7_copyFrom_159 ?_
  refine hz_aload_n hO dX7_copyFrom_162 rfl 0 rfl ?_
  refine hz_getR (k := 11) hO (b1 + 11) hz_K_5 hB1.1 hB1.2.1 rfl (Nat.le_of_ble_eq_true rfl) tw_1_185 rfl dX7_copyFrom_163 ?_
  obtain ⟨M17, h_M17, h⟩ := hz_lm_e h
  refine hz_callSv (as := [.ref (hz_ad w (b2 + 11)), .ref (hz_ad w (b1 + 11))]) (rest := []) hO (c_X7_copyRow l w hB2.2.2.2.2.2.2.2.2.2.2.2.2.2.2.2.2.2.2.2.2.2.2.1 hB2.2.2.2.2.2.2.2.2.2.2.2.2.2.2.2.2.2.2.2.2.2.2.2.1 hB1.2.2.2.2.2.2.2.2.2.2.2.2.2.2.2.2.2.2.2.2.2.2.1 hB1.2.2.2.2.2.2.2.2.2.2.2.2.2.2.2.2.2.2.2.2.2.2.2.1 (by decide)) hz_cal_X7_copyRow tw_3_156 (Nat.le_of_ble_eq_true rfl) rfl rfl (Nat.le_of_ble_eq_true rfl) dX7_copyFrom_166 ?_
  refine hz_nameM h_M17 ?_
  refine hz_aload_n hO dX7_copyFrom_169 rfl 1 rfl ?_
  refine hz_getR (k := 12) hO (b2 + 12) hz_K_5 hB2.1 hB2.2.1 rfl (Nat.le_of_ble_eq_true rfl) tw_1_188 rfl dX7_copyFrom_170 ?_
  refine hz_aload_n hO dX7_copyFrom_173 rfl 0 rfl ?_
  refine hz_getR (k := 12) hO (b1 + 12) hz_K_5 hB1.1 hB1.2.1 rfl (Nat.le_of_ble_eq_true rfl) tw_1_188 rfl dX7_copyFrom_174 ?_
  obtain ⟨M18, h_M18, h⟩ := hz_lm_e h
  refine hz_callSv (as := [.ref (hz_ad w (b2 + 12)), .ref (hz_ad w (b1 + 12))]) (rest := []) hO (c_X7_copyRow l w hB2.2.2.2.2.2.2.2.2.2.2.2.2.2.2.2.2.2.2.2.2.2.2.2.2.1 hB2.2.2.2.2.2.2.2.2.2.2.2.2.2.2.2.2.2.2.2.2.2.2.2.2.2.1 hB1.2.2.2.2.2.2.2.2.2.2.2.2.2.2.2.2.2.2.2.2.2.2.2.2.1 hB1.2.2.2.2.2.2.2.2.2.2.2.2.2.2.2.2.2.2.2.2.2.2.2.2.2.1 (by decide)) hz_cal_X7_copyRow tw_3_156 (Nat.le_of_ble_eq_true rfl) rfl rfl (Nat.le_of_ble_eq_true rfl) dX7_copyFrom_177 ?_
  refine hz_nameM h_M18 ?_
  refine hz_aload_n hO dX7_copyFrom_180 rfl 1 rfl ?_
  refine hz_getR (k := 13) hO (b2 + 13) hz_K_5 hB2.1 hB2.2.1 rfl (Nat.le_of_ble_eq_true rfl) tw_1_193 rfl dX7_copyFrom_181 ?_
  refine hz_aload_n hO dX7_copyFrom_184 rfl 0 rfl ?_
  refine hz_getR (k := 13) hO (b1 + 13) hz_K_5 hB1.1 hB1.2.1 rfl (Nat.le_of_ble_eq_true rfl) tw_1_193 rfl dX7_copyFrom_185 ?_
  obtain ⟨M19, h_M19, h⟩ := hz_lm_e h
  refine hz_callSv (as := [.ref (hz_ad w (b2 + 13)), .ref (hz_ad w (b1 + 13))]) (rest := []) hO (c_X7_copyRow l w hB2.2.2.2.2.2.2.2.2.2.2.2.2.2.2.2.2.2.2.2.2.2.2.2.2.2.2.1 hB2.2.2.2.2.2.2.2.2.2.2.2.2.2.2.2.2.2.2.2.2.2.2.2.2.2.2.2 hB1.2.2.2.2.2.2.2.2.2.2.2.2.2.2.2.2.2.2.2.2.2.2.2.2.2.2.1 hB1.2.2.2.2.2.2.2.2.2.2.2.2.2.2.2.2.2.2.2.2.2.2.2.2.2.2.2 (by decide)) hz_cal_X7_copyRow tw_3_156 (Nat.le_of_ble_eq_true rfl) rfl rfl (Nat.le_of_ble_eq_true rfl) dX7_copyFrom_188 ?_
  refine hz_nameM h_M19 ?_
  exact hz_nameM (hz_some_e h).2.symm (hz_vret hO dX7_copyFrom_191)
def f_X8_isWord_L28 : Nat → Nat → Int32 → hz_M → hz_O
  | 0, _, _, _ => none
  | n + 1, v1_4, v2_5, M6 =>
    hz_gd (hz_sok v1_4) <|
    if (hz_sl v1_4) ≤ v2_5 then
      some ((1 : Int32), M6)
    else
      hz_ct (f_X8_byteAt ((M6 9 3) + v2_5) M6) fun r9 M10 =>
      hz_gd (hz_sok v1_4) <|
      hz_gd (hz_in v2_5 (hz_len.getD v1_4 0)) <|
      if r9 = (hz_cc v1_4 v2_5) then
        hz_lt (v2_5 + (1 : Int32)) fun x15 =>
        f_X8_isWord_L28 n v1_4 x15 M10
      else
        some ((0 : Int32), M10)
def f_X8_isWord (a1 : Nat) (M : hz_M) : hz_O :=
  if (M 9 2) = (1 : Int32) then
    hz_gd (hz_sok a1) <|
    if ((M 9 4) - (M 9 3)) = (hz_sl a1) then
      f_X8_isWord_L28 hz_FU a1 (0 : Int32) M
    else
      some ((0 : Int32), M)
  else
    some ((0 : Int32), M)
set_option maxRecDepth 100000 in
set_option maxHeartbeats 4000000 in
theorem g_X8_isWord_L28 {p : Program} {l : Launch} {e : Env} {s : State} {m : MethodId} {args : Array Value} {below : List Frame} {meth : Method} {c : Code} {w : hz_C} {N : Nat} (hN : 178 ≤ N) {rE : Int32} {ME : hz_M} (hO : hz_Ok p s m args meth c w cX8_isWord 3 RX8 (some .boolean)) : ∀ (n : Nat) (v1_4 : Nat) (v2_5 : Int32) (M6 : hz_M), f_X8_isWord_L28 n v1_4 v2_5 M6 = some (rE, ME) → hz_G p l e 8 hz_z0 s m args below meth c w N 3 (MQ below (hz_Qi w N rE ME) args s 0 0 (hz_A w)) M6 28 [(0, .ref (hz_ad w 9)), (1, .ref (hz_sa w v1_4)), (2, .int v2_5)] [] := by
  intro n
  induction n with
  | zero =>
    intro v1_4 v2_5 M6 h
    rw [f_X8_isWord_L28] at h
    cases h
  | succ n ih =>
    intro v1_4 v2_5 M6 h
    rw [f_X8_isWord_L28] at h
    refine hz_iload_n hO dX8_isWord_28 rfl 2 rfl ?_
    refine hz_aload_n hO dX8_isWord_29 rfl 1 rfl ?_
    obtain ⟨hg7, h⟩ := hz_gd_e h
    refine hz_callTi (as := []) (rest := [.int v2_5]) hO (c_J0_length_8abf5 l w (hz_sok_e hg7)) hz_cal_J0_length_8abf5 (hz_sok_e hg7) tw_2_130 (Nat.le_of_ble_eq_true rfl) rfl rfl (Nat.le_of_ble_eq_true rfl) dX8_isWord_30 ?_
    refine hz_icmp_ge (tgt := 62) hO dX8_isWord_33 (by decide) (fun hc8 => ?_) (fun hc8 => ?_)
    · rw [if_pos hc8] at h
      refine hz_iconst (v := (1 : Int32)) hO dX8_isWord_62 (by decide) ?_
      exact hz_nameM (hz_some_e h).2.symm (hz_name (hz_some_e h).1.symm (hz_zret hO (by rw [← (hz_some_e h).1]; decide) dX8_isWord_63))
    · rw [if_neg hc8] at h
      refine hz_aload_n hO dX8_isWord_36 rfl 0 rfl ?_
      refine hz_aload_n hO dX8_isWord_37 rfl 0 rfl ?_
      refine hz_getI (k := 3) hO hz_K_6 hz_sh_9 (hz_lt_9 hN) rfl (Nat.le_of_ble_eq_true rfl) tw_1_117 rfl dX8_isWord_38 ?_
      refine hz_iload_n hO dX8_isWord_41 rfl 2 rfl ?_
      refine hz_iadd hO dX8_isWord_42 ?_
      obtain ⟨r9, M10, hq11, h⟩ := hz_ct_e h
      refine hz_callVi (as := [.int ((M6 9 3) + v2_5)]) (rest := []) hO (c_X8_byteAt l w hN ((M6 9 3) + v2_5) hq11) hz_cal_X8_byteAt hz_K_6 hz_sh_9 (hz_lt_9 hN) tw_2_194 (Nat.le_of_ble_eq_true rfl) rfl rfl (Nat.le_of_ble_eq_true rfl) dX8_isWord_43 ?_
      refine hz_aload_n hO dX8_isWord_46 rfl 1 rfl ?_
      refine hz_iload_n hO dX8_isWord_47 rfl 2 rfl ?_
      obtain ⟨hg12, h⟩ := hz_gd_e h
      obtain ⟨hg13, h⟩ := hz_gd_e h
      refine hz_callTi (as := [.int v2_5]) (rest := [.int r9]) hO (c_J0_charAt_5068e l w (hz_sok_e hg12) hg13) hz_cal_J0_charAt_5068e (hz_sok_e hg12) tw_2_140 (Nat.le_of_ble_eq_true rfl) rfl rfl (Nat.le_of_ble_eq_true rfl) dX8_isWord_48 ?_
      refine hz_icmp_eq (tgt := 56) hO dX8_isWord_51 (by decide) (fun hc14 => ?_) (fun hc14 => ?_)
      · rw [if_pos hc14] at h
        obtain ⟨x15, h_x15, h⟩ := hz_lt_e h
        refine hz_iinc (k := 2) (v := x15) (ls1 := [(2, .int x15), (0, .ref (hz_ad w 9)), (1, .ref (hz_sa w v1_4))]) hO dX8_isWord_56 rfl (by rw [h_x15]; rfl) (Nat.le_of_ble_eq_true rfl) rfl ?_
        refine hz_goto (tgt := 28) hO dX8_isWord_59 (by decide) ?_
        exact hz_ls [1, 2, 0] rfl (ih v1_4 x15 M10 h)
      · rw [if_neg hc14] at h
        refine hz_iconst (v := (0 : Int32)) hO dX8_isWord_54 (by decide) ?_
        exact hz_nameM (hz_some_e h).2.symm (hz_name (hz_some_e h).1.symm (hz_zret hO (by rw [← (hz_some_e h).1]; decide) dX8_isWord_55))
set_option maxRecDepth 100000 in
set_option maxHeartbeats 4000000 in
theorem c_X8_isWord (l : Launch) (w : hz_C) {N : Nat} (hN : 178 ≤ N) (a1 : Nat) {M : hz_M} {rE : Int32} {ME : hz_M} (h : f_X8_isWord a1 M = some (rE, ME)) : hz_Ct l yX8_isWord cX8_isWord 3 (some .boolean) 8 w N [.ref (hz_ad w 9), .ref (hz_sa w a1)] M (hz_Qi w N rE ME) := by
  refine hz_ofW (by decide) rfl (Nat.le_of_ble_eq_true rfl) tw_2_221 ?_
  intro p e s m args below meth c hO
  show hz_G p l e 8 hz_z0 s m args below meth c w N 3 _ M 0 [(0, .ref (hz_ad w 9)), (1, .ref (hz_sa w a1))] []
  unfold f_X8_isWord at h
  refine hz_aload_n hO dX8_isWord_0 rfl 0 rfl ?_
  refine hz_getI (k := 2) hO hz_K_6 hz_sh_9 (hz_lt_9 hN) rfl (Nat.le_of_ble_eq_true rfl) tw_1_114 rfl dX8_isWord_1 ?_
  refine hz_iconst (v := (1 : Int32)) hO dX8_isWord_4 (by decide) ?_
  refine hz_icmp_ne (tgt := 24) hO dX8_isWord_5 (by decide) (fun hc1 => ?_) (fun hc1 => ?_)
  · rw [if_neg hc1] at h
    refine hz_iconst (v := (0 : Int32)) hO dX8_isWord_24 (by decide) ?_
    exact hz_nameM (hz_some_e h).2.symm (hz_name (hz_some_e h).1.symm (hz_zret hO (by rw [← (hz_some_e h).1]; decide) dX8_isWord_25))
  · rw [if_pos hc1] at h
    refine hz_aload_n hO dX8_isWord_8 rfl 0 rfl ?_
    refine hz_getI (k := 4) hO hz_K_6 hz_sh_9 (hz_lt_9 hN) rfl (Nat.le_of_ble_eq_true rfl) tw_1_120 rfl dX8_isWord_9 ?_
    refine hz_aload_n hO dX8_isWord_12 rfl 0 rfl ?_
    refine hz_getI (k := 3) hO hz_K_6 hz_sh_9 (hz_lt_9 hN) rfl (Nat.le_of_ble_eq_true rfl) tw_1_117 rfl dX8_isWord_13 ?_
    refine hz_isub hO dX8_isWord_16 ?_
    refine hz_aload_n hO dX8_isWord_17 rfl 1 rfl ?_
    obtain ⟨hg2, h⟩ := hz_gd_e h
    refine hz_callTi (as := []) (rest := [.int ((M 9 4) - (M 9 3))]) hO (c_J0_length_8abf5 l w (hz_sok_e hg2)) hz_cal_J0_length_8abf5 (hz_sok_e hg2) tw_2_130 (Nat.le_of_ble_eq_true rfl) rfl rfl (Nat.le_of_ble_eq_true rfl) dX8_isWord_18 ?_
    refine hz_icmp_eq (tgt := 26) hO dX8_isWord_21 (by decide) (fun hc3 => ?_) (fun hc3 => ?_)
    · rw [if_pos hc3] at h
      refine hz_iconst (v := (0 : Int32)) hO dX8_isWord_26 (by decide) ?_
      refine hz_istore_n (ls1 := [(2, .int (0 : Int32)), (0, .ref (hz_ad w 9)), (1, .ref (hz_sa w a1))]) hO dX8_isWord_27 rfl (Nat.le_of_ble_eq_true rfl) rfl ?_
      exact hz_ls [1, 2, 0] rfl (g_X8_isWord_L28 hN hO _ a1 (0 : Int32) M h)
    · rw [if_neg hc3] at h
      refine hz_iconst (v := (0 : Int32)) hO dX8_isWord_24 (by decide) ?_
      exact hz_nameM (hz_some_e h).2.symm (hz_name (hz_some_e h).1.symm (hz_zret hO (by rw [← (hz_some_e h).1]; decide) dX8_isWord_25))
def f_X1_isThere (a1 : Int32) (a2 : Int32) (a3 : Int32) (M : hz_M) : hz_O :=
  hz_gd (hz_vo a1) <|
  if a1 = (9 : Int32) then
    hz_ct (f_X3_isValve a2 M) fun r32 M33 =>
    hz_gd (hz_bt r32) <|
    some (r32, M33)
  else
    hz_gd (hz_nn a1) <|
    hz_jn (fun (v1_4 : Int32) (v3_5 : Int32) (M6 : hz_M) =>
      hz_gd (hz_vo v1_4) <|
      if v1_4 = (2 : Int32) then
        hz_ct (f_X3_isStep v3_5 M6) fun r22 M23 =>
        hz_gd (hz_bt r22) <|
        some (r22, M23)
      else
        hz_jn (fun  (M9 : hz_M) =>
          some ((1 : Int32), M9)
          ) fun k10 =>
        hz_jn (fun (v3_11 : Int32) (M12 : hz_M) =>
          hz_ct (f_X3_isPeg v3_11 M12) fun r13 M14 =>
          if r13 = 0 then
            some ((0 : Int32), M14)
          else
            k10 M14
          ) fun k17 =>
        hz_gd (hz_vo v1_4) <|
        if v1_4 = (4 : Int32) then
          k17 v3_5 M6
        else
          hz_gd (hz_vo v1_4) <|
          if v1_4 = (5 : Int32) then
            k17 v3_5 M6
          else
            k10 M6
      ) fun k26 =>
    if (hz_eF 1 a1) = 0 then
      k26 a1 a3 M
    else
      hz_ct (f_X3_isGuest a2 M) fun r28 M29 =>
      if r28 = 0 then
        some ((0 : Int32), M29)
      else
        k26 a1 a3 M29
set_option maxRecDepth 100000 in
set_option maxHeartbeats 4000000 in
theorem c_X1_isThere (l : Launch) (w : hz_C) {N : Nat} (hN : 178 ≤ N) (a1 : Int32) (a2 : Int32) (a3 : Int32) {M : hz_M} {rE : Int32} {ME : hz_M} (h : f_X1_isThere a1 a2 a3 M = some (rE, ME)) : hz_Ct l yX1_isThere cX1_isThere 4 (some .boolean) 1 w N [.ref (hz_ad w 26), hz_ev w a1, .int a2, .int a3] M (hz_Qi w N rE ME) := by
  refine hz_ofW (by decide) rfl (by simp [lg_sl, hz_ev_cat, hz_cr, hz_ci]) tw_3_178 ?_
  intro p e s m args below meth c hO
  rw [show lv_args 0 [.ref (hz_ad w 26), hz_ev w a1, .int a2, .int a3] = [(0, .ref (hz_ad w 26)), (1, hz_ev w a1), (2, .int a2), (3, .int a3)] from by simp [lv_args, hz_ev_cat, hz_cr, hz_ci]]
  show hz_G p l e 1 hz_z0 s m args below meth c w N 4 _ M 0 [(0, .ref (hz_ad w 26)), (1, hz_ev w a1), (2, .int a2), (3, .int a3)] []
  unfold f_X1_isThere at h
  refine hz_aload_nE hO dX1_isThere_0 rfl 1 rfl ?_
  refine hz_getsE (k := 8) (x := (9 : Int32)) hO (by decide) rfl (by decide) tw_3_179 rfl dX1_isThere_1 ?_
  obtain ⟨hg1, h⟩ := hz_gd_e h
  refine hz_acmp_ne (tgt := 16) hO dX1_isThere_4 hg1 (by decide) (by decide) (fun hc2 => ?_) (fun hc2 => ?_)
  · rw [if_neg hc2] at h
    refine hz_aload_nE hO dX1_isThere_16 rfl 1 rfl ?_
    obtain ⟨hg3, h⟩ := hz_gd_e h
    refine hz_getE (j := 1) hO hg3 rfl tw_9_92 rfl dX1_isThere_17 ?_
    obtain ⟨k26, hk26, h⟩ := hz_jn_e h
    have gk26 : ∀ (v1_4 : Int32) (v3_5 : Int32) (M6 : hz_M), k26 v1_4 v3_5 M6 = some (rE, ME) → hz_G p l e 1 hz_z0 s m args below meth c w N 4 (MQ below (hz_Qi w N rE ME) args s 0 0 (hz_A w)) M6 36 [(0, .ref (hz_ad w 26)), (1, hz_ev w v1_4), (3, .int v3_5)] [] := by
      intro v1_4 v3_5 M6 h
      rw [hk26] at h
      dsimp only at h
      refine hz_aload_nE hO dX1_isThere_36 rfl 1 rfl ?_
      refine hz_getsE (k := 1) (x := (2 : Int32)) hO (by decide) rfl (by decide) tw_3_188 rfl dX1_isThere_37 ?_
      obtain ⟨hg7, h⟩ := hz_gd_e h
      refine hz_acmp_ne (tgt := 52) hO dX1_isThere_40 hg7 (by decide) (by decide) (fun hc8 => ?_) (fun hc8 => ?_)
      · rw [if_neg hc8] at h
        refine hz_aload_nE hO dX1_isThere_52 rfl 1 rfl ?_
        refine hz_getsE (k := 3) (x := (4 : Int32)) hO (by decide) rfl (by decide) tw_3_194 rfl dX1_isThere_53 ?_
        obtain ⟨k10, hk10, h⟩ := hz_jn_e h
        have gk10 : ∀  (M9 : hz_M), k10 M9 = some (rE, ME) → hz_G p l e 1 hz_z0 s m args below meth c w N 4 (MQ below (hz_Qi w N rE ME) args s 0 0 (hz_A w)) M9 77 [] [] := by
          intro M9 h
          rw [hk10] at h
          dsimp only at h
          refine hz_iconst (v := (1 : Int32)) hO dX1_isThere_77 (by decide) ?_
          refine hz_goto (tgt := 82) hO dX1_isThere_78 (by decide) ?_
          exact hz_nameM (hz_some_e h).2.symm (hz_name (hz_some_e h).1.symm (hz_zret hO (by rw [← (hz_some_e h).1]; decide) dX1_isThere_82))
        clear hk10
        obtain ⟨k17, hk17, h⟩ := hz_jn_e h
        have gk17 : ∀ (v3_11 : Int32) (M12 : hz_M), k17 v3_11 M12 = some (rE, ME) → hz_G p l e 1 hz_z0 s m args below meth c w N 4 (MQ below (hz_Qi w N rE ME) args s 0 0 (hz_A w)) M12 66 [(0, .ref (hz_ad w 26)), (3, .int v3_11)] [] := by
          intro v3_11 M12 h
          rw [hk17] at h
          dsimp only at h
          refine hz_aload_n hO dX1_isThere_66 rfl 0 rfl ?_
          refine hz_getR (k := 0) hO 1 hz_K_0 hz_sh_26 (hz_lt_26 hN) rfl (Nat.le_of_ble_eq_true rfl) tw_2_29 rfl dX1_isThere_67 ?_
          refine hz_iload_n hO dX1_isThere_70 rfl 1 rfl ?_
          obtain ⟨r13, M14, hq15, h⟩ := hz_ct_e h
          refine hz_callVi (as := [.int v3_11]) (rest := []) hO (c_X3_isPeg l w hN v3_11 hq15) hz_cal_X3_isPeg hz_K_2 hz_sh_1 (hz_lt_1 hN) tw_3_198 (Nat.le_of_ble_eq_true rfl) rfl rfl (Nat.le_of_ble_eq_true rfl) dX1_isThere_71 ?_
          refine hz_if_eq (tgt := 81) hO dX1_isThere_74 (by decide) (fun hc16 => ?_) (fun hc16 => ?_)
          · rw [if_pos hc16] at h
            refine hz_iconst (v := (0 : Int32)) hO dX1_isThere_81 (by decide) ?_
            exact hz_nameM (hz_some_e h).2.symm (hz_name (hz_some_e h).1.symm (hz_zret hO (by rw [← (hz_some_e h).1]; decide) dX1_isThere_82))
          · rw [if_neg hc16] at h
            exact hz_ls [] rfl (gk10 M14 h)
        clear hk17
        obtain ⟨hg18, h⟩ := hz_gd_e h
        refine hz_acmp_eq (tgt := 66) hO dX1_isThere_56 hg18 (by decide) (by decide) (fun hc19 => ?_) (fun hc19 => ?_)
        · rw [if_pos hc19] at h
          exact hz_ls [0, 2] rfl (gk17 v3_5 M6 h)
        · rw [if_neg hc19] at h
          refine hz_aload_nE hO dX1_isThere_59 rfl 1 rfl ?_
          refine hz_getsE (k := 4) (x := (5 : Int32)) hO (by decide) rfl (by decide) tw_3_196 rfl dX1_isThere_60 ?_
          obtain ⟨hg20, h⟩ := hz_gd_e h
          refine hz_acmp_ne (tgt := 77) hO dX1_isThere_63 hg20 (by decide) (by decide) (fun hc21 => ?_) (fun hc21 => ?_)
          · rw [if_neg hc21] at h
            exact hz_ls [] rfl (gk10 M6 h)
          · rw [if_pos hc21] at h
            exact hz_ls [0, 2] rfl (gk17 v3_5 M6 h)
      · rw [if_pos hc8] at h
        refine hz_aload_n hO dX1_isThere_43 rfl 0 rfl ?_
        refine hz_getR (k := 0) hO 1 hz_K_0 hz_sh_26 (hz_lt_26 hN) rfl (Nat.le_of_ble_eq_true rfl) tw_2_29 rfl dX1_isThere_44 ?_
        refine hz_iload_n hO dX1_isThere_47 rfl 2 rfl ?_
        obtain ⟨r22, M23, hq24, h⟩ := hz_ct_e h
        refine hz_callVi (as := [.int v3_5]) (rest := []) hO (c_X3_isStep l w hN v3_5 hq24) hz_cal_X3_isStep hz_K_2 hz_sh_1 (hz_lt_1 hN) tw_3_190 (Nat.le_of_ble_eq_true rfl) rfl rfl (Nat.le_of_ble_eq_true rfl) dX1_isThere_48 ?_
        obtain ⟨hg25, h⟩ := hz_gd_e h
        exact hz_nameM (hz_some_e h).2.symm (hz_name (hz_some_e h).1.symm (hz_zret hO (by rw [← (hz_some_e h).1]; exact hg25) dX1_isThere_51))
    clear hk26
    refine hz_if_eq (tgt := 36) hO dX1_isThere_20 (by decide) (fun hc27 => ?_) (fun hc27 => ?_)
    · rw [if_pos hc27] at h
      exact hz_ls [0, 1, 3] rfl (gk26 a1 a3 M h)
    · rw [if_neg hc27] at h
      refine hz_aload_n hO dX1_isThere_23 rfl 0 rfl ?_
      refine hz_getR (k := 0) hO 1 hz_K_0 hz_sh_26 (hz_lt_26 hN) rfl (Nat.le_of_ble_eq_true rfl) tw_2_29 rfl dX1_isThere_24 ?_
      refine hz_iload_n hO dX1_isThere_27 rfl 2 rfl ?_
      obtain ⟨r28, M29, hq30, h⟩ := hz_ct_e h
      refine hz_callVi (as := [.int a2]) (rest := []) hO (c_X3_isGuest l w hN a2 hq30) hz_cal_X3_isGuest hz_K_2 hz_sh_1 (hz_lt_1 hN) tw_3_184 (Nat.le_of_ble_eq_true rfl) rfl rfl (Nat.le_of_ble_eq_true rfl) dX1_isThere_28 ?_
      refine hz_if_ne (tgt := 36) hO dX1_isThere_31 (by decide) (fun hc31 => ?_) (fun hc31 => ?_)
      · rw [if_neg hc31] at h
        exact hz_ls [0, 1, 3] rfl (gk26 a1 a3 M29 h)
      · rw [if_pos hc31] at h
        refine hz_iconst (v := (0 : Int32)) hO dX1_isThere_34 (by decide) ?_
        exact hz_nameM (hz_some_e h).2.symm (hz_name (hz_some_e h).1.symm (hz_zret hO (by rw [← (hz_some_e h).1]; decide) dX1_isThere_35))
  · rw [if_pos hc2] at h
    refine hz_aload_n hO dX1_isThere_7 rfl 0 rfl ?_
    refine hz_getR (k := 0) hO 1 hz_K_0 hz_sh_26 (hz_lt_26 hN) rfl (Nat.le_of_ble_eq_true rfl) tw_2_29 rfl dX1_isThere_8 ?_
    refine hz_iload_n hO dX1_isThere_11 rfl 2 rfl ?_
    obtain ⟨r32, M33, hq34, h⟩ := hz_ct_e h
    refine hz_callVi (as := [.int a2]) (rest := []) hO (c_X3_isValve l w hN a2 hq34) hz_cal_X3_isValve hz_K_2 hz_sh_1 (hz_lt_1 hN) tw_3_180 (Nat.le_of_ble_eq_true rfl) rfl rfl (Nat.le_of_ble_eq_true rfl) dX1_isThere_12 ?_
    obtain ⟨hg35, h⟩ := hz_gd_e h
    exact hz_nameM (hz_some_e h).2.symm (hz_name (hz_some_e h).1.symm (hz_zret hO (by rw [← (hz_some_e h).1]; exact hg35) dX1_isThere_15))
def f_X2_record (M : hz_M) : hz_O :=
  hz_jn (fun (q1 : Int32) (M2 : hz_M) =>
    hz_lm (hz_set M2 32 3 q1) fun M3 =>
    hz_gd (hz_in (M3 32 3) 8) <|
    hz_ct (f_X7_copyFrom (hz_pa (M3 32 3)) 11 M3) fun r6 M7 =>
    hz_lm (hz_set M7 32 4 (if ((M7 32 4) + (1 : Int32)) < (8 : Int32) then ((M7 32 4) + (1 : Int32)) else (8 : Int32))) fun M9 =>
    some (0, M9)
    ) fun k10 =>
  if (8 : Int32) ≤ ((M 32 3) + (1 : Int32)) then
    k10 (0 : Int32) M
  else
    k10 ((M 32 3) + (1 : Int32)) M
set_option maxRecDepth 100000 in
set_option maxHeartbeats 4000000 in
theorem c_X2_record (l : Launch) (w : hz_C) {N : Nat} (hN : 178 ≤ N) {M : hz_M} {rE : Int32} {ME : hz_M} (h : f_X2_record M = some (rE, ME)) : hz_Ct l yX2_record cX2_record 3 none 4 w N [.ref (hz_ad w 32), .ref (hz_ad w 11)] M (hz_Qv w N ME) := by
  refine hz_ofW (by decide) rfl (Nat.le_of_ble_eq_true rfl) tw_3_151 ?_
  intro p e s m args below meth c hO
  show hz_G p l e 4 hz_z0 s m args below meth c w N 3 _ M 0 [(0, .ref (hz_ad w 32)), (1, .ref (hz_ad w 11))] []
  unfold f_X2_record at h
  refine hz_aload_n hO dX2_record_0 rfl 0 rfl ?_
  refine hz_aload_n hO dX2_record_1 rfl 0 rfl ?_
  refine hz_getI (k := 3) hO hz_K_1 hz_sh_32 (hz_lt_32 hN) rfl (Nat.le_of_ble_eq_true rfl) tw_2_93 rfl dX2_record_2 ?_
  refine hz_iconst (v := (1 : Int32)) hO dX2_record_5 (by decide) ?_
  refine hz_iadd hO dX2_record_6 ?_
  refine hz_bipush (v := (8 : Int32)) hO dX2_record_7 (by decide) ?_
  obtain ⟨k10, hk10, h⟩ := hz_jn_e h
  have gk10 : ∀ (q1 : Int32) (M2 : hz_M), k10 q1 M2 = some (rE, ME) → hz_G p l e 4 hz_z0 s m args below meth c w N 3 (MQ below (hz_Qv w N ME) args s 0 0 (hz_A w)) M2 22 [(0, .ref (hz_ad w 32)), (1, .ref (hz_ad w 11))] [.int q1, .ref (hz_ad w 32)] := by
    intro q1 M2 h
    rw [hk10] at h
    dsimp only at h
    obtain ⟨M3, h_M3, h⟩ := hz_lm_e h
    refine hz_putI (k := 3) (ty := .int) hO hz_K_1 tyX2_ok nmX2 hz_sh_32 (hz_lt_32 hN) rfl (Nat.le_of_ble_eq_true rfl) tw_2_93 rfl rfl rfl rfl rfl dX2_record_22 ?_
    refine hz_nameM h_M3 ?_
    refine hz_aload_n hO dX2_record_25 rfl 0 rfl ?_
    refine hz_getR (k := 0) hO 33 hz_K_1 hz_sh_32 (hz_lt_32 hN) rfl (Nat.le_of_ble_eq_true rfl) tw_2_90 rfl dX2_record_26 ?_
    refine hz_aload_n hO dX2_record_29 rfl 0 rfl ?_
    refine hz_getI (k := 3) hO hz_K_1 hz_sh_32 (hz_lt_32 hN) rfl (Nat.le_of_ble_eq_true rfl) tw_2_93 rfl dX2_record_30 ?_
    obtain ⟨hg4, h⟩ := hz_gd_e h
    have hB5 := hz_pa_sta hN hg4
    refine hz_raldq (j := hz_pa (M3 32 3)) hO hz_sh_33 (hz_lt_33 hN) hg4 (hz_pa_at hg4) dX2_record_33 ?_
    refine hz_astore_n (ls1 := [(2, .ref (hz_ad w (hz_pa (M3 32 3)))), (0, .ref (hz_ad w 32)), (1, .ref (hz_ad w 11))]) hO dX2_record_34 rfl (Nat.le_of_ble_eq_true rfl) rfl ?_
    refine hz_aload_n hO dX2_record_35 rfl 0 rfl ?_
    refine hz_ifnullP hO dX2_record_36 ?_
    refine hz_aload_n hO dX2_record_39 rfl 0 rfl ?_
    refine hz_aload_n hO dX2_record_40 rfl 2 rfl ?_
    obtain ⟨r6, M7, hq8, h⟩ := hz_ct_e h
    refine hz_callVv (as := [.ref (hz_ad w 11)]) (rest := []) hO (c_X7_copyFrom l w hN hB5 (hz_sta_11 hN) hq8) hz_cal_X7_copyFrom hz_K_5 hB5.1 hB5.2.1 tw_3_152 (Nat.le_of_ble_eq_true rfl) rfl rfl (Nat.le_of_ble_eq_true rfl) dX2_record_41 ?_
    refine hz_aload_n hO dX2_record_44 rfl 1 rfl ?_
    refine hz_bipush (v := (8 : Int32)) hO dX2_record_45 (by decide) ?_
    refine hz_aload_n hO dX2_record_47 rfl 1 rfl ?_
    refine hz_getI (k := 4) hO hz_K_1 hz_sh_32 (hz_lt_32 hN) rfl (Nat.le_of_ble_eq_true rfl) tw_2_94 rfl dX2_record_48 ?_
    refine hz_iconst (v := (1 : Int32)) hO dX2_record_51 (by decide) ?_
    refine hz_iadd hO dX2_record_52 ?_
    refine hz_mmin hO tw_3_161 (Nat.le_of_ble_eq_true rfl) (Nat.le_of_ble_eq_true rfl) dX2_record_53 ?_
    obtain ⟨M9, h_M9, h⟩ := hz_lm_e h
    refine hz_putI (k := 4) (ty := .int) hO hz_K_1 tyX2_ok nmX2 hz_sh_32 (hz_lt_32 hN) rfl (Nat.le_of_ble_eq_true rfl) tw_2_94 rfl rfl rfl rfl rfl dX2_record_56 ?_
    refine hz_nameM h_M9 ?_
    exact hz_nameM (hz_some_e h).2.symm (hz_vret hO dX2_record_59)
  clear hk10
  refine hz_icmp_ge (tgt := 21) hO dX2_record_9 (by decide) (fun hc11 => ?_) (fun hc11 => ?_)
  · rw [if_pos hc11] at h
    refine hz_iconst (v := (0 : Int32)) hO dX2_record_21 (by decide) ?_
    exact hz_ls [0, 1] rfl (gk10 (0 : Int32) M h)
  · rw [if_neg hc11] at h
    refine hz_aload_n hO dX2_record_12 rfl 0 rfl ?_
    refine hz_getI (k := 3) hO hz_K_1 hz_sh_32 (hz_lt_32 hN) rfl (Nat.le_of_ble_eq_true rfl) tw_2_93 rfl dX2_record_13 ?_
    refine hz_iconst (v := (1 : Int32)) hO dX2_record_16 (by decide) ?_
    refine hz_iadd hO dX2_record_17 ?_
    refine hz_goto (tgt := 22) hO dX2_record_18 (by decide) ?_
    exact hz_ls [0, 1] rfl (gk10 ((M 32 3) + (1 : Int32)) M h)
def f_X2_stepBack (M : hz_M) : hz_O :=
  hz_gd (hz_in (M 32 3) 8) <|
  if (M 32 4) = 0 then
    some ((-1 : Int32), M)
  else
    hz_ct (f_X7_copyFrom 11 (hz_pa (M 32 3)) M) fun r4 M5 =>
    hz_jn (fun (q7 : Int32) (M8 : hz_M) =>
      hz_lm (hz_set M8 32 3 q7) fun M9 =>
      hz_lm (hz_set M9 32 4 ((M9 32 4) - (1 : Int32))) fun M10 =>
      some ((M10 32 4), M10)
      ) fun k11 =>
    if (M5 32 3) ≤ 0 then
      k11 (7 : Int32) M5
    else
      k11 ((M5 32 3) - (1 : Int32)) M5
set_option maxRecDepth 100000 in
set_option maxHeartbeats 4000000 in
theorem c_X2_stepBack (l : Launch) (w : hz_C) {N : Nat} (hN : 178 ≤ N) {M : hz_M} {rE : Int32} {ME : hz_M} (h : f_X2_stepBack M = some (rE, ME)) : hz_Ct l yX2_stepBack cX2_stepBack 3 (some .int) 4 w N [.ref (hz_ad w 32), .ref (hz_ad w 11)] M (hz_Qi w N rE ME) := by
  refine hz_ofW (by decide) rfl (Nat.le_of_ble_eq_true rfl) tw_5_27 ?_
  intro p e s m args below meth c hO
  show hz_G p l e 4 hz_z0 s m args below meth c w N 3 _ M 0 [(0, .ref (hz_ad w 32)), (1, .ref (hz_ad w 11))] []
  unfold f_X2_stepBack at h
  refine hz_aload_n hO dX2_stepBack_0 rfl 0 rfl ?_
  refine hz_getR (k := 0) hO 33 hz_K_1 hz_sh_32 (hz_lt_32 hN) rfl (Nat.le_of_ble_eq_true rfl) tw_2_90 rfl dX2_stepBack_1 ?_
  refine hz_aload_n hO dX2_stepBack_4 rfl 0 rfl ?_
  refine hz_getI (k := 3) hO hz_K_1 hz_sh_32 (hz_lt_32 hN) rfl (Nat.le_of_ble_eq_true rfl) tw_2_93 rfl dX2_stepBack_5 ?_
  obtain ⟨hg1, h⟩ := hz_gd_e h
  have hB2 := hz_pa_sta hN hg1
  refine hz_raldq (j := hz_pa (M 32 3)) hO hz_sh_33 (hz_lt_33 hN) hg1 (hz_pa_at hg1) dX2_stepBack_8 ?_
  refine hz_astore_n (ls1 := [(2, .ref (hz_ad w (hz_pa (M 32 3)))), (0, .ref (hz_ad w 32)), (1, .ref (hz_ad w 11))]) hO dX2_stepBack_9 rfl (Nat.le_of_ble_eq_true rfl) rfl ?_
  refine hz_aload_n hO dX2_stepBack_10 rfl 1 rfl ?_
  refine hz_getI (k := 4) hO hz_K_1 hz_sh_32 (hz_lt_32 hN) rfl (Nat.le_of_ble_eq_true rfl) tw_2_94 rfl dX2_stepBack_11 ?_
  refine hz_if_eq (tgt := 21) hO dX2_stepBack_14 (by decide) (fun hc3 => ?_) (fun hc3 => ?_)
  · rw [if_pos hc3] at h
    refine hz_iconst (v := (-1 : Int32)) hO dX2_stepBack_21 (by decide) ?_
    exact hz_nameM (hz_some_e h).2.symm (hz_name (hz_some_e h).1.symm (hz_iret hO dX2_stepBack_22))
  · rw [if_neg hc3] at h
    refine hz_aload_n hO dX2_stepBack_17 rfl 0 rfl ?_
    refine hz_ifnonnullP (tgt := 23) hO dX2_stepBack_18 (by decide) ?_
    refine hz_aload_n hO dX2_stepBack_23 rfl 2 rfl ?_
    refine hz_aload_n hO dX2_stepBack_24 rfl 0 rfl ?_
    obtain ⟨r4, M5, hq6, h⟩ := hz_ct_e h
    refine hz_callVv (as := [.ref (hz_ad w (hz_pa (M 32 3)))]) (rest := []) hO (c_X7_copyFrom l w hN (hz_sta_11 hN) hB2 hq6) hz_cal_X7_copyFrom hz_K_5 hz_sh_11 (hz_lt_11 hN) tw_3_152 (Nat.le_of_ble_eq_true rfl) rfl rfl (Nat.le_of_ble_eq_true rfl) dX2_stepBack_25 ?_
    refine hz_aload_n hO dX2_stepBack_28 rfl 1 rfl ?_
    refine hz_aload_n hO dX2_stepBack_29 rfl 1 rfl ?_
    refine hz_getI (k := 3) hO hz_K_1 hz_sh_32 (hz_lt_32 hN) rfl (Nat.le_of_ble_eq_true rfl) tw_2_93 rfl dX2_stepBack_30 ?_
    obtain ⟨k11, hk11, h⟩ := hz_jn_e h
    have gk11 : ∀ (q7 : Int32) (M8 : hz_M), k11 q7 M8 = some (rE, ME) → hz_G p l e 4 hz_z0 s m args below meth c w N 3 (MQ below (hz_Qi w N rE ME) args s 0 0 (hz_A w)) M8 47 [(0, .ref (hz_ad w 32))] [.int q7, .ref (hz_ad w 32)] := by
      intro q7 M8 h
      rw [hk11] at h
      dsimp only at h
      obtain ⟨M9, h_M9, h⟩ := hz_lm_e h
      refine hz_putI (k := 3) (ty := .int) hO hz_K_1 tyX2_ok nmX2 hz_sh_32 (hz_lt_32 hN) rfl (Nat.le_of_ble_eq_true rfl) tw_2_93 rfl rfl rfl rfl rfl dX2_stepBack_47 ?_
      refine hz_nameM h_M9 ?_
      refine hz_aload_n hO dX2_stepBack_50 rfl 0 rfl ?_
      refine hz_dup hO dX2_stepBack_51 rfl ?_
      refine hz_getI (k := 4) hO hz_K_1 hz_sh_32 (hz_lt_32 hN) rfl (Nat.le_of_ble_eq_true rfl) tw_2_94 rfl dX2_stepBack_52 ?_
      refine hz_iconst (v := (1 : Int32)) hO dX2_stepBack_55 (by decide) ?_
      refine hz_isub hO dX2_stepBack_56 ?_
      obtain ⟨M10, h_M10, h⟩ := hz_lm_e h
      refine hz_putI (k := 4) (ty := .int) hO hz_K_1 tyX2_ok nmX2 hz_sh_32 (hz_lt_32 hN) rfl (Nat.le_of_ble_eq_true rfl) tw_2_94 rfl rfl rfl rfl rfl dX2_stepBack_57 ?_
      refine hz_nameM h_M10 ?_
      refine hz_aload_n hO dX2_stepBack_60 rfl 0 rfl ?_
      refine hz_getI (k := 4) hO hz_K_1 hz_sh_32 (hz_lt_32 hN) rfl (Nat.le_of_ble_eq_true rfl) tw_2_94 rfl dX2_stepBack_61 ?_
      exact hz_nameM (hz_some_e h).2.symm (hz_name (hz_some_e h).1.symm (hz_iret hO dX2_stepBack_64))
    clear hk11
    refine hz_if_le (tgt := 45) hO dX2_stepBack_33 (by decide) (fun hc12 => ?_) (fun hc12 => ?_)
    · rw [if_pos hc12] at h
      refine hz_bipush (v := (7 : Int32)) hO dX2_stepBack_45 (by decide) ?_
      exact hz_ls [1] rfl (gk11 (7 : Int32) M5 h)
    · rw [if_neg hc12] at h
      refine hz_aload_n hO dX2_stepBack_36 rfl 1 rfl ?_
      refine hz_getI (k := 3) hO hz_K_1 hz_sh_32 (hz_lt_32 hN) rfl (Nat.le_of_ble_eq_true rfl) tw_2_93 rfl dX2_stepBack_37 ?_
      refine hz_iconst (v := (1 : Int32)) hO dX2_stepBack_40 (by decide) ?_
      refine hz_isub hO dX2_stepBack_41 ?_
      refine hz_goto (tgt := 47) hO dX2_stepBack_42 (by decide) ?_
      exact hz_ls [1] rfl (gk11 ((M5 32 3) - (1 : Int32)) M5 h)
def f_X2_keep (a1 : Int32) (M : hz_M) : hz_O :=
  hz_gd (hz_in a1 2) <|
  hz_ct (f_X7_copyFrom (hz_ka a1) 11 M) fun r3 M4 =>
  hz_gd (hz_in a1 2) <|
  hz_lm (hz_set M4 35 (Int32.toNatClampNeg a1) (1 : Int32)) fun M7 =>
  some (0, M7)
set_option maxRecDepth 100000 in
set_option maxHeartbeats 4000000 in
theorem c_X2_keep (l : Launch) (w : hz_C) {N : Nat} (hN : 178 ≤ N) (a1 : Int32) {M : hz_M} {rE : Int32} {ME : hz_M} (h : f_X2_keep a1 M = some (rE, ME)) : hz_Ct l yX2_keep cX2_keep 4 none 4 w N [.ref (hz_ad w 32), .int a1, .ref (hz_ad w 11)] M (hz_Qv w N ME) := by
  refine hz_ofW (by decide) rfl (Nat.le_of_ble_eq_true rfl) tw_6_117 ?_
  intro p e s m args below meth c hO
  show hz_G p l e 4 hz_z0 s m args below meth c w N 4 _ M 0 [(0, .ref (hz_ad w 32)), (1, .int a1), (2, .ref (hz_ad w 11))] []
  unfold f_X2_keep at h
  refine hz_aload_n hO dX2_keep_0 rfl 0 rfl ?_
  refine hz_getR (k := 1) hO 34 hz_K_1 hz_sh_32 (hz_lt_32 hN) rfl (Nat.le_of_ble_eq_true rfl) tw_2_91 rfl dX2_keep_1 ?_
  refine hz_iload_n hO dX2_keep_4 rfl 1 rfl ?_
  obtain ⟨hg1, h⟩ := hz_gd_e h
  have hB2 := hz_ka_sta hN hg1
  refine hz_raldq (j := hz_ka a1) hO hz_sh_34 (hz_lt_34 hN) hg1 (hz_ka_at hg1) dX2_keep_5 ?_
  refine hz_astore_n (ls1 := [(3, .ref (hz_ad w (hz_ka a1))), (0, .ref (hz_ad w 32)), (1, .int a1), (2, .ref (hz_ad w 11))]) hO dX2_keep_6 rfl (Nat.le_of_ble_eq_true rfl) rfl ?_
  refine hz_aload_n hO dX2_keep_7 rfl 0 rfl ?_
  refine hz_ifnullP hO dX2_keep_8 ?_
  refine hz_aload_n hO dX2_keep_11 rfl 0 rfl ?_
  refine hz_aload_n hO dX2_keep_12 rfl 3 rfl ?_
  obtain ⟨r3, M4, hq5, h⟩ := hz_ct_e h
  refine hz_callVv (as := [.ref (hz_ad w 11)]) (rest := []) hO (c_X7_copyFrom l w hN hB2 (hz_sta_11 hN) hq5) hz_cal_X7_copyFrom hz_K_5 hB2.1 hB2.2.1 tw_3_152 (Nat.le_of_ble_eq_true rfl) rfl rfl (Nat.le_of_ble_eq_true rfl) dX2_keep_13 ?_
  refine hz_aload_n hO dX2_keep_16 rfl 1 rfl ?_
  refine hz_getR (k := 2) hO 35 hz_K_1 hz_sh_32 (hz_lt_32 hN) rfl (Nat.le_of_ble_eq_true rfl) tw_2_92 rfl dX2_keep_17 ?_
  refine hz_iload_n hO dX2_keep_20 rfl 2 rfl ?_
  refine hz_iconst (v := (1 : Int32)) hO dX2_keep_21 (by decide) ?_
  obtain ⟨hg6, h⟩ := hz_gd_e h
  obtain ⟨M7, h_M7, h⟩ := hz_lm_e h
  refine hz_zast hO hz_sh_35 (hz_lt_35 hN) hg6 (by decide) dX2_keep_22 ?_
  refine hz_nameM h_M7 ?_
  exact hz_nameM (hz_some_e h).2.symm (hz_vret hO dX2_keep_23)
def f_X2_bringBack (a1 : Int32) (M : hz_M) : hz_O :=
  hz_gd (hz_in a1 2) <|
  hz_gd (hz_in a1 2) <|
  if (M 35 (Int32.toNatClampNeg a1)) = 0 then
    some ((0 : Int32), M)
  else
    hz_ct (f_X7_copyFrom 11 (hz_ka a1) M) fun r5 M6 =>
    hz_lm (hz_set M6 32 4 (0 : Int32)) fun M8 =>
    some ((1 : Int32), M8)
set_option maxRecDepth 100000 in
set_option maxHeartbeats 4000000 in
theorem c_X2_bringBack (l : Launch) (w : hz_C) {N : Nat} (hN : 178 ≤ N) (a1 : Int32) {M : hz_M} {rE : Int32} {ME : hz_M} (h : f_X2_bringBack a1 M = some (rE, ME)) : hz_Ct l yX2_bringBack cX2_bringBack 4 (some .boolean) 4 w N [.ref (hz_ad w 32), .int a1, .ref (hz_ad w 11)] M (hz_Qi w N rE ME) := by
  refine hz_ofW (by decide) rfl (Nat.le_of_ble_eq_true rfl) tw_6_129 ?_
  intro p e s m args below meth c hO
  show hz_G p l e 4 hz_z0 s m args below meth c w N 4 _ M 0 [(0, .ref (hz_ad w 32)), (1, .int a1), (2, .ref (hz_ad w 11))] []
  unfold f_X2_bringBack at h
  refine hz_aload_n hO dX2_bringBack_0 rfl 0 rfl ?_
  refine hz_getR (k := 1) hO 34 hz_K_1 hz_sh_32 (hz_lt_32 hN) rfl (Nat.le_of_ble_eq_true rfl) tw_2_91 rfl dX2_bringBack_1 ?_
  refine hz_iload_n hO dX2_bringBack_4 rfl 1 rfl ?_
  obtain ⟨hg1, h⟩ := hz_gd_e h
  have hB2 := hz_ka_sta hN hg1
  refine hz_raldq (j := hz_ka a1) hO hz_sh_34 (hz_lt_34 hN) hg1 (hz_ka_at hg1) dX2_bringBack_5 ?_
  refine hz_astore_n (ls1 := [(3, .ref (hz_ad w (hz_ka a1))), (0, .ref (hz_ad w 32)), (1, .int a1), (2, .ref (hz_ad w 11))]) hO dX2_bringBack_6 rfl (Nat.le_of_ble_eq_true rfl) rfl ?_
  refine hz_aload_n hO dX2_bringBack_7 rfl 1 rfl ?_
  refine hz_getR (k := 2) hO 35 hz_K_1 hz_sh_32 (hz_lt_32 hN) rfl (Nat.le_of_ble_eq_true rfl) tw_2_92 rfl dX2_bringBack_8 ?_
  refine hz_iload_n hO dX2_bringBack_11 rfl 2 rfl ?_
  obtain ⟨hg3, h⟩ := hz_gd_e h
  refine hz_zald hO hz_sh_35 (hz_lt_35 hN) hg3 dX2_bringBack_12 ?_
  refine hz_if_eq (tgt := 20) hO dX2_bringBack_13 (by decide) (fun hc4 => ?_) (fun hc4 => ?_)
  · rw [if_pos hc4] at h
    refine hz_iconst (v := (0 : Int32)) hO dX2_bringBack_20 (by decide) ?_
    exact hz_nameM (hz_some_e h).2.symm (hz_name (hz_some_e h).1.symm (hz_zret hO (by rw [← (hz_some_e h).1]; decide) dX2_bringBack_21))
  · rw [if_neg hc4] at h
    refine hz_aload_n hO dX2_bringBack_16 rfl 0 rfl ?_
    refine hz_ifnonnullP (tgt := 22) hO dX2_bringBack_17 (by decide) ?_
    refine hz_aload_n hO dX2_bringBack_22 rfl 3 rfl ?_
    refine hz_aload_n hO dX2_bringBack_23 rfl 0 rfl ?_
    obtain ⟨r5, M6, hq7, h⟩ := hz_ct_e h
    refine hz_callVv (as := [.ref (hz_ad w (hz_ka a1))]) (rest := []) hO (c_X7_copyFrom l w hN (hz_sta_11 hN) hB2 hq7) hz_cal_X7_copyFrom hz_K_5 hz_sh_11 (hz_lt_11 hN) tw_3_152 (Nat.le_of_ble_eq_true rfl) rfl rfl (Nat.le_of_ble_eq_true rfl) dX2_bringBack_24 ?_
    refine hz_aload_n hO dX2_bringBack_27 rfl 1 rfl ?_
    refine hz_iconst (v := (0 : Int32)) hO dX2_bringBack_28 (by decide) ?_
    obtain ⟨M8, h_M8, h⟩ := hz_lm_e h
    refine hz_putI (k := 4) (ty := .int) hO hz_K_1 tyX2_ok nmX2 hz_sh_32 (hz_lt_32 hN) rfl (Nat.le_of_ble_eq_true rfl) tw_2_94 rfl rfl rfl rfl rfl dX2_bringBack_29 ?_
    refine hz_nameM h_M8 ?_
    refine hz_iconst (v := (1 : Int32)) hO dX2_bringBack_32 (by decide) ?_
    exact hz_nameM (hz_some_e h).2.symm (hz_name (hz_some_e h).1.symm (hz_zret hO (by rw [← (hz_some_e h).1]; decide) dX2_bringBack_33))
def f_X7_begin_L155 : Nat → Int32 → hz_M → hz_O
  | 0, _, _ => none
  | n + 1, v1_20, M21 =>
    if (M21 1 6) ≤ v1_20 then
      some (0, M21)
    else
      hz_ct (f_X7_putOnPeg v1_20 v1_20 M21) fun r23 M24 =>
      hz_lt (v1_20 + (1 : Int32)) fun x26 =>
      f_X7_begin_L155 n x26 M24
def f_X7_begin (M : hz_M) : hz_O :=
  hz_lm (hz_set M 11 14 (0 : Int32)) fun M1 =>
  hz_lm (hz_set M1 11 15 (30 : Int32)) fun M2 =>
  hz_lm (hz_set M2 11 16 (-1 : Int32)) fun M3 =>
  hz_lm (hz_set M3 11 17 (M3 1 9)) fun M4 =>
  hz_lm (hz_set M4 11 18 (M4 1 10)) fun M5 =>
  hz_lm (hz_set M5 11 19 (M5 1 11)) fun M6 =>
  hz_lm (hz_fil M6 12 4 (0 : Int32)) fun M7 =>
  hz_lm (hz_fil M7 13 16 (-1 : Int32)) fun M8 =>
  hz_lm (hz_fil M8 14 16 (-1 : Int32)) fun M9 =>
  hz_lm (hz_fil M9 15 16 (-1 : Int32)) fun M10 =>
  hz_lm (hz_fil M10 16 16 (0 : Int32)) fun M11 =>
  hz_lm (hz_fil M11 17 16 (0 : Int32)) fun M12 =>
  hz_lm (hz_fil M12 18 16 (-1 : Int32)) fun M13 =>
  hz_lm (hz_fil M13 19 12 (-1 : Int32)) fun M14 =>
  hz_lm (hz_fil M14 20 16 (0 : Int32)) fun M15 =>
  hz_lm (hz_fil M15 21 16 (-1 : Int32)) fun M16 =>
  hz_lm (hz_fil M16 22 16 (-1 : Int32)) fun M17 =>
  hz_lm (hz_fil M17 23 16 (-1 : Int32)) fun M18 =>
  hz_lm (hz_fil M18 24 9 (0 : Int32)) fun M19 =>
  f_X7_begin_L155 hz_FU (0 : Int32) M19
set_option maxRecDepth 100000 in
set_option maxHeartbeats 4000000 in
theorem g_X7_begin_L155 {p : Program} {l : Launch} {e : Env} {s : State} {m : MethodId} {args : Array Value} {below : List Frame} {meth : Method} {c : Code} {w : hz_C} {N : Nat} (hN : 178 ≤ N) {rE : Int32} {ME : hz_M} (hO : hz_Ok p s m args meth c w cX7_begin 2 RX7 none) : ∀ (n : Nat) (v1_20 : Int32) (M21 : hz_M), f_X7_begin_L155 n v1_20 M21 = some (rE, ME) → hz_G p l e 1 hz_z0 s m args below meth c w N 2 (MQ below (hz_Qv w N ME) args s 0 0 (hz_A w)) M21 155 [(0, .ref (hz_ad w 11)), (1, .int v1_20)] [] := by
  intro n
  induction n with
  | zero =>
    intro v1_20 M21 h
    rw [f_X7_begin_L155] at h
    cases h
  | succ n ih =>
    intro v1_20 M21 h
    rw [f_X7_begin_L155] at h
    refine hz_iload_n hO dX7_begin_155 rfl 1 rfl ?_
    refine hz_aload_n hO dX7_begin_156 rfl 0 rfl ?_
    refine hz_getR (k := 0) hO 1 hz_K_5 hz_sh_11 (hz_lt_11 hN) rfl (Nat.le_of_ble_eq_true rfl) tw_1_151 rfl dX7_begin_157 ?_
    refine hz_getI (k := 6) hO hz_K_2 hz_sh_1 (hz_lt_1 hN) rfl (Nat.le_of_ble_eq_true rfl) tw_1_62 rfl dX7_begin_160 ?_
    refine hz_icmp_ge (tgt := 178) hO dX7_begin_163 (by decide) (fun hc22 => ?_) (fun hc22 => ?_)
    · rw [if_pos hc22] at h
      exact hz_nameM (hz_some_e h).2.symm (hz_vret hO dX7_begin_178)
    · rw [if_neg hc22] at h
      refine hz_aload_n hO dX7_begin_166 rfl 0 rfl ?_
      refine hz_iload_n hO dX7_begin_167 rfl 1 rfl ?_
      refine hz_iload_n hO dX7_begin_168 rfl 1 rfl ?_
      obtain ⟨r23, M24, hq25, h⟩ := hz_ct_e h
      refine hz_callVv (as := [.int v1_20, .int v1_20]) (rest := []) hO (c_X7_putOnPeg l w hN v1_20 v1_20 hq25) hz_cal_X7_putOnPeg hz_K_5 hz_sh_11 (hz_lt_11 hN) tw_3_39 (Nat.le_of_ble_eq_true rfl) rfl rfl (Nat.le_of_ble_eq_true rfl) dX7_begin_169 ?_
      obtain ⟨x26, h_x26, h⟩ := hz_lt_e h
      refine hz_iinc (k := 1) (v := x26) (ls1 := [(1, .int x26), (0, .ref (hz_ad w 11))]) hO dX7_begin_172 rfl (by rw [h_x26]; rfl) (Nat.le_of_ble_eq_true rfl) rfl ?_
      refine hz_goto (tgt := 155) hO dX7_begin_175 (by decide) ?_
      exact hz_ls [1, 0] rfl (ih x26 M24 h)
set_option maxRecDepth 100000 in
set_option maxHeartbeats 4000000 in
theorem c_X7_begin (l : Launch) (w : hz_C) {N : Nat} (hN : 178 ≤ N) {M : hz_M} {rE : Int32} {ME : hz_M} (h : f_X7_begin M = some (rE, ME)) : hz_Ct l yX7_begin cX7_begin 2 none 1 w N [.ref (hz_ad w 11)] M (hz_Qv w N ME) := by
  refine hz_ofW (by decide) rfl (Nat.le_of_ble_eq_true rfl) tw_3_35 ?_
  intro p e s m args below meth c hO
  show hz_G p l e 1 hz_z0 s m args below meth c w N 2 _ M 0 [(0, .ref (hz_ad w 11))] []
  unfold f_X7_begin at h
  refine hz_aload_n hO dX7_begin_0 rfl 0 rfl ?_
  refine hz_iconst (v := (0 : Int32)) hO dX7_begin_1 (by decide) ?_
  obtain ⟨M1, h_M1, h⟩ := hz_lm_e h
  refine hz_putI (k := 14) (ty := .int) hO hz_K_5 tyX7_ok nmX7 hz_sh_11 (hz_lt_11 hN) rfl (Nat.le_of_ble_eq_true rfl) tw_1_196 rfl rfl rfl rfl rfl dX7_begin_2 ?_
  refine hz_nameM h_M1 ?_
  refine hz_aload_n hO dX7_begin_5 rfl 0 rfl ?_
  refine hz_bipush (v := (30 : Int32)) hO dX7_begin_6 (by decide) ?_
  obtain ⟨M2, h_M2, h⟩ := hz_lm_e h
  refine hz_putI (k := 15) (ty := .int) hO hz_K_5 tyX7_ok nmX7 hz_sh_11 (hz_lt_11 hN) rfl (Nat.le_of_ble_eq_true rfl) tw_1_199 rfl rfl rfl rfl rfl dX7_begin_8 ?_
  refine hz_nameM h_M2 ?_
  refine hz_aload_n hO dX7_begin_11 rfl 0 rfl ?_
  refine hz_iconst (v := (-1 : Int32)) hO dX7_begin_12 (by decide) ?_
  obtain ⟨M3, h_M3, h⟩ := hz_lm_e h
  refine hz_putI (k := 16) (ty := .int) hO hz_K_5 tyX7_ok nmX7 hz_sh_11 (hz_lt_11 hN) rfl (Nat.le_of_ble_eq_true rfl) tw_1_201 rfl rfl rfl rfl rfl dX7_begin_13 ?_
  refine hz_nameM h_M3 ?_
  refine hz_aload_n hO dX7_begin_16 rfl 0 rfl ?_
  refine hz_aload_n hO dX7_begin_17 rfl 0 rfl ?_
  refine hz_getR (k := 0) hO 1 hz_K_5 hz_sh_11 (hz_lt_11 hN) rfl (Nat.le_of_ble_eq_true rfl) tw_1_151 rfl dX7_begin_18 ?_
  refine hz_getI (k := 9) hO hz_K_2 hz_sh_1 (hz_lt_1 hN) rfl (Nat.le_of_ble_eq_true rfl) tw_1_71 rfl dX7_begin_21 ?_
  obtain ⟨M4, h_M4, h⟩ := hz_lm_e h
  refine hz_putI (k := 17) (ty := .int) hO hz_K_5 tyX7_ok nmX7 hz_sh_11 (hz_lt_11 hN) rfl (Nat.le_of_ble_eq_true rfl) tw_1_202 rfl rfl rfl rfl rfl dX7_begin_24 ?_
  refine hz_nameM h_M4 ?_
  refine hz_aload_n hO dX7_begin_27 rfl 0 rfl ?_
  refine hz_aload_n hO dX7_begin_28 rfl 0 rfl ?_
  refine hz_getR (k := 0) hO 1 hz_K_5 hz_sh_11 (hz_lt_11 hN) rfl (Nat.le_of_ble_eq_true rfl) tw_1_151 rfl dX7_begin_29 ?_
  refine hz_getI (k := 10) hO hz_K_2 hz_sh_1 (hz_lt_1 hN) rfl (Nat.le_of_ble_eq_true rfl) tw_1_73 rfl dX7_begin_32 ?_
  obtain ⟨M5, h_M5, h⟩ := hz_lm_e h
  refine hz_putI (k := 18) (ty := .int) hO hz_K_5 tyX7_ok nmX7 hz_sh_11 (hz_lt_11 hN) rfl (Nat.le_of_ble_eq_true rfl) tw_1_205 rfl rfl rfl rfl rfl dX7_begin_35 ?_
  refine hz_nameM h_M5 ?_
  refine hz_aload_n hO dX7_begin_38 rfl 0 rfl ?_
  refine hz_aload_n hO dX7_begin_39 rfl 0 rfl ?_
  refine hz_getR (k := 0) hO 1 hz_K_5 hz_sh_11 (hz_lt_11 hN) rfl (Nat.le_of_ble_eq_true rfl) tw_1_151 rfl dX7_begin_40 ?_
  refine hz_getI (k := 11) hO hz_K_2 hz_sh_1 (hz_lt_1 hN) rfl (Nat.le_of_ble_eq_true rfl) tw_1_75 rfl dX7_begin_43 ?_
  obtain ⟨M6, h_M6, h⟩ := hz_lm_e h
  refine hz_putI (k := 19) (ty := .int) hO hz_K_5 tyX7_ok nmX7 hz_sh_11 (hz_lt_11 hN) rfl (Nat.le_of_ble_eq_true rfl) tw_1_207 rfl rfl rfl rfl rfl dX7_begin_46 ?_
  refine hz_nameM h_M6 ?_
  refine hz_aload_n hO dX7_begin_49 rfl 0 rfl ?_
  refine hz_getR (k := 1) hO 12 hz_K_5 hz_sh_11 (hz_lt_11 hN) rfl (Nat.le_of_ble_eq_true rfl) tw_1_152 rfl dX7_begin_50 ?_
  refine hz_iconst (v := (0 : Int32)) hO dX7_begin_53 (by decide) ?_
  obtain ⟨M7, h_M7, h⟩ := hz_lm_e h
  refine hz_callSv (as := [.ref (hz_ad w 12), .int (0 : Int32)]) (rest := []) hO (c_J7_fill_53178 l w hz_sh_12 (hz_lt_12 hN) (by decide) (0 : Int32)) hz_cal_J7_fill_53178 tw_3_36 (Nat.le_of_ble_eq_true rfl) rfl rfl (Nat.le_of_ble_eq_true rfl) dX7_begin_54 ?_
  refine hz_nameM h_M7 ?_
  refine hz_aload_n hO dX7_begin_57 rfl 0 rfl ?_
  refine hz_getR (k := 2) hO 13 hz_K_5 hz_sh_11 (hz_lt_11 hN) rfl (Nat.le_of_ble_eq_true rfl) tw_1_155 rfl dX7_begin_58 ?_
  refine hz_iconst (v := (-1 : Int32)) hO dX7_begin_61 (by decide) ?_
  obtain ⟨M8, h_M8, h⟩ := hz_lm_e h
  refine hz_callSv (as := [.ref (hz_ad w 13), .int (-1 : Int32)]) (rest := []) hO (c_J7_fill_53178 l w hz_sh_13 (hz_lt_13 hN) (by decide) (-1 : Int32)) hz_cal_J7_fill_53178 tw_3_36 (Nat.le_of_ble_eq_true rfl) rfl rfl (Nat.le_of_ble_eq_true rfl) dX7_begin_62 ?_
  refine hz_nameM h_M8 ?_
  refine hz_aload_n hO dX7_begin_65 rfl 0 rfl ?_
  refine hz_getR (k := 3) hO 14 hz_K_5 hz_sh_11 (hz_lt_11 hN) rfl (Nat.le_of_ble_eq_true rfl) tw_1_160 rfl dX7_begin_66 ?_
  refine hz_iconst (v := (-1 : Int32)) hO dX7_begin_69 (by decide) ?_
  obtain ⟨M9, h_M9, h⟩ := hz_lm_e h
  refine hz_callSv (as := [.ref (hz_ad w 14), .int (-1 : Int32)]) (rest := []) hO (c_J7_fill_53178 l w hz_sh_14 (hz_lt_14 hN) (by decide) (-1 : Int32)) hz_cal_J7_fill_53178 tw_3_36 (Nat.le_of_ble_eq_true rfl) rfl rfl (Nat.le_of_ble_eq_true rfl) dX7_begin_70 ?_
  refine hz_nameM h_M9 ?_
  refine hz_aload_n hO dX7_begin_73 rfl 0 rfl ?_
  refine hz_getR (k := 4) hO 15 hz_K_5 hz_sh_11 (hz_lt_11 hN) rfl (Nat.le_of_ble_eq_true rfl) tw_1_163 rfl dX7_begin_74 ?_
  refine hz_iconst (v := (-1 : Int32)) hO dX7_begin_77 (by decide) ?_
  obtain ⟨M10, h_M10, h⟩ := hz_lm_e h
  refine hz_callSv (as := [.ref (hz_ad w 15), .int (-1 : Int32)]) (rest := []) hO (c_J7_fill_53178 l w hz_sh_15 (hz_lt_15 hN) (by decide) (-1 : Int32)) hz_cal_J7_fill_53178 tw_3_36 (Nat.le_of_ble_eq_true rfl) rfl rfl (Nat.le_of_ble_eq_true rfl) dX7_begin_78 ?_
  refine hz_nameM h_M10 ?_
  refine hz_aload_n hO dX7_begin_81 rfl 0 rfl ?_
  refine hz_getR (k := 5) hO 16 hz_K_5 hz_sh_11 (hz_lt_11 hN) rfl (Nat.le_of_ble_eq_true rfl) tw_1_167 rfl dX7_begin_82 ?_
  refine hz_iconst (v := (0 : Int32)) hO dX7_begin_85 (by decide) ?_
  obtain ⟨M11, h_M11, h⟩ := hz_lm_e h
  refine hz_callSv (as := [.ref (hz_ad w 16), .int (0 : Int32)]) (rest := []) hO (c_J7_fill_53178 l w hz_sh_16 (hz_lt_16 hN) (by decide) (0 : Int32)) hz_cal_J7_fill_53178 tw_3_36 (Nat.le_of_ble_eq_true rfl) rfl rfl (Nat.le_of_ble_eq_true rfl) dX7_begin_86 ?_
  refine hz_nameM h_M11 ?_
  refine hz_aload_n hO dX7_begin_89 rfl 0 rfl ?_
  refine hz_getR (k := 6) hO 17 hz_K_5 hz_sh_11 (hz_lt_11 hN) rfl (Nat.le_of_ble_eq_true rfl) tw_1_170 rfl dX7_begin_90 ?_
  refine hz_iconst (v := (0 : Int32)) hO dX7_begin_93 (by decide) ?_
  obtain ⟨M12, h_M12, h⟩ := hz_lm_e h
  refine hz_callSv (as := [.ref (hz_ad w 17), .int (0 : Int32)]) (rest := []) hO (c_J7_fill_53178 l w hz_sh_17 (hz_lt_17 hN) (by decide) (0 : Int32)) hz_cal_J7_fill_53178 tw_3_36 (Nat.le_of_ble_eq_true rfl) rfl rfl (Nat.le_of_ble_eq_true rfl) dX7_begin_94 ?_
  refine hz_nameM h_M12 ?_
  refine hz_aload_n hO dX7_begin_97 rfl 0 rfl ?_
  refine hz_getR (k := 7) hO 18 hz_K_5 hz_sh_11 (hz_lt_11 hN) rfl (Nat.le_of_ble_eq_true rfl) tw_1_173 rfl dX7_begin_98 ?_
  refine hz_iconst (v := (-1 : Int32)) hO dX7_begin_101 (by decide) ?_
  obtain ⟨M13, h_M13, h⟩ := hz_lm_e h
  refine hz_callSv (as := [.ref (hz_ad w 18), .int (-1 : Int32)]) (rest := []) hO (c_J7_fill_53178 l w hz_sh_18 (hz_lt_18 hN) (by decide) (-1 : Int32)) hz_cal_J7_fill_53178 tw_3_36 (Nat.le_of_ble_eq_true rfl) rfl rfl (Nat.le_of_ble_eq_true rfl) dX7_begin_102 ?_
  refine hz_nameM h_M13 ?_
  refine hz_aload_n hO dX7_begin_105 rfl 0 rfl ?_
  refine hz_getR (k := 8) hO 19 hz_K_5 hz_sh_11 (hz_lt_11 hN) rfl (Nat.le_of_ble_eq_true rfl) tw_1_177 rfl dX7_begin_106 ?_
  refine hz_iconst (v := (-1 : Int32)) hO dX7_begin_109 (by decide) ?_
  obtain ⟨M14, h_M14, h⟩ := hz_lm_e h
  refine hz_callSv (as := [.ref (hz_ad w 19), .int (-1 : Int32)]) (rest := []) hO (c_J7_fill_53178 l w hz_sh_19 (hz_lt_19 hN) (by decide) (-1 : Int32)) hz_cal_J7_fill_53178 tw_3_36 (Nat.le_of_ble_eq_true rfl) rfl rfl (Nat.le_of_ble_eq_true rfl) dX7_begin_110 ?_
  refine hz_nameM h_M14 ?_
  refine hz_aload_n hO dX7_begin_113 rfl 0 rfl ?_
  refine hz_getR (k := 9) hO 20 hz_K_5 hz_sh_11 (hz_lt_11 hN) rfl (Nat.le_of_ble_eq_true rfl) tw_1_180 rfl dX7_begin_114 ?_
  refine hz_iconst (v := (0 : Int32)) hO dX7_begin_117 (by decide) ?_
  obtain ⟨M15, h_M15, h⟩ := hz_lm_e h
  refine hz_callSv (as := [.ref (hz_ad w 20), .int (0 : Int32)]) (rest := []) hO (c_J7_fill_53178 l w hz_sh_20 (hz_lt_20 hN) (by decide) (0 : Int32)) hz_cal_J7_fill_53178 tw_3_36 (Nat.le_of_ble_eq_true rfl) rfl rfl (Nat.le_of_ble_eq_true rfl) dX7_begin_118 ?_
  refine hz_nameM h_M15 ?_
  refine hz_aload_n hO dX7_begin_121 rfl 0 rfl ?_
  refine hz_getR (k := 10) hO 21 hz_K_5 hz_sh_11 (hz_lt_11 hN) rfl (Nat.le_of_ble_eq_true rfl) tw_1_183 rfl dX7_begin_122 ?_
  refine hz_iconst (v := (-1 : Int32)) hO dX7_begin_125 (by decide) ?_
  obtain ⟨M16, h_M16, h⟩ := hz_lm_e h
  refine hz_callSv (as := [.ref (hz_ad w 21), .int (-1 : Int32)]) (rest := []) hO (c_J7_fill_53178 l w hz_sh_21 (hz_lt_21 hN) (by decide) (-1 : Int32)) hz_cal_J7_fill_53178 tw_3_36 (Nat.le_of_ble_eq_true rfl) rfl rfl (Nat.le_of_ble_eq_true rfl) dX7_begin_126 ?_
  refine hz_nameM h_M16 ?_
  refine hz_aload_n hO dX7_begin_129 rfl 0 rfl ?_
  refine hz_getR (k := 11) hO 22 hz_K_5 hz_sh_11 (hz_lt_11 hN) rfl (Nat.le_of_ble_eq_true rfl) tw_1_185 rfl dX7_begin_130 ?_
  refine hz_iconst (v := (-1 : Int32)) hO dX7_begin_133 (by decide) ?_
  obtain ⟨M17, h_M17, h⟩ := hz_lm_e h
  refine hz_callSv (as := [.ref (hz_ad w 22), .int (-1 : Int32)]) (rest := []) hO (c_J7_fill_53178 l w hz_sh_22 (hz_lt_22 hN) (by decide) (-1 : Int32)) hz_cal_J7_fill_53178 tw_3_36 (Nat.le_of_ble_eq_true rfl) rfl rfl (Nat.le_of_ble_eq_true rfl) dX7_begin_134 ?_
  refine hz_nameM h_M17 ?_
  refine hz_aload_n hO dX7_begin_137 rfl 0 rfl ?_
  refine hz_getR (k := 12) hO 23 hz_K_5 hz_sh_11 (hz_lt_11 hN) rfl (Nat.le_of_ble_eq_true rfl) tw_1_188 rfl dX7_begin_138 ?_
  refine hz_iconst (v := (-1 : Int32)) hO dX7_begin_141 (by decide) ?_
  obtain ⟨M18, h_M18, h⟩ := hz_lm_e h
  refine hz_callSv (as := [.ref (hz_ad w 23), .int (-1 : Int32)]) (rest := []) hO (c_J7_fill_53178 l w hz_sh_23 (hz_lt_23 hN) (by decide) (-1 : Int32)) hz_cal_J7_fill_53178 tw_3_36 (Nat.le_of_ble_eq_true rfl) rfl rfl (Nat.le_of_ble_eq_true rfl) dX7_begin_142 ?_
  refine hz_nameM h_M18 ?_
  refine hz_aload_n hO dX7_begin_145 rfl 0 rfl ?_
  refine hz_getR (k := 13) hO 24 hz_K_5 hz_sh_11 (hz_lt_11 hN) rfl (Nat.le_of_ble_eq_true rfl) tw_1_193 rfl dX7_begin_146 ?_
  refine hz_iconst (v := (0 : Int32)) hO dX7_begin_149 (by decide) ?_
  obtain ⟨M19, h_M19, h⟩ := hz_lm_e h
  refine hz_callSv (as := [.ref (hz_ad w 24), .int (0 : Int32)]) (rest := []) hO (c_J7_fill_53178 l w hz_sh_24 (hz_lt_24 hN) (by decide) (0 : Int32)) hz_cal_J7_fill_53178 tw_3_36 (Nat.le_of_ble_eq_true rfl) rfl rfl (Nat.le_of_ble_eq_true rfl) dX7_begin_150 ?_
  refine hz_nameM h_M19 ?_
  refine hz_iconst (v := (0 : Int32)) hO dX7_begin_153 (by decide) ?_
  refine hz_istore_n (ls1 := [(1, .int (0 : Int32)), (0, .ref (hz_ad w 11))]) hO dX7_begin_154 rfl (Nat.le_of_ble_eq_true rfl) rfl ?_
  exact hz_ls [1, 0] rfl (g_X7_begin_L155 hN hO _ (0 : Int32) M19 h)
def f_X8_appendText_L2 : Nat → Nat → Int32 → hz_M → hz_O
  | 0, _, _, _ => none
  | n + 1, v1_1, v2_2, M3 =>
    hz_gd (hz_sok v1_1) <|
    if (hz_sl v1_1) ≤ v2_2 then
      some (0, M3)
    else
      hz_gd (hz_sok v1_1) <|
      hz_gd (hz_in v2_2 (hz_len.getD v1_1 0)) <|
      hz_ct (f_X8_put (hz_cc v1_1 v2_2) M3) fun r8 M9 =>
      hz_lt (v2_2 + (1 : Int32)) fun x11 =>
      f_X8_appendText_L2 n v1_1 x11 M9
def f_X8_appendText (a1 : Nat) (M : hz_M) : hz_O :=
  f_X8_appendText_L2 hz_FU a1 (0 : Int32) M
set_option maxRecDepth 100000 in
set_option maxHeartbeats 4000000 in
theorem g_X8_appendText_L2 {p : Program} {l : Launch} {e : Env} {s : State} {m : MethodId} {args : Array Value} {below : List Frame} {meth : Method} {c : Code} {w : hz_C} {N : Nat} (hN : 178 ≤ N) {rE : Int32} {ME : hz_M} (hO : hz_Ok p s m args meth c w cX8_appendText 3 RX8 none) : ∀ (n : Nat) (v1_1 : Nat) (v2_2 : Int32) (M3 : hz_M), f_X8_appendText_L2 n v1_1 v2_2 M3 = some (rE, ME) → hz_G p l e 8 hz_z0 s m args below meth c w N 3 (MQ below (hz_Qv w N ME) args s 0 0 (hz_A w)) M3 2 [(0, .ref (hz_ad w 9)), (1, .ref (hz_sa w v1_1)), (2, .int v2_2)] [] := by
  intro n
  induction n with
  | zero =>
    intro v1_1 v2_2 M3 h
    rw [f_X8_appendText_L2] at h
    cases h
  | succ n ih =>
    intro v1_1 v2_2 M3 h
    rw [f_X8_appendText_L2] at h
    refine hz_iload_n hO dX8_appendText_2 rfl 2 rfl ?_
    refine hz_aload_n hO dX8_appendText_3 rfl 1 rfl ?_
    obtain ⟨hg4, h⟩ := hz_gd_e h
    refine hz_callTi (as := []) (rest := [.int v2_2]) hO (c_J0_length_8abf5 l w (hz_sok_e hg4)) hz_cal_J0_length_8abf5 (hz_sok_e hg4) tw_2_130 (Nat.le_of_ble_eq_true rfl) rfl rfl (Nat.le_of_ble_eq_true rfl) dX8_appendText_4 ?_
    refine hz_icmp_ge (tgt := 25) hO dX8_appendText_7 (by decide) (fun hc5 => ?_) (fun hc5 => ?_)
    · rw [if_pos hc5] at h
      exact hz_nameM (hz_some_e h).2.symm (hz_vret hO dX8_appendText_25)
    · rw [if_neg hc5] at h
      refine hz_aload_n hO dX8_appendText_10 rfl 0 rfl ?_
      refine hz_aload_n hO dX8_appendText_11 rfl 1 rfl ?_
      refine hz_iload_n hO dX8_appendText_12 rfl 2 rfl ?_
      obtain ⟨hg6, h⟩ := hz_gd_e h
      obtain ⟨hg7, h⟩ := hz_gd_e h
      refine hz_callTi (as := [.int v2_2]) (rest := [.ref (hz_ad w 9)]) hO (c_J0_charAt_5068e l w (hz_sok_e hg6) hg7) hz_cal_J0_charAt_5068e (hz_sok_e hg6) tw_2_140 (Nat.le_of_ble_eq_true rfl) rfl rfl (Nat.le_of_ble_eq_true rfl) dX8_appendText_13 ?_
      obtain ⟨r8, M9, hq10, h⟩ := hz_ct_e h
      refine hz_callVv (as := [.int (hz_cc v1_1 v2_2)]) (rest := []) hO (c_X8_put l w hN (hz_cc v1_1 v2_2) hq10) hz_cal_X8_put hz_K_6 hz_sh_9 (hz_lt_9 hN) tw_2_178 (Nat.le_of_ble_eq_true rfl) rfl rfl (Nat.le_of_ble_eq_true rfl) dX8_appendText_16 ?_
      obtain ⟨x11, h_x11, h⟩ := hz_lt_e h
      refine hz_iinc (k := 2) (v := x11) (ls1 := [(2, .int x11), (0, .ref (hz_ad w 9)), (1, .ref (hz_sa w v1_1))]) hO dX8_appendText_19 rfl (by rw [h_x11]; rfl) (Nat.le_of_ble_eq_true rfl) rfl ?_
      refine hz_goto (tgt := 2) hO dX8_appendText_22 (by decide) ?_
      exact hz_ls [1, 2, 0] rfl (ih v1_1 x11 M9 h)
set_option maxRecDepth 100000 in
set_option maxHeartbeats 4000000 in
theorem c_X8_appendText (l : Launch) (w : hz_C) {N : Nat} (hN : 178 ≤ N) (a1 : Nat) {M : hz_M} {rE : Int32} {ME : hz_M} (h : f_X8_appendText a1 M = some (rE, ME)) : hz_Ct l yX8_appendText cX8_appendText 3 none 8 w N [.ref (hz_ad w 9), .ref (hz_sa w a1)] M (hz_Qv w N ME) := by
  refine hz_ofW (by decide) rfl (Nat.le_of_ble_eq_true rfl) tw_2_129 ?_
  intro p e s m args below meth c hO
  show hz_G p l e 8 hz_z0 s m args below meth c w N 3 _ M 0 [(0, .ref (hz_ad w 9)), (1, .ref (hz_sa w a1))] []
  unfold f_X8_appendText at h
  refine hz_iconst (v := (0 : Int32)) hO dX8_appendText_0 (by decide) ?_
  refine hz_istore_n (ls1 := [(2, .int (0 : Int32)), (0, .ref (hz_ad w 9)), (1, .ref (hz_sa w a1))]) hO dX8_appendText_1 rfl (Nat.le_of_ble_eq_true rfl) rfl ?_
  exact hz_ls [1, 2, 0] rfl (g_X8_appendText_L2 hN hO _ a1 (0 : Int32) M h)
def f_X1_refusal (a1 : Int32) (a2 : Int32) (a3 : Int32) (M : hz_M) : hz_O :=
  hz_gd (hz_nn a1) <|
  hz_gd (hz_in (hz_eF 0 a1) 11) <|
  hz_lt ((hz_sw.getD (Int32.toNatClampNeg (hz_eF 0 a1)) 0)) fun x4 =>
  if x4 = 1 then
    hz_gd (hz_in a2 16) <|
    if (M 13 (Int32.toNatClampNeg a2)) ≤ 0 then
      some ((-3 : Int32), M)
    else
      some ((0 : Int32), M)
  else
  if x4 = 2 then
    hz_gd (hz_in a2 16) <|
    if (M 13 (Int32.toNatClampNeg a2)) = (-1 : Int32) then
      some ((-4 : Int32), M)
    else
      some ((0 : Int32), M)
  else
  if x4 = 3 then
    if (9999 : Int32) < ((M 11 14) + a3) then
      some ((-5 : Int32), M)
    else
      some ((0 : Int32), M)
  else
  if x4 = 4 then
    some ((0 : Int32), M)
  else
  if x4 = 5 then
    some ((0 : Int32), M)
  else
  hz_ct (f_X1_deedOf a1 a3 M) fun r15 M16 =>
  hz_ct (f_X9_reason a2 r15 M16) fun r18 M19 =>
  if r18 = 0 then
    some ((0 : Int32), M19)
  else
    some ((-2 : Int32), M19)
set_option maxRecDepth 100000 in
set_option maxHeartbeats 4000000 in
theorem c_X1_refusal (l : Launch) (w : hz_C) {N : Nat} (hN : 178 ≤ N) (a1 : Int32) (a2 : Int32) (a3 : Int32) {M : hz_M} {rE : Int32} {ME : hz_M} (h : f_X1_refusal a1 a2 a3 M = some (rE, ME)) : hz_Ct l yX1_refusal cX1_refusal 4 (some .int) 3 w N [.ref (hz_ad w 26), hz_ev w a1, .int a2, .int a3] M (hz_Qi w N rE ME) := by
  refine hz_ofW (by decide) rfl (by simp [lg_sl, hz_ev_cat, hz_cr, hz_ci]) tw_3_205 ?_
  intro p e s m args below meth c hO
  rw [show lv_args 0 [.ref (hz_ad w 26), hz_ev w a1, .int a2, .int a3] = [(0, .ref (hz_ad w 26)), (1, hz_ev w a1), (2, .int a2), (3, .int a3)] from by simp [lv_args, hz_ev_cat, hz_cr, hz_ci]]
  show hz_G p l e 3 hz_z0 s m args below meth c w N 4 _ M 0 [(0, .ref (hz_ad w 26)), (1, hz_ev w a1), (2, .int a2), (3, .int a3)] []
  unfold f_X1_refusal at h
  obtain ⟨t1, hz_t1, ht_t1⟩ := hO.2.2.2.1.2.2.2.2.2.1
  refine hz_gets hO hz_t1 tw_3_206 rfl dX1_refusal_0 ?_
  refine hz_aload_nE hO dX1_refusal_3 rfl 1 rfl ?_
  obtain ⟨hg2, h⟩ := hz_gd_e h
  refine hz_ord (rest := [.ref t1]) hO hg2 tw_3_208 (Nat.le_of_ble_eq_true rfl) (Nat.le_of_ble_eq_true rfl) dX1_refusal_4 ?_
  obtain ⟨hg3, h⟩ := hz_gd_e h
  refine hz_ti (v := .int (hz_sw.getD (Int32.toNatClampNeg (hz_eF 0 a1)) 0)) hO ht_t1 (hz_in_e hg3) rfl dX1_refusal_7 ?_
  obtain ⟨x4, h_x4, h⟩ := hz_lt_e h
  refine hz_name h_x4 ?_
  by_cases hc5 : x4 = (1 : Int32)
  · rw [if_pos hc5] at h
    refine hz_tin (tgt := 44) hO hc5 dX1_refusal_8 (by decide) (by decide) rfl (by decide) ?_
    refine hz_aload_n hO dX1_refusal_44 rfl 0 rfl ?_
    refine hz_getR (k := 1) hO 11 hz_K_0 hz_sh_26 (hz_lt_26 hN) rfl (Nat.le_of_ble_eq_true rfl) tw_2_30 rfl dX1_refusal_45 ?_
    refine hz_getR (k := 2) hO 13 hz_K_5 hz_sh_11 (hz_lt_11 hN) rfl (Nat.le_of_ble_eq_true rfl) tw_1_158 rfl dX1_refusal_48 ?_
    refine hz_iload_n hO dX1_refusal_51 rfl 2 rfl ?_
    obtain ⟨hg6, h⟩ := hz_gd_e h
    refine hz_iald hO hz_sh_13 (hz_lt_13 hN) hg6 dX1_refusal_52 ?_
    refine hz_if_le (tgt := 60) hO dX1_refusal_53 (by decide) (fun hc7 => ?_) (fun hc7 => ?_)
    · rw [if_pos hc7] at h
      refine hz_bipush (v := (-3 : Int32)) hO dX1_refusal_60 (by decide) ?_
      exact hz_nameM (hz_some_e h).2.symm (hz_name (hz_some_e h).1.symm (hz_iret hO dX1_refusal_62))
    · rw [if_neg hc7] at h
      refine hz_iconst (v := (0 : Int32)) hO dX1_refusal_56 (by decide) ?_
      refine hz_goto (tgt := 62) hO dX1_refusal_57 (by decide) ?_
      exact hz_nameM (hz_some_e h).2.symm (hz_name (hz_some_e h).1.symm (hz_iret hO dX1_refusal_62))
  · rw [if_neg hc5] at h
    by_cases hc8 : x4 = (2 : Int32)
    · rw [if_pos hc8] at h
      refine hz_tin (tgt := 63) hO hc8 dX1_refusal_8 (by decide) (by decide) rfl (by decide) ?_
      refine hz_aload_n hO dX1_refusal_63 rfl 0 rfl ?_
      refine hz_getR (k := 1) hO 11 hz_K_0 hz_sh_26 (hz_lt_26 hN) rfl (Nat.le_of_ble_eq_true rfl) tw_2_30 rfl dX1_refusal_64 ?_
      refine hz_getR (k := 2) hO 13 hz_K_5 hz_sh_11 (hz_lt_11 hN) rfl (Nat.le_of_ble_eq_true rfl) tw_1_158 rfl dX1_refusal_67 ?_
      refine hz_iload_n hO dX1_refusal_70 rfl 2 rfl ?_
      obtain ⟨hg9, h⟩ := hz_gd_e h
      refine hz_iald hO hz_sh_13 (hz_lt_13 hN) hg9 dX1_refusal_71 ?_
      refine hz_iconst (v := (-1 : Int32)) hO dX1_refusal_72 (by decide) ?_
      refine hz_icmp_eq (tgt := 80) hO dX1_refusal_73 (by decide) (fun hc10 => ?_) (fun hc10 => ?_)
      · rw [if_pos hc10] at h
        refine hz_bipush (v := (-4 : Int32)) hO dX1_refusal_80 (by decide) ?_
        exact hz_nameM (hz_some_e h).2.symm (hz_name (hz_some_e h).1.symm (hz_iret hO dX1_refusal_82))
      · rw [if_neg hc10] at h
        refine hz_iconst (v := (0 : Int32)) hO dX1_refusal_76 (by decide) ?_
        refine hz_goto (tgt := 82) hO dX1_refusal_77 (by decide) ?_
        exact hz_nameM (hz_some_e h).2.symm (hz_name (hz_some_e h).1.symm (hz_iret hO dX1_refusal_82))
    · rw [if_neg hc8] at h
      by_cases hc11 : x4 = (3 : Int32)
      · rw [if_pos hc11] at h
        refine hz_tin (tgt := 83) hO hc11 dX1_refusal_8 (by decide) (by decide) rfl (by decide) ?_
        refine hz_aload_n hO dX1_refusal_83 rfl 0 rfl ?_
        refine hz_getR (k := 1) hO 11 hz_K_0 hz_sh_26 (hz_lt_26 hN) rfl (Nat.le_of_ble_eq_true rfl) tw_2_30 rfl dX1_refusal_84 ?_
        refine hz_getI (k := 14) hO hz_K_5 hz_sh_11 (hz_lt_11 hN) rfl (Nat.le_of_ble_eq_true rfl) tw_1_197 rfl dX1_refusal_87 ?_
        refine hz_iload_n hO dX1_refusal_90 rfl 3 rfl ?_
        refine hz_iadd hO dX1_refusal_91 ?_
        refine hz_sipush (v := (9999 : Int32)) hO dX1_refusal_92 (by decide) ?_
        refine hz_icmp_gt (tgt := 102) hO dX1_refusal_95 (by decide) (fun hc12 => ?_) (fun hc12 => ?_)
        · rw [if_pos hc12] at h
          refine hz_bipush (v := (-5 : Int32)) hO dX1_refusal_102 (by decide) ?_
          exact hz_nameM (hz_some_e h).2.symm (hz_name (hz_some_e h).1.symm (hz_iret hO dX1_refusal_104))
        · rw [if_neg hc12] at h
          refine hz_iconst (v := (0 : Int32)) hO dX1_refusal_98 (by decide) ?_
          refine hz_goto (tgt := 104) hO dX1_refusal_99 (by decide) ?_
          exact hz_nameM (hz_some_e h).2.symm (hz_name (hz_some_e h).1.symm (hz_iret hO dX1_refusal_104))
      · rw [if_neg hc11] at h
        by_cases hc13 : x4 = (4 : Int32)
        · rw [if_pos hc13] at h
          refine hz_tin (tgt := 105) hO hc13 dX1_refusal_8 (by decide) (by decide) rfl (by decide) ?_
          refine hz_iconst (v := (0 : Int32)) hO dX1_refusal_105 (by decide) ?_
          exact hz_nameM (hz_some_e h).2.symm (hz_name (hz_some_e h).1.symm (hz_iret hO dX1_refusal_106))
        · rw [if_neg hc13] at h
          by_cases hc14 : x4 = (5 : Int32)
          · rw [if_pos hc14] at h
            refine hz_tin (tgt := 107) hO hc14 dX1_refusal_8 (by decide) (by decide) rfl (by decide) ?_
            refine hz_iconst (v := (0 : Int32)) hO dX1_refusal_107 (by decide) ?_
            exact hz_nameM (hz_some_e h).2.symm (hz_name (hz_some_e h).1.symm (hz_iret hO dX1_refusal_108))
          · rw [if_neg hc14] at h
            have hn1 : ¬ x4.toInt = 1 := lv_neT hc5 rfl
            have hn2 : ¬ x4.toInt = 2 := lv_neT hc8 rfl
            have hn3 : ¬ x4.toInt = 3 := lv_neT hc11 rfl
            have hn4 : ¬ x4.toInt = 4 := lv_neT hc13 rfl
            have hn5 : ¬ x4.toInt = 5 := lv_neT hc14 rfl
            refine hz_tout (tgt := 109) hO dX1_refusal_8 (by omega) (by decide) ?_
            refine hz_aload_n hO dX1_refusal_109 rfl 0 rfl ?_
            refine hz_getR (k := 2) hO 25 hz_K_0 hz_sh_26 (hz_lt_26 hN) rfl (Nat.le_of_ble_eq_true rfl) tw_2_31 rfl dX1_refusal_110 ?_
            refine hz_iload_n hO dX1_refusal_113 rfl 2 rfl ?_
            refine hz_aload_nE hO dX1_refusal_114 rfl 1 rfl ?_
            refine hz_iload_n hO dX1_refusal_115 rfl 3 rfl ?_
            obtain ⟨r15, M16, hq17, h⟩ := hz_ct_e h
            refine hz_callSi (as := [hz_ev w a1, .int a3]) (rest := [.int a2, .ref (hz_ad w 25)]) hO (c_X1_deedOf l w hN a1 a3 hq17) hz_cal_X1_deedOf tw_3_214 (Nat.le_of_ble_eq_true rfl) rfl rfl (Nat.le_of_ble_eq_true rfl) dX1_refusal_116 ?_
            obtain ⟨r18, M19, hq20, h⟩ := hz_ct_e h
            refine hz_callVi (as := [.int a2, .int r15]) (rest := []) hO (c_X9_reason l w hN a2 r15 hq20) hz_cal_X9_reason hz_K_7 hz_sh_25 (hz_lt_25 hN) tw_3_217 (Nat.le_of_ble_eq_true rfl) rfl rfl (Nat.le_of_ble_eq_true rfl) dX1_refusal_119 ?_
            refine hz_if_ne (tgt := 129) hO dX1_refusal_122 (by decide) (fun hc21 => ?_) (fun hc21 => ?_)
            · rw [if_neg hc21] at h
              refine hz_bipush (v := (-2 : Int32)) hO dX1_refusal_129 (by decide) ?_
              exact hz_nameM (hz_some_e h).2.symm (hz_name (hz_some_e h).1.symm (hz_iret hO dX1_refusal_131))
            · rw [if_pos hc21] at h
              refine hz_iconst (v := (0 : Int32)) hO dX1_refusal_125 (by decide) ?_
              refine hz_goto (tgt := 131) hO dX1_refusal_126 (by decide) ?_
              exact hz_nameM (hz_some_e h).2.symm (hz_name (hz_some_e h).1.symm (hz_iret hO dX1_refusal_131))
def f_X1_perform (a1 : Int32) (a2 : Int32) (a3 : Int32) (M : hz_M) : hz_O :=
  hz_gd (hz_nn a1) <|
  hz_gd (hz_in (hz_eF 0 a1) 11) <|
  hz_lt ((hz_sw.getD (Int32.toNatClampNeg (hz_eF 0 a1)) 0)) fun x4 =>
  if x4 = 1 then
    hz_ct (f_X1_seatInHall a2 M) fun r6 M7 =>
    some (r6, M7)
  else
  if x4 = 2 then
    hz_ct (f_X1_hear a2 M) fun r10 M11 =>
    some (r10, M11)
  else
  if x4 = 3 then
    hz_ct (f_X7_pass a3 M) fun r14 M15 =>
    some (r14, M15)
  else
  if x4 = 4 then
    hz_ct (f_X1_washBasket M) fun r18 M19 =>
    some (r18, M19)
  else
  if x4 = 5 then
    hz_ct (f_X1_turn a2 a3 M) fun r22 M23 =>
    some (r22, M23)
  else
  if x4 = 6 then
    hz_ct (f_X1_seat a2 a3 M) fun r26 M27 =>
    some (r26, M27)
  else
  if x4 = 7 then
    hz_ct (f_X1_hangUp a2 a3 M) fun r30 M31 =>
    some (r30, M31)
  else
  if x4 = 8 then
    hz_ct (f_X1_takeDown a2 a3 M) fun r34 M35 =>
    some (r34, M35)
  else
  if x4 = 9 then
    hz_ct (f_X1_letGo a2 M) fun r38 M39 =>
    some (r38, M39)
  else
  if x4 = 10 then
    hz_ct (f_X1_letIn a2 M) fun r42 M43 =>
    some (r42, M43)
  else
  some ((-1 : Int32), M)
set_option maxRecDepth 100000 in
set_option maxHeartbeats 4000000 in
theorem c_X1_perform (l : Launch) (w : hz_C) {N : Nat} (hN : 178 ≤ N) (a1 : Int32) (a2 : Int32) (a3 : Int32) {M : hz_M} {rE : Int32} {ME : hz_M} (h : f_X1_perform a1 a2 a3 M = some (rE, ME)) : hz_Ct l yX1_perform cX1_perform 4 (some .int) 4 w N [.ref (hz_ad w 26), hz_ev w a1, .int a2, .int a3] M (hz_Qi w N rE ME) := by
  refine hz_ofW (by decide) rfl (by simp [lg_sl, hz_ev_cat, hz_cr, hz_ci]) tw_4_21 ?_
  intro p e s m args below meth c hO
  rw [show lv_args 0 [.ref (hz_ad w 26), hz_ev w a1, .int a2, .int a3] = [(0, .ref (hz_ad w 26)), (1, hz_ev w a1), (2, .int a2), (3, .int a3)] from by simp [lv_args, hz_ev_cat, hz_cr, hz_ci]]
  show hz_G p l e 4 hz_z0 s m args below meth c w N 4 _ M 0 [(0, .ref (hz_ad w 26)), (1, hz_ev w a1), (2, .int a2), (3, .int a3)] []
  unfold f_X1_perform at h
  obtain ⟨t1, hz_t1, ht_t1⟩ := hO.2.2.2.1.2.2.2.2.2.1
  refine hz_gets hO hz_t1 tw_3_206 rfl dX1_perform_0 ?_
  refine hz_aload_nE hO dX1_perform_3 rfl 1 rfl ?_
  obtain ⟨hg2, h⟩ := hz_gd_e h
  refine hz_ord (rest := [.ref t1]) hO hg2 tw_3_208 (Nat.le_of_ble_eq_true rfl) (Nat.le_of_ble_eq_true rfl) dX1_perform_4 ?_
  obtain ⟨hg3, h⟩ := hz_gd_e h
  refine hz_ti (v := .int (hz_sw.getD (Int32.toNatClampNeg (hz_eF 0 a1)) 0)) hO ht_t1 (hz_in_e hg3) rfl dX1_perform_7 ?_
  obtain ⟨x4, h_x4, h⟩ := hz_lt_e h
  refine hz_name h_x4 ?_
  by_cases hc5 : x4 = (1 : Int32)
  · rw [if_pos hc5] at h
    refine hz_tin (tgt := 77) hO hc5 dX1_perform_8 (by decide) (by decide) rfl (by decide) ?_
    refine hz_aload_n hO dX1_perform_77 rfl 0 rfl ?_
    refine hz_iload_n hO dX1_perform_78 rfl 2 rfl ?_
    obtain ⟨r6, M7, hq8, h⟩ := hz_ct_e h
    refine hz_callVi (as := [.int a2]) (rest := []) hO (c_X1_seatInHall l w hN a2 hq8) hz_cal_X1_seatInHall hz_K_0 hz_sh_26 (hz_lt_26 hN) tw_4_49 (Nat.le_of_ble_eq_true rfl) rfl rfl (Nat.le_of_ble_eq_true rfl) dX1_perform_79 ?_
    exact hz_nameM (hz_some_e h).2.symm (hz_name (hz_some_e h).1.symm (hz_iret hO dX1_perform_82))
  · rw [if_neg hc5] at h
    by_cases hc9 : x4 = (2 : Int32)
    · rw [if_pos hc9] at h
      refine hz_tin (tgt := 103) hO hc9 dX1_perform_8 (by decide) (by decide) rfl (by decide) ?_
      refine hz_aload_n hO dX1_perform_103 rfl 0 rfl ?_
      refine hz_iload_n hO dX1_perform_104 rfl 2 rfl ?_
      obtain ⟨r10, M11, hq12, h⟩ := hz_ct_e h
      refine hz_callVi (as := [.int a2]) (rest := []) hO (c_X1_hear l w hN a2 hq12) hz_cal_X1_hear hz_K_0 hz_sh_26 (hz_lt_26 hN) tw_4_66 (Nat.le_of_ble_eq_true rfl) rfl rfl (Nat.le_of_ble_eq_true rfl) dX1_perform_105 ?_
      exact hz_nameM (hz_some_e h).2.symm (hz_name (hz_some_e h).1.symm (hz_iret hO dX1_perform_108))
    · rw [if_neg hc9] at h
      by_cases hc13 : x4 = (3 : Int32)
      · rw [if_pos hc13] at h
        refine hz_tin (tgt := 121) hO hc13 dX1_perform_8 (by decide) (by decide) rfl (by decide) ?_
        refine hz_aload_n hO dX1_perform_121 rfl 0 rfl ?_
        refine hz_getR (k := 1) hO 11 hz_K_0 hz_sh_26 (hz_lt_26 hN) rfl (Nat.le_of_ble_eq_true rfl) tw_2_30 rfl dX1_perform_122 ?_
        refine hz_iload_n hO dX1_perform_125 rfl 3 rfl ?_
        obtain ⟨r14, M15, hq16, h⟩ := hz_ct_e h
        refine hz_callVi (as := [.int a3]) (rest := []) hO (c_X7_pass l w hN a3 hq16) hz_cal_X7_pass hz_K_5 hz_sh_11 (hz_lt_11 hN) tw_4_91 (Nat.le_of_ble_eq_true rfl) rfl rfl (Nat.le_of_ble_eq_true rfl) dX1_perform_126 ?_
        exact hz_nameM (hz_some_e h).2.symm (hz_name (hz_some_e h).1.symm (hz_iret hO dX1_perform_129))
      · rw [if_neg hc13] at h
        by_cases hc17 : x4 = (4 : Int32)
        · rw [if_pos hc17] at h
          refine hz_tin (tgt := 109) hO hc17 dX1_perform_8 (by decide) (by decide) rfl (by decide) ?_
          refine hz_aload_n hO dX1_perform_109 rfl 0 rfl ?_
          obtain ⟨r18, M19, hq20, h⟩ := hz_ct_e h
          refine hz_callVi (as := []) (rest := []) hO (c_X1_washBasket l w hN hq20) hz_cal_X1_washBasket hz_K_0 hz_sh_26 (hz_lt_26 hN) tw_4_75 (Nat.le_of_ble_eq_true rfl) rfl rfl (Nat.le_of_ble_eq_true rfl) dX1_perform_110 ?_
          exact hz_nameM (hz_some_e h).2.symm (hz_name (hz_some_e h).1.symm (hz_iret hO dX1_perform_113))
        · rw [if_neg hc17] at h
          by_cases hc21 : x4 = (5 : Int32)
          · rw [if_pos hc21] at h
            refine hz_tin (tgt := 114) hO hc21 dX1_perform_8 (by decide) (by decide) rfl (by decide) ?_
            refine hz_aload_n hO dX1_perform_114 rfl 0 rfl ?_
            refine hz_iload_n hO dX1_perform_115 rfl 2 rfl ?_
            refine hz_iload_n hO dX1_perform_116 rfl 3 rfl ?_
            obtain ⟨r22, M23, hq24, h⟩ := hz_ct_e h
            refine hz_callVi (as := [.int a2, .int a3]) (rest := []) hO (c_X1_turn l w hN a2 a3 hq24) hz_cal_X1_turn hz_K_0 hz_sh_26 (hz_lt_26 hN) tw_4_87 (Nat.le_of_ble_eq_true rfl) rfl rfl (Nat.le_of_ble_eq_true rfl) dX1_perform_117 ?_
            exact hz_nameM (hz_some_e h).2.symm (hz_name (hz_some_e h).1.symm (hz_iret hO dX1_perform_120))
          · rw [if_neg hc21] at h
            by_cases hc25 : x4 = (6 : Int32)
            · rw [if_pos hc25] at h
              refine hz_tin (tgt := 70) hO hc25 dX1_perform_8 (by decide) (by decide) rfl (by decide) ?_
              refine hz_aload_n hO dX1_perform_70 rfl 0 rfl ?_
              refine hz_iload_n hO dX1_perform_71 rfl 2 rfl ?_
              refine hz_iload_n hO dX1_perform_72 rfl 3 rfl ?_
              obtain ⟨r26, M27, hq28, h⟩ := hz_ct_e h
              refine hz_callVi (as := [.int a2, .int a3]) (rest := []) hO (c_X1_seat l w hN a2 a3 hq28) hz_cal_X1_seat hz_K_0 hz_sh_26 (hz_lt_26 hN) tw_4_41 (Nat.le_of_ble_eq_true rfl) rfl rfl (Nat.le_of_ble_eq_true rfl) dX1_perform_73 ?_
              exact hz_nameM (hz_some_e h).2.symm (hz_name (hz_some_e h).1.symm (hz_iret hO dX1_perform_76))
            · rw [if_neg hc25] at h
              by_cases hc29 : x4 = (7 : Int32)
              · rw [if_pos hc29] at h
                refine hz_tin (tgt := 83) hO hc29 dX1_perform_8 (by decide) (by decide) rfl (by decide) ?_
                refine hz_aload_n hO dX1_perform_83 rfl 0 rfl ?_
                refine hz_iload_n hO dX1_perform_84 rfl 2 rfl ?_
                refine hz_iload_n hO dX1_perform_85 rfl 3 rfl ?_
                obtain ⟨r30, M31, hq32, h⟩ := hz_ct_e h
                refine hz_callVi (as := [.int a2, .int a3]) (rest := []) hO (c_X1_hangUp l w hN a2 a3 hq32) hz_cal_X1_hangUp hz_K_0 hz_sh_26 (hz_lt_26 hN) tw_4_53 (Nat.le_of_ble_eq_true rfl) rfl rfl (Nat.le_of_ble_eq_true rfl) dX1_perform_86 ?_
                exact hz_nameM (hz_some_e h).2.symm (hz_name (hz_some_e h).1.symm (hz_iret hO dX1_perform_89))
              · rw [if_neg hc29] at h
                by_cases hc33 : x4 = (8 : Int32)
                · rw [if_pos hc33] at h
                  refine hz_tin (tgt := 90) hO hc33 dX1_perform_8 (by decide) (by decide) rfl (by decide) ?_
                  refine hz_aload_n hO dX1_perform_90 rfl 0 rfl ?_
                  refine hz_iload_n hO dX1_perform_91 rfl 2 rfl ?_
                  refine hz_iload_n hO dX1_perform_92 rfl 3 rfl ?_
                  obtain ⟨r34, M35, hq36, h⟩ := hz_ct_e h
                  refine hz_callVi (as := [.int a2, .int a3]) (rest := []) hO (c_X1_takeDown l w hN a2 a3 hq36) hz_cal_X1_takeDown hz_K_0 hz_sh_26 (hz_lt_26 hN) tw_4_58 (Nat.le_of_ble_eq_true rfl) rfl rfl (Nat.le_of_ble_eq_true rfl) dX1_perform_93 ?_
                  exact hz_nameM (hz_some_e h).2.symm (hz_name (hz_some_e h).1.symm (hz_iret hO dX1_perform_96))
                · rw [if_neg hc33] at h
                  by_cases hc37 : x4 = (9 : Int32)
                  · rw [if_pos hc37] at h
                    refine hz_tin (tgt := 97) hO hc37 dX1_perform_8 (by decide) (by decide) rfl (by decide) ?_
                    refine hz_aload_n hO dX1_perform_97 rfl 0 rfl ?_
                    refine hz_iload_n hO dX1_perform_98 rfl 2 rfl ?_
                    obtain ⟨r38, M39, hq40, h⟩ := hz_ct_e h
                    refine hz_callVi (as := [.int a2]) (rest := []) hO (c_X1_letGo l w hN a2 hq40) hz_cal_X1_letGo hz_K_0 hz_sh_26 (hz_lt_26 hN) tw_4_62 (Nat.le_of_ble_eq_true rfl) rfl rfl (Nat.le_of_ble_eq_true rfl) dX1_perform_99 ?_
                    exact hz_nameM (hz_some_e h).2.symm (hz_name (hz_some_e h).1.symm (hz_iret hO dX1_perform_102))
                  · rw [if_neg hc37] at h
                    by_cases hc41 : x4 = (10 : Int32)
                    · rw [if_pos hc41] at h
                      refine hz_tin (tgt := 64) hO hc41 dX1_perform_8 (by decide) (by decide) rfl (by decide) ?_
                      refine hz_aload_n hO dX1_perform_64 rfl 0 rfl ?_
                      refine hz_iload_n hO dX1_perform_65 rfl 2 rfl ?_
                      obtain ⟨r42, M43, hq44, h⟩ := hz_ct_e h
                      refine hz_callVi (as := [.int a2]) (rest := []) hO (c_X1_letIn l w hN a2 hq44) hz_cal_X1_letIn hz_K_0 hz_sh_26 (hz_lt_26 hN) tw_4_22 (Nat.le_of_ble_eq_true rfl) rfl rfl (Nat.le_of_ble_eq_true rfl) dX1_perform_66 ?_
                      exact hz_nameM (hz_some_e h).2.symm (hz_name (hz_some_e h).1.symm (hz_iret hO dX1_perform_69))
                    · rw [if_neg hc41] at h
                      have hn1 : ¬ x4.toInt = 1 := lv_neT hc5 rfl
                      have hn2 : ¬ x4.toInt = 2 := lv_neT hc9 rfl
                      have hn3 : ¬ x4.toInt = 3 := lv_neT hc13 rfl
                      have hn4 : ¬ x4.toInt = 4 := lv_neT hc17 rfl
                      have hn5 : ¬ x4.toInt = 5 := lv_neT hc21 rfl
                      have hn6 : ¬ x4.toInt = 6 := lv_neT hc25 rfl
                      have hn7 : ¬ x4.toInt = 7 := lv_neT hc29 rfl
                      have hn8 : ¬ x4.toInt = 8 := lv_neT hc33 rfl
                      have hn9 : ¬ x4.toInt = 9 := lv_neT hc37 rfl
                      have hn10 : ¬ x4.toInt = 10 := lv_neT hc41 rfl
                      refine hz_tout (tgt := 130) hO dX1_perform_8 (by omega) (by decide) ?_
                      refine hz_iconst (v := (-1 : Int32)) hO dX1_perform_130 (by decide) ?_
                      exact hz_nameM (hz_some_e h).2.symm (hz_name (hz_some_e h).1.symm (hz_iret hO dX1_perform_131))
def f_X8_needWord (a1 : Nat) (M : hz_M) : hz_O :=
  hz_ct (f_X8_isWord a1 M) fun r1 M2 =>
  hz_ct (f_X8_goOnIf r1 M2) fun r4 M5 =>
  some (0, M5)
set_option maxRecDepth 100000 in
set_option maxHeartbeats 4000000 in
theorem c_X8_needWord (l : Launch) (w : hz_C) {N : Nat} (hN : 178 ≤ N) (a1 : Nat) {M : hz_M} {rE : Int32} {ME : hz_M} (h : f_X8_needWord a1 M = some (rE, ME)) : hz_Ct l yX8_needWord cX8_needWord 2 none 9 w N [.ref (hz_ad w 9), .ref (hz_sa w a1)] M (hz_Qv w N ME) := by
  refine hz_ofW (by decide) rfl (Nat.le_of_ble_eq_true rfl) tw_2_217 ?_
  intro p e s m args below meth c hO
  show hz_G p l e 9 hz_z0 s m args below meth c w N 2 _ M 0 [(0, .ref (hz_ad w 9)), (1, .ref (hz_sa w a1))] []
  unfold f_X8_needWord at h
  refine hz_aload_n hO dX8_needWord_0 rfl 0 rfl ?_
  refine hz_aload_n hO dX8_needWord_1 rfl 0 rfl ?_
  refine hz_aload_n hO dX8_needWord_2 rfl 1 rfl ?_
  obtain ⟨r1, M2, hq3, h⟩ := hz_ct_e h
  refine hz_callVi (as := [.ref (hz_sa w a1)]) (rest := [.ref (hz_ad w 9)]) hO (c_X8_isWord l w hN a1 hq3) hz_cal_X8_isWord hz_K_6 hz_sh_9 (hz_lt_9 hN) tw_2_218 (Nat.le_of_ble_eq_true rfl) rfl rfl (Nat.le_of_ble_eq_true rfl) dX8_needWord_3 ?_
  obtain ⟨r4, M5, hq6, h⟩ := hz_ct_e h
  refine hz_callVv (as := [.int r1]) (rest := []) hO (c_X8_goOnIf l w hN r1 hq6) hz_cal_X8_goOnIf hz_K_6 hz_sh_9 (hz_lt_9 hN) tw_2_222 (Nat.le_of_ble_eq_true rfl) rfl rfl (Nat.le_of_ble_eq_true rfl) dX8_needWord_6 ?_
  exact hz_nameM (hz_some_e h).2.symm (hz_vret hO dX8_needWord_9)
def f_X3_readGuest (th : Nat) (M : hz_M) : hz_O :=
  hz_jn (fun  (M1 : hz_M) =>
    hz_ct (f_X8_needWord 2 M1) fun r2 M3 =>
    hz_ct (f_X8_checkName M3) fun r5 M6 =>
    hz_jn (fun  (M8 : hz_M) =>
      if (M8 9 6) = 0 then
        if (M8 th 3) < (16 : Int32) then
          hz_ct (f_X3_keepName th M8) fun r11 M12 =>
          hz_ct (f_X8_advance M12) fun r14 M15 =>
          hz_ct (f_X8_needNumber (0 : Int32) (99 : Int32) M15) fun r17 M18 =>
          hz_gd (hz_in (M15 th 3) 16) <|
          hz_lm (hz_set M18 (th + 1) (Int32.toNatClampNeg (M15 th 3)) r17) fun M21 =>
          hz_lm (hz_set M21 th 3 ((M21 th 3) + (1 : Int32))) fun M22 =>
          some (0, M22)
        else
          some (0, M8)
      else
        some (0, M8)
      ) fun k23 =>
    if (M6 9 6) = 0 then
      hz_ct (f_X3_guestNamed th (M6 9 3) (M6 9 4) M6) fun r25 M26 =>
      if r25 = (-1 : Int32) then
        k23 M26
      else
        hz_ct (f_X8_fail (3 : Int32) M26) fun r29 M30 =>
        k23 M30
    else
      k23 M6
    ) fun k32 =>
  if (M th 3) < (16 : Int32) then
    k32 M
  else
    hz_ct (f_X8_isWord 2 M) fun r34 M35 =>
    if r34 = 0 then
      k32 M35
    else
      hz_ct (f_X8_fail (4 : Int32) M35) fun r38 M39 =>
      k32 M39
set_option maxRecDepth 100000 in
set_option maxHeartbeats 4000000 in
theorem c_X3_readGuest (l : Launch) (w : hz_C) {N : Nat} (hN : 178 ≤ N) {th : Nat} (hHo : hz_Ho N th) {M : hz_M} {rE : Int32} {ME : hz_M} (h : f_X3_readGuest th M = some (rE, ME)) : hz_Ct l yX3_readGuest cX3_readGuest 2 none 10 w N [.ref (hz_ad w th), .ref (hz_ad w 9)] M (hz_Qv w N ME) := by
  refine hz_ofW (by decide) rfl (Nat.le_of_ble_eq_true rfl) tw_3_1 ?_
  intro p e s m args below meth c hO
  show hz_G p l e 10 hz_z0 s m args below meth c w N 2 _ M 0 [(0, .ref (hz_ad w th)), (1, .ref (hz_ad w 9))] []
  unfold f_X3_readGuest at h
  refine hz_aload_n hO dX3_readGuest_0 rfl 0 rfl ?_
  refine hz_getI (k := 3) hO hz_K_2 hHo.1 hHo.2.1 rfl (Nat.le_of_ble_eq_true rfl) tw_1_49 rfl dX3_readGuest_1 ?_
  refine hz_bipush (v := (16 : Int32)) hO dX3_readGuest_4 (by decide) ?_
  obtain ⟨k32, hk32, h⟩ := hz_jn_e h
  have gk32 : ∀  (M1 : hz_M), k32 M1 = some (rE, ME) → hz_G p l e 10 hz_z0 s m args below meth c w N 2 (MQ below (hz_Qv w N ME) args s 0 0 (hz_A w)) M1 23 [(0, .ref (hz_ad w th)), (1, .ref (hz_ad w 9))] [] := by
    intro M1 h
    rw [hk32] at h
    dsimp only at h
    refine hz_aload_n hO dX3_readGuest_23 rfl 1 rfl ?_
    refine hz_ldcS (i := 2) hO (List.mem_of_getElem? (i := 8) rfl) dX3_readGuest_24 ?_
    obtain ⟨r2, M3, hq4, h⟩ := hz_ct_e h
    refine hz_callVv (as := [.ref (hz_sa w 2)]) (rest := []) hO (c_X8_needWord l w hN 2 hq4) hz_cal_X8_needWord hz_K_6 hz_sh_9 (hz_lt_9 hN) tw_2_214 (Nat.le_of_ble_eq_true rfl) rfl rfl (Nat.le_of_ble_eq_true rfl) dX3_readGuest_26 ?_
    refine hz_aload_n hO dX3_readGuest_29 rfl 1 rfl ?_
    obtain ⟨r5, M6, hq7, h⟩ := hz_ct_e h
    refine hz_callVv (as := []) (rest := []) hO (c_X8_checkName l w hN hq7) hz_cal_X8_checkName hz_K_6 hz_sh_9 (hz_lt_9 hN) tw_3_5 (Nat.le_of_ble_eq_true rfl) rfl rfl (Nat.le_of_ble_eq_true rfl) dX3_readGuest_30 ?_
    refine hz_aload_n hO dX3_readGuest_33 rfl 1 rfl ?_
    refine hz_getI (k := 6) hO hz_K_6 hz_sh_9 (hz_lt_9 hN) rfl (Nat.le_of_ble_eq_true rfl) tw_1_124 rfl dX3_readGuest_34 ?_
    obtain ⟨k23, hk23, h⟩ := hz_jn_e h
    have gk23 : ∀  (M8 : hz_M), k23 M8 = some (rE, ME) → hz_G p l e 10 hz_z0 s m args below meth c w N 2 (MQ below (hz_Qv w N ME) args s 0 0 (hz_A w)) M8 62 [(0, .ref (hz_ad w th)), (1, .ref (hz_ad w 9))] [] := by
      intro M8 h
      rw [hk23] at h
      dsimp only at h
      refine hz_aload_n hO dX3_readGuest_62 rfl 1 rfl ?_
      refine hz_getI (k := 6) hO hz_K_6 hz_sh_9 (hz_lt_9 hN) rfl (Nat.le_of_ble_eq_true rfl) tw_1_124 rfl dX3_readGuest_63 ?_
      refine hz_if_ne (tgt := 78) hO dX3_readGuest_66 (by decide) (fun hc9 => ?_) (fun hc9 => ?_)
      · rw [if_neg hc9] at h
        exact hz_nameM (hz_some_e h).2.symm (hz_vret hO dX3_readGuest_78)
      · rw [if_pos hc9] at h
        refine hz_aload_n hO dX3_readGuest_69 rfl 0 rfl ?_
        refine hz_getI (k := 3) hO hz_K_2 hHo.1 hHo.2.1 rfl (Nat.le_of_ble_eq_true rfl) tw_1_49 rfl dX3_readGuest_70 ?_
        refine hz_bipush (v := (16 : Int32)) hO dX3_readGuest_73 (by decide) ?_
        refine hz_icmp_lt (tgt := 79) hO dX3_readGuest_75 (by decide) (fun hc10 => ?_) (fun hc10 => ?_)
        · rw [if_pos hc10] at h
          refine hz_aload_n hO dX3_readGuest_79 rfl 0 rfl ?_
          refine hz_aload_n hO dX3_readGuest_80 rfl 1 rfl ?_
          obtain ⟨r11, M12, hq13, h⟩ := hz_ct_e h
          refine hz_callVv (as := [.ref (hz_ad w 9)]) (rest := []) hO (c_X3_keepName l w hN hHo hq13) hz_cal_X3_keepName hz_K_2 hHo.1 hHo.2.1 tw_3_18 (Nat.le_of_ble_eq_true rfl) rfl rfl (Nat.le_of_ble_eq_true rfl) dX3_readGuest_81 ?_
          refine hz_aload_n hO dX3_readGuest_84 rfl 1 rfl ?_
          obtain ⟨r14, M15, hq16, h⟩ := hz_ct_e h
          refine hz_callVv (as := []) (rest := []) hO (c_X8_advance l w hN hq16) hz_cal_X8_advance hz_K_6 hz_sh_9 (hz_lt_9 hN) tw_3_23 (Nat.le_of_ble_eq_true rfl) rfl rfl (Nat.le_of_ble_eq_true rfl) dX3_readGuest_85 ?_
          refine hz_aload_n hO dX3_readGuest_88 rfl 0 rfl ?_
          refine hz_getR (k := 0) hO (th + 1) hz_K_2 hHo.1 hHo.2.1 rfl (Nat.le_of_ble_eq_true rfl) tw_1_42 rfl dX3_readGuest_89 ?_
          refine hz_aload_n hO dX3_readGuest_92 rfl 0 rfl ?_
          refine hz_getI (k := 3) hO hz_K_2 hHo.1 hHo.2.1 rfl (Nat.le_of_ble_eq_true rfl) tw_1_49 rfl dX3_readGuest_93 ?_
          refine hz_aload_n hO dX3_readGuest_96 rfl 1 rfl ?_
          refine hz_iconst (v := (0 : Int32)) hO dX3_readGuest_97 (by decide) ?_
          refine hz_bipush (v := (99 : Int32)) hO dX3_readGuest_98 (by decide) ?_
          obtain ⟨r17, M18, hq19, h⟩ := hz_ct_e h
          refine hz_callVi (as := [.int (0 : Int32), .int (99 : Int32)]) (rest := [.int (M15 th 3), .ref (hz_ad w (th + 1))]) hO (c_X8_needNumber l w hN (0 : Int32) (99 : Int32) hq19) hz_cal_X8_needNumber hz_K_6 hz_sh_9 (hz_lt_9 hN) tw_2_230 (Nat.le_of_ble_eq_true rfl) rfl rfl (Nat.le_of_ble_eq_true rfl) dX3_readGuest_100 ?_
          obtain ⟨hg20, h⟩ := hz_gd_e h
          obtain ⟨M21, h_M21, h⟩ := hz_lm_e h
          refine hz_iast hO hHo.2.2.1 hHo.2.2.2.1 hg20 dX3_readGuest_103 ?_
          refine hz_nameM h_M21 ?_
          refine hz_aload_n hO dX3_readGuest_104 rfl 0 rfl ?_
          refine hz_dup hO dX3_readGuest_105 rfl ?_
          refine hz_getI (k := 3) hO hz_K_2 hHo.1 hHo.2.1 rfl (Nat.le_of_ble_eq_true rfl) tw_1_49 rfl dX3_readGuest_106 ?_
          refine hz_iconst (v := (1 : Int32)) hO dX3_readGuest_109 (by decide) ?_
          refine hz_iadd hO dX3_readGuest_110 ?_
          obtain ⟨M22, h_M22, h⟩ := hz_lm_e h
          refine hz_putI (k := 3) (ty := .int) hO hz_K_2 tyX3_ok nmX3 hHo.1 hHo.2.1 rfl (Nat.le_of_ble_eq_true rfl) tw_1_49 rfl rfl rfl rfl rfl dX3_readGuest_111 ?_
          refine hz_nameM h_M22 ?_
          exact hz_nameM (hz_some_e h).2.symm (hz_vret hO dX3_readGuest_114)
        · rw [if_neg hc10] at h
          exact hz_nameM (hz_some_e h).2.symm (hz_vret hO dX3_readGuest_78)
    clear hk23
    refine hz_if_ne (tgt := 62) hO dX3_readGuest_37 (by decide) (fun hc24 => ?_) (fun hc24 => ?_)
    · rw [if_neg hc24] at h
      exact hz_ls [0, 1] rfl (gk23 M6 h)
    · rw [if_pos hc24] at h
      refine hz_aload_n hO dX3_readGuest_40 rfl 0 rfl ?_
      refine hz_aload_n hO dX3_readGuest_41 rfl 1 rfl ?_
      refine hz_aload_n hO dX3_readGuest_42 rfl 1 rfl ?_
      refine hz_getI (k := 3) hO hz_K_6 hz_sh_9 (hz_lt_9 hN) rfl (Nat.le_of_ble_eq_true rfl) tw_1_115 rfl dX3_readGuest_43 ?_
      refine hz_aload_n hO dX3_readGuest_46 rfl 1 rfl ?_
      refine hz_getI (k := 4) hO hz_K_6 hz_sh_9 (hz_lt_9 hN) rfl (Nat.le_of_ble_eq_true rfl) tw_1_118 rfl dX3_readGuest_47 ?_
      obtain ⟨r25, M26, hq27, h⟩ := hz_ct_e h
      refine hz_callVi (as := [.ref (hz_ad w 9), .int (M6 9 3), .int (M6 9 4)]) (rest := []) hO (c_X3_guestNamed l w hN hHo (M6 9 3) (M6 9 4) hq27) hz_cal_X3_guestNamed hz_K_2 hHo.1 hHo.2.1 tw_3_9 (Nat.le_of_ble_eq_true rfl) rfl rfl (Nat.le_of_ble_eq_true rfl) dX3_readGuest_50 ?_
      refine hz_iconst (v := (-1 : Int32)) hO dX3_readGuest_53 (by decide) ?_
      refine hz_icmp_eq (tgt := 62) hO dX3_readGuest_54 (by decide) (fun hc28 => ?_) (fun hc28 => ?_)
      · rw [if_pos hc28] at h
        exact hz_ls [0, 1] rfl (gk23 M26 h)
      · rw [if_neg hc28] at h
        refine hz_aload_n hO dX3_readGuest_57 rfl 1 rfl ?_
        refine hz_iconst (v := (3 : Int32)) hO dX3_readGuest_58 (by decide) ?_
        obtain ⟨r29, M30, hq31, h⟩ := hz_ct_e h
        refine hz_callVv (as := [.int (3 : Int32)]) (rest := []) hO (c_X8_fail l w hN (3 : Int32) hq31) hz_cal_X8_fail hz_K_6 hz_sh_9 (hz_lt_9 hN) tw_3_4 (Nat.le_of_ble_eq_true rfl) rfl rfl (Nat.le_of_ble_eq_true rfl) dX3_readGuest_59 ?_
        exact hz_ls [0, 1] rfl (gk23 M30 h)
  clear hk32
  refine hz_icmp_lt (tgt := 23) hO dX3_readGuest_6 (by decide) (fun hc33 => ?_) (fun hc33 => ?_)
  · rw [if_pos hc33] at h
    exact hz_ls [0, 1] rfl (gk32 M h)
  · rw [if_neg hc33] at h
    refine hz_aload_n hO dX3_readGuest_9 rfl 1 rfl ?_
    refine hz_ldcS (i := 2) hO (List.mem_of_getElem? (i := 8) rfl) dX3_readGuest_10 ?_
    obtain ⟨r34, M35, hq36, h⟩ := hz_ct_e h
    refine hz_callVi (as := [.ref (hz_sa w 2)]) (rest := []) hO (c_X8_isWord l w hN 2 hq36) hz_cal_X8_isWord hz_K_6 hz_sh_9 (hz_lt_9 hN) tw_3_3 (Nat.le_of_ble_eq_true rfl) rfl rfl (Nat.le_of_ble_eq_true rfl) dX3_readGuest_12 ?_
    refine hz_if_eq (tgt := 23) hO dX3_readGuest_15 (by decide) (fun hc37 => ?_) (fun hc37 => ?_)
    · rw [if_pos hc37] at h
      exact hz_ls [0, 1] rfl (gk32 M35 h)
    · rw [if_neg hc37] at h
      refine hz_aload_n hO dX3_readGuest_18 rfl 1 rfl ?_
      refine hz_iconst (v := (4 : Int32)) hO dX3_readGuest_19 (by decide) ?_
      obtain ⟨r38, M39, hq40, h⟩ := hz_ct_e h
      refine hz_callVv (as := [.int (4 : Int32)]) (rest := []) hO (c_X8_fail l w hN (4 : Int32) hq40) hz_cal_X8_fail hz_K_6 hz_sh_9 (hz_lt_9 hN) tw_3_4 (Nat.le_of_ble_eq_true rfl) rfl rfl (Nat.le_of_ble_eq_true rfl) dX3_readGuest_20 ?_
      exact hz_ls [0, 1] rfl (gk32 M39 h)
def f_X3_read_L106 (th : Nat) (kk145 : hz_M → hz_O) : Nat → Int32 → hz_M → hz_O
  | 0, _, _ => none
  | n + 1, v2_45, M46 =>
    if (16 : Int32) < v2_45 then
      kk145 M46
    else
      if (M46 9 6) = 0 then
        if (M46 9 2) = (59 : Int32) then
          hz_ct (f_X8_needSign (59 : Int32) M46) fun r50 M51 =>
          hz_ct (f_X3_readGuest th M51) fun r53 M54 =>
          hz_lt (v2_45 + (1 : Int32)) fun x56 =>
          f_X3_read_L106 th kk145 n x56 M54
        else
          kk145 M46
      else
        kk145 M46
def f_X3_read (th : Nat) (M : hz_M) : hz_O :=
  hz_lm (hz_set M th 3 (0 : Int32)) fun M1 =>
  hz_ct (f_X8_rewind M1) fun r2 M3 =>
  hz_ct (f_X8_needWord 1 M3) fun r5 M6 =>
  hz_ct (f_X8_needNumber (1 : Int32) (12 : Int32) M6) fun r8 M9 =>
  hz_lm (hz_set M9 th 4 r8) fun M11 =>
  hz_ct (f_X8_needNumber (1 : Int32) (16 : Int32) M11) fun r12 M13 =>
  hz_lm (hz_set M13 th 5 r12) fun M15 =>
  hz_ct (f_X8_needNumber (0 : Int32) (M15 th 5) M15) fun r16 M17 =>
  hz_lm (hz_set M17 th 6 r16) fun M19 =>
  hz_ct (f_X8_needNumber (1 : Int32) (4 : Int32) M19) fun r20 M21 =>
  hz_lm (hz_set M21 th 7 r20) fun M23 =>
  hz_ct (f_X8_needNumber (1 : Int32) (6 : Int32) M23) fun r24 M25 =>
  hz_lm (hz_set M25 th 8 r24) fun M27 =>
  hz_ct (f_X8_needNumber (1 : Int32) (9 : Int32) M27) fun r28 M29 =>
  hz_lm (hz_set M29 th 9 r28) fun M31 =>
  hz_ct (f_X8_needNumber (2 : Int32) (60 : Int32) M31) fun r32 M33 =>
  hz_lm (hz_set M33 th 10 r32) fun M35 =>
  hz_ct (f_X8_needNumber (0 : Int32) (30 : Int32) M35) fun r36 M37 =>
  hz_lm (hz_set M37 th 11 r36) fun M39 =>
  hz_jn (fun  (M40 : hz_M) =>
    hz_ct (f_X8_needEnd M40) fun r41 M42 =>
    some (0, M42)
    ) fun k44 =>
  f_X3_read_L106 th k44 hz_FU (0 : Int32) M39
set_option maxRecDepth 100000 in
set_option maxHeartbeats 4000000 in
theorem g_X3_read_L106 {p : Program} {l : Launch} {e : Env} {s : State} {m : MethodId} {args : Array Value} {below : List Frame} {meth : Method} {c : Code} {w : hz_C} {N : Nat} (hN : 178 ≤ N) {th : Nat} (hHo : hz_Ho N th) {rE : Int32} {ME : hz_M} (hO : hz_Ok p s m args meth c w cX3_read 3 RX3 none) (kk145 : hz_M → hz_O) (gkk145 : ∀  (M : hz_M), kk145 M = some (rE, ME) → hz_G p l e 11 hz_z0 s m args below meth c w N 3 (MQ below (hz_Qv w N ME) args s 0 0 (hz_A w)) M 145 [(1, .ref (hz_ad w 9))] []) : ∀ (n : Nat) (v2_45 : Int32) (M46 : hz_M), f_X3_read_L106 th kk145 n v2_45 M46 = some (rE, ME) → hz_G p l e 11 hz_z0 s m args below meth c w N 3 (MQ below (hz_Qv w N ME) args s 0 0 (hz_A w)) M46 106 [(0, .ref (hz_ad w th)), (1, .ref (hz_ad w 9)), (2, .int v2_45)] [] := by
  intro n
  induction n with
  | zero =>
    intro v2_45 M46 h
    rw [f_X3_read_L106] at h
    cases h
  | succ n ih =>
    intro v2_45 M46 h
    rw [f_X3_read_L106] at h
    refine hz_iload_n hO dX3_read_106 rfl 2 rfl ?_
    refine hz_bipush (v := (16 : Int32)) hO dX3_read_107 (by decide) ?_
    refine hz_icmp_gt (tgt := 145) hO dX3_read_109 (by decide) (fun hc47 => ?_) (fun hc47 => ?_)
    · rw [if_pos hc47] at h
      exact hz_ls [1] rfl (gkk145 M46 h)
    · rw [if_neg hc47] at h
      refine hz_aload_n hO dX3_read_112 rfl 1 rfl ?_
      refine hz_getI (k := 6) hO hz_K_6 hz_sh_9 (hz_lt_9 hN) rfl (Nat.le_of_ble_eq_true rfl) tw_1_124 rfl dX3_read_113 ?_
      refine hz_if_ne (tgt := 145) hO dX3_read_116 (by decide) (fun hc48 => ?_) (fun hc48 => ?_)
      · rw [if_neg hc48] at h
        exact hz_ls [1] rfl (gkk145 M46 h)
      · rw [if_pos hc48] at h
        refine hz_aload_n hO dX3_read_119 rfl 1 rfl ?_
        refine hz_getI (k := 2) hO hz_K_6 hz_sh_9 (hz_lt_9 hN) rfl (Nat.le_of_ble_eq_true rfl) tw_1_113 rfl dX3_read_120 ?_
        refine hz_bipush (v := (59 : Int32)) hO dX3_read_123 (by decide) ?_
        refine hz_icmp_ne (tgt := 145) hO dX3_read_125 (by decide) (fun hc49 => ?_) (fun hc49 => ?_)
        · rw [if_neg hc49] at h
          exact hz_ls [1] rfl (gkk145 M46 h)
        · rw [if_pos hc49] at h
          refine hz_aload_n hO dX3_read_128 rfl 1 rfl ?_
          refine hz_bipush (v := (59 : Int32)) hO dX3_read_129 (by decide) ?_
          obtain ⟨r50, M51, hq52, h⟩ := hz_ct_e h
          refine hz_callVv (as := [.int (59 : Int32)]) (rest := []) hO (c_X8_needSign l w hN (59 : Int32) hq52) hz_cal_X8_needSign hz_K_6 hz_sh_9 (hz_lt_9 hN) tw_2_234 (Nat.le_of_ble_eq_true rfl) rfl rfl (Nat.le_of_ble_eq_true rfl) dX3_read_131 ?_
          refine hz_aload_n hO dX3_read_134 rfl 0 rfl ?_
          refine hz_aload_n hO dX3_read_135 rfl 1 rfl ?_
          obtain ⟨r53, M54, hq55, h⟩ := hz_ct_e h
          refine hz_callVv (as := [.ref (hz_ad w 9)]) (rest := []) hO (c_X3_readGuest l w hN hHo hq55) hz_cal_X3_readGuest hz_K_2 hHo.1 hHo.2.1 tw_2_238 (Nat.le_of_ble_eq_true rfl) rfl rfl (Nat.le_of_ble_eq_true rfl) dX3_read_136 ?_
          obtain ⟨x56, h_x56, h⟩ := hz_lt_e h
          refine hz_iinc (k := 2) (v := x56) (ls1 := [(2, .int x56), (0, .ref (hz_ad w th)), (1, .ref (hz_ad w 9))]) hO dX3_read_139 rfl (by rw [h_x56]; rfl) (Nat.le_of_ble_eq_true rfl) rfl ?_
          refine hz_goto (tgt := 106) hO dX3_read_142 (by decide) ?_
          exact hz_ls [1, 2, 0] rfl (ih x56 M54 h)
set_option maxRecDepth 100000 in
set_option maxHeartbeats 4000000 in
theorem c_X3_read (l : Launch) (w : hz_C) {N : Nat} (hN : 178 ≤ N) {th : Nat} (hHo : hz_Ho N th) {M : hz_M} {rE : Int32} {ME : hz_M} (h : f_X3_read th M = some (rE, ME)) : hz_Ct l yX3_read cX3_read 3 none 11 w N [.ref (hz_ad w th), .ref (hz_ad w 9)] M (hz_Qv w N ME) := by
  refine hz_ofW (by decide) rfl (Nat.le_of_ble_eq_true rfl) tw_2_185 ?_
  intro p e s m args below meth c hO
  show hz_G p l e 11 hz_z0 s m args below meth c w N 3 _ M 0 [(0, .ref (hz_ad w th)), (1, .ref (hz_ad w 9))] []
  unfold f_X3_read at h
  refine hz_aload_n hO dX3_read_0 rfl 0 rfl ?_
  refine hz_iconst (v := (0 : Int32)) hO dX3_read_1 (by decide) ?_
  obtain ⟨M1, h_M1, h⟩ := hz_lm_e h
  refine hz_putI (k := 3) (ty := .int) hO hz_K_2 tyX3_ok nmX3 hHo.1 hHo.2.1 rfl (Nat.le_of_ble_eq_true rfl) tw_1_49 rfl rfl rfl rfl rfl dX3_read_2 ?_
  refine hz_nameM h_M1 ?_
  refine hz_aload_n hO dX3_read_5 rfl 1 rfl ?_
  obtain ⟨r2, M3, hq4, h⟩ := hz_ct_e h
  refine hz_callVv (as := []) (rest := []) hO (c_X8_rewind l w hN hq4) hz_cal_X8_rewind hz_K_6 hz_sh_9 (hz_lt_9 hN) tw_2_186 (Nat.le_of_ble_eq_true rfl) rfl rfl (Nat.le_of_ble_eq_true rfl) dX3_read_6 ?_
  refine hz_aload_n hO dX3_read_9 rfl 1 rfl ?_
  refine hz_ldcS (i := 1) hO (List.mem_of_getElem? (i := 7) rfl) dX3_read_10 ?_
  obtain ⟨r5, M6, hq7, h⟩ := hz_ct_e h
  refine hz_callVv (as := [.ref (hz_sa w 1)]) (rest := []) hO (c_X8_needWord l w hN 1 hq7) hz_cal_X8_needWord hz_K_6 hz_sh_9 (hz_lt_9 hN) tw_2_214 (Nat.le_of_ble_eq_true rfl) rfl rfl (Nat.le_of_ble_eq_true rfl) dX3_read_12 ?_
  refine hz_aload_n hO dX3_read_15 rfl 0 rfl ?_
  refine hz_aload_n hO dX3_read_16 rfl 1 rfl ?_
  refine hz_iconst (v := (1 : Int32)) hO dX3_read_17 (by decide) ?_
  refine hz_bipush (v := (12 : Int32)) hO dX3_read_18 (by decide) ?_
  obtain ⟨r8, M9, hq10, h⟩ := hz_ct_e h
  refine hz_callVi (as := [.int (1 : Int32), .int (12 : Int32)]) (rest := [.ref (hz_ad w th)]) hO (c_X8_needNumber l w hN (1 : Int32) (12 : Int32) hq10) hz_cal_X8_needNumber hz_K_6 hz_sh_9 (hz_lt_9 hN) tw_2_230 (Nat.le_of_ble_eq_true rfl) rfl rfl (Nat.le_of_ble_eq_true rfl) dX3_read_20 ?_
  obtain ⟨M11, h_M11, h⟩ := hz_lm_e h
  refine hz_putI (k := 4) (ty := .int) hO hz_K_2 tyX3_ok nmX3 hHo.1 hHo.2.1 rfl (Nat.le_of_ble_eq_true rfl) tw_1_53 rfl rfl rfl rfl rfl dX3_read_23 ?_
  refine hz_nameM h_M11 ?_
  refine hz_aload_n hO dX3_read_26 rfl 0 rfl ?_
  refine hz_aload_n hO dX3_read_27 rfl 1 rfl ?_
  refine hz_iconst (v := (1 : Int32)) hO dX3_read_28 (by decide) ?_
  refine hz_bipush (v := (16 : Int32)) hO dX3_read_29 (by decide) ?_
  obtain ⟨r12, M13, hq14, h⟩ := hz_ct_e h
  refine hz_callVi (as := [.int (1 : Int32), .int (16 : Int32)]) (rest := [.ref (hz_ad w th)]) hO (c_X8_needNumber l w hN (1 : Int32) (16 : Int32) hq14) hz_cal_X8_needNumber hz_K_6 hz_sh_9 (hz_lt_9 hN) tw_2_230 (Nat.le_of_ble_eq_true rfl) rfl rfl (Nat.le_of_ble_eq_true rfl) dX3_read_31 ?_
  obtain ⟨M15, h_M15, h⟩ := hz_lm_e h
  refine hz_putI (k := 5) (ty := .int) hO hz_K_2 tyX3_ok nmX3 hHo.1 hHo.2.1 rfl (Nat.le_of_ble_eq_true rfl) tw_1_57 rfl rfl rfl rfl rfl dX3_read_34 ?_
  refine hz_nameM h_M15 ?_
  refine hz_aload_n hO dX3_read_37 rfl 0 rfl ?_
  refine hz_aload_n hO dX3_read_38 rfl 1 rfl ?_
  refine hz_iconst (v := (0 : Int32)) hO dX3_read_39 (by decide) ?_
  refine hz_aload_n hO dX3_read_40 rfl 0 rfl ?_
  refine hz_getI (k := 5) hO hz_K_2 hHo.1 hHo.2.1 rfl (Nat.le_of_ble_eq_true rfl) tw_1_57 rfl dX3_read_41 ?_
  obtain ⟨r16, M17, hq18, h⟩ := hz_ct_e h
  refine hz_callVi (as := [.int (0 : Int32), .int (M15 th 5)]) (rest := [.ref (hz_ad w th)]) hO (c_X8_needNumber l w hN (0 : Int32) (M15 th 5) hq18) hz_cal_X8_needNumber hz_K_6 hz_sh_9 (hz_lt_9 hN) tw_2_230 (Nat.le_of_ble_eq_true rfl) rfl rfl (Nat.le_of_ble_eq_true rfl) dX3_read_44 ?_
  obtain ⟨M19, h_M19, h⟩ := hz_lm_e h
  refine hz_putI (k := 6) (ty := .int) hO hz_K_2 tyX3_ok nmX3 hHo.1 hHo.2.1 rfl (Nat.le_of_ble_eq_true rfl) tw_1_61 rfl rfl rfl rfl rfl dX3_read_47 ?_
  refine hz_nameM h_M19 ?_
  refine hz_aload_n hO dX3_read_50 rfl 0 rfl ?_
  refine hz_aload_n hO dX3_read_51 rfl 1 rfl ?_
  refine hz_iconst (v := (1 : Int32)) hO dX3_read_52 (by decide) ?_
  refine hz_iconst (v := (4 : Int32)) hO dX3_read_53 (by decide) ?_
  obtain ⟨r20, M21, hq22, h⟩ := hz_ct_e h
  refine hz_callVi (as := [.int (1 : Int32), .int (4 : Int32)]) (rest := [.ref (hz_ad w th)]) hO (c_X8_needNumber l w hN (1 : Int32) (4 : Int32) hq22) hz_cal_X8_needNumber hz_K_6 hz_sh_9 (hz_lt_9 hN) tw_2_230 (Nat.le_of_ble_eq_true rfl) rfl rfl (Nat.le_of_ble_eq_true rfl) dX3_read_54 ?_
  obtain ⟨M23, h_M23, h⟩ := hz_lm_e h
  refine hz_putI (k := 7) (ty := .int) hO hz_K_2 tyX3_ok nmX3 hHo.1 hHo.2.1 rfl (Nat.le_of_ble_eq_true rfl) tw_1_65 rfl rfl rfl rfl rfl dX3_read_57 ?_
  refine hz_nameM h_M23 ?_
  refine hz_aload_n hO dX3_read_60 rfl 0 rfl ?_
  refine hz_aload_n hO dX3_read_61 rfl 1 rfl ?_
  refine hz_iconst (v := (1 : Int32)) hO dX3_read_62 (by decide) ?_
  refine hz_bipush (v := (6 : Int32)) hO dX3_read_63 (by decide) ?_
  obtain ⟨r24, M25, hq26, h⟩ := hz_ct_e h
  refine hz_callVi (as := [.int (1 : Int32), .int (6 : Int32)]) (rest := [.ref (hz_ad w th)]) hO (c_X8_needNumber l w hN (1 : Int32) (6 : Int32) hq26) hz_cal_X8_needNumber hz_K_6 hz_sh_9 (hz_lt_9 hN) tw_2_230 (Nat.le_of_ble_eq_true rfl) rfl rfl (Nat.le_of_ble_eq_true rfl) dX3_read_65 ?_
  obtain ⟨M27, h_M27, h⟩ := hz_lm_e h
  refine hz_putI (k := 8) (ty := .int) hO hz_K_2 tyX3_ok nmX3 hHo.1 hHo.2.1 rfl (Nat.le_of_ble_eq_true rfl) tw_1_69 rfl rfl rfl rfl rfl dX3_read_68 ?_
  refine hz_nameM h_M27 ?_
  refine hz_aload_n hO dX3_read_71 rfl 0 rfl ?_
  refine hz_aload_n hO dX3_read_72 rfl 1 rfl ?_
  refine hz_iconst (v := (1 : Int32)) hO dX3_read_73 (by decide) ?_
  refine hz_bipush (v := (9 : Int32)) hO dX3_read_74 (by decide) ?_
  obtain ⟨r28, M29, hq30, h⟩ := hz_ct_e h
  refine hz_callVi (as := [.int (1 : Int32), .int (9 : Int32)]) (rest := [.ref (hz_ad w th)]) hO (c_X8_needNumber l w hN (1 : Int32) (9 : Int32) hq30) hz_cal_X8_needNumber hz_K_6 hz_sh_9 (hz_lt_9 hN) tw_2_230 (Nat.le_of_ble_eq_true rfl) rfl rfl (Nat.le_of_ble_eq_true rfl) dX3_read_76 ?_
  obtain ⟨M31, h_M31, h⟩ := hz_lm_e h
  refine hz_putI (k := 9) (ty := .int) hO hz_K_2 tyX3_ok nmX3 hHo.1 hHo.2.1 rfl (Nat.le_of_ble_eq_true rfl) tw_1_72 rfl rfl rfl rfl rfl dX3_read_79 ?_
  refine hz_nameM h_M31 ?_
  refine hz_aload_n hO dX3_read_82 rfl 0 rfl ?_
  refine hz_aload_n hO dX3_read_83 rfl 1 rfl ?_
  refine hz_iconst (v := (2 : Int32)) hO dX3_read_84 (by decide) ?_
  refine hz_bipush (v := (60 : Int32)) hO dX3_read_85 (by decide) ?_
  obtain ⟨r32, M33, hq34, h⟩ := hz_ct_e h
  refine hz_callVi (as := [.int (2 : Int32), .int (60 : Int32)]) (rest := [.ref (hz_ad w th)]) hO (c_X8_needNumber l w hN (2 : Int32) (60 : Int32) hq34) hz_cal_X8_needNumber hz_K_6 hz_sh_9 (hz_lt_9 hN) tw_2_230 (Nat.le_of_ble_eq_true rfl) rfl rfl (Nat.le_of_ble_eq_true rfl) dX3_read_87 ?_
  obtain ⟨M35, h_M35, h⟩ := hz_lm_e h
  refine hz_putI (k := 10) (ty := .int) hO hz_K_2 tyX3_ok nmX3 hHo.1 hHo.2.1 rfl (Nat.le_of_ble_eq_true rfl) tw_1_74 rfl rfl rfl rfl rfl dX3_read_90 ?_
  refine hz_nameM h_M35 ?_
  refine hz_aload_n hO dX3_read_93 rfl 0 rfl ?_
  refine hz_aload_n hO dX3_read_94 rfl 1 rfl ?_
  refine hz_iconst (v := (0 : Int32)) hO dX3_read_95 (by decide) ?_
  refine hz_bipush (v := (30 : Int32)) hO dX3_read_96 (by decide) ?_
  obtain ⟨r36, M37, hq38, h⟩ := hz_ct_e h
  refine hz_callVi (as := [.int (0 : Int32), .int (30 : Int32)]) (rest := [.ref (hz_ad w th)]) hO (c_X8_needNumber l w hN (0 : Int32) (30 : Int32) hq38) hz_cal_X8_needNumber hz_K_6 hz_sh_9 (hz_lt_9 hN) tw_2_230 (Nat.le_of_ble_eq_true rfl) rfl rfl (Nat.le_of_ble_eq_true rfl) dX3_read_98 ?_
  obtain ⟨M39, h_M39, h⟩ := hz_lm_e h
  refine hz_putI (k := 11) (ty := .int) hO hz_K_2 tyX3_ok nmX3 hHo.1 hHo.2.1 rfl (Nat.le_of_ble_eq_true rfl) tw_1_76 rfl rfl rfl rfl rfl dX3_read_101 ?_
  refine hz_nameM h_M39 ?_
  refine hz_iconst (v := (0 : Int32)) hO dX3_read_104 (by decide) ?_
  refine hz_istore_n (ls1 := [(2, .int (0 : Int32)), (0, .ref (hz_ad w th)), (1, .ref (hz_ad w 9))]) hO dX3_read_105 rfl (Nat.le_of_ble_eq_true rfl) rfl ?_
  obtain ⟨k44, hk44, h⟩ := hz_jn_e h
  have gk44 : ∀  (M40 : hz_M), k44 M40 = some (rE, ME) → hz_G p l e 11 hz_z0 s m args below meth c w N 3 (MQ below (hz_Qv w N ME) args s 0 0 (hz_A w)) M40 145 [(1, .ref (hz_ad w 9))] [] := by
    intro M40 h
    rw [hk44] at h
    dsimp only at h
    refine hz_aload_n hO dX3_read_145 rfl 0 rfl ?_
    obtain ⟨r41, M42, hq43, h⟩ := hz_ct_e h
    refine hz_callVv (as := []) (rest := []) hO (c_X8_needEnd l w hN hq43) hz_cal_X8_needEnd hz_K_6 hz_sh_9 (hz_lt_9 hN) tw_3_24 (Nat.le_of_ble_eq_true rfl) rfl rfl (Nat.le_of_ble_eq_true rfl) dX3_read_146 ?_
    exact hz_nameM (hz_some_e h).2.symm (hz_vret hO dX3_read_149)
  clear hk44
  exact hz_ls [1, 2, 0] rfl (g_X3_read_L106 hN hHo hO _ gk44 _ (0 : Int32) M39 h)
