-- X1_deedOf X1_seatInHall X1_turn X2_forgetAll X3_copyFrom X3_isGuest X3_isLocker X3_isPeg X3_isTowel X3_isValve X3_isStep X3_bears X3_ageFor X3_highestByAge X7_copyFrom X7_guestsInside X7_guestsAt X7_lowestBeside X7_eldestAt X7_temperature X7_lockersInUse X7_freeLocker X7_isInBasket X7_towelsInBasket X7_towelsOnPegs X7_towelsWithGuests X7_pegsUntold X7_allWet X7_driestOnPegs X7_freePeg X7_putOnPeg X7_giveToGuest X7_day X7_minutesLeftToday X7_isSilence X7_minutesToGong X7_steam X7_heatBehind X7_wetOnPegBehind X7_strainBehind X7_soundGong X7_changeTowels X7_strainGuest X7_comeDown
def f_X1_deedOf (a0 : Int32) (a1 : Int32) (M : hz_M) : hz_O :=
  hz_gd (hz_nn a0) <|
  hz_gd (hz_in (hz_eF 0 a0) 11) <|
  hz_lt ((hz_sw.getD (Int32.toNatClampNeg (hz_eF 0 a0)) 0)) fun x4 =>
  if x4 = 6 then
    some (((10 : Int32) + a1), M)
  else
  if x4 = 7 then
    some (((20 : Int32) + a1), M)
  else
  if x4 = 8 then
    some (((40 : Int32) + a1), M)
  else
  if x4 = 9 then
    some ((1 : Int32), M)
  else
  some ((0 : Int32), M)
set_option maxRecDepth 100000 in
set_option maxHeartbeats 4000000 in
theorem c_X1_deedOf (l : Launch) (w : hz_C) {N : Nat} (hN : 178 ≤ N) (a0 : Int32) (a1 : Int32) {M : hz_M} {rE : Int32} {ME : hz_M} (h : f_X1_deedOf a0 a1 M = some (rE, ME)) : hz_Ct l yX1_deedOf cX1_deedOf 2 (some .int) 1 w N [hz_ev w a0, .int a1] M (hz_Qi w N rE ME) := by
  refine hz_ofW (by decide) rfl (by simp [lg_sl, hz_ev_cat, hz_cr, hz_ci]) tw_5_168 ?_
  intro p e s m args below meth c hO
  rw [show lv_args 0 [hz_ev w a0, .int a1] = [(0, hz_ev w a0), (1, .int a1)] from by simp [lv_args, hz_ev_cat, hz_cr, hz_ci]]
  show hz_G p l e 1 hz_z0 s m args below meth c w N 2 _ M 0 [(0, hz_ev w a0), (1, .int a1)] []
  unfold f_X1_deedOf at h
  obtain ⟨t1, hz_t1, ht_t1⟩ := hO.2.2.2.1.2.2.2.2.2.1
  refine hz_gets hO hz_t1 tw_5_158 rfl dX1_deedOf_0 ?_
  refine hz_aload_nE hO dX1_deedOf_3 rfl 0 rfl ?_
  obtain ⟨hg2, h⟩ := hz_gd_e h
  refine hz_ord (rest := [.ref t1]) hO hg2 tw_5_160 (Nat.le_of_ble_eq_true rfl) (Nat.le_of_ble_eq_true rfl) dX1_deedOf_4 ?_
  obtain ⟨hg3, h⟩ := hz_gd_e h
  refine hz_ti (v := .int (hz_sw.getD (Int32.toNatClampNeg (hz_eF 0 a0)) 0)) hO ht_t1 (hz_in_e hg3) rfl dX1_deedOf_7 ?_
  obtain ⟨x4, h_x4, h⟩ := hz_lt_e h
  refine hz_name h_x4 ?_
  by_cases hc5 : x4 = (6 : Int32)
  · rw [if_pos hc5] at h
    refine hz_tin (tgt := 40) hO hc5 dX1_deedOf_8 (by decide) (by decide) rfl (by decide) ?_
    refine hz_bipush (v := (10 : Int32)) hO dX1_deedOf_40 (by decide) ?_
    refine hz_iload_n hO dX1_deedOf_42 rfl 1 rfl ?_
    refine hz_iadd hO dX1_deedOf_43 ?_
    exact hz_nameM (hz_some_e h).2.symm (hz_name (hz_some_e h).1.symm (hz_iret hO dX1_deedOf_44))
  · rw [if_neg hc5] at h
    by_cases hc6 : x4 = (7 : Int32)
    · rw [if_pos hc6] at h
      refine hz_tin (tgt := 45) hO hc6 dX1_deedOf_8 (by decide) (by decide) rfl (by decide) ?_
      refine hz_bipush (v := (20 : Int32)) hO dX1_deedOf_45 (by decide) ?_
      refine hz_iload_n hO dX1_deedOf_47 rfl 1 rfl ?_
      refine hz_iadd hO dX1_deedOf_48 ?_
      exact hz_nameM (hz_some_e h).2.symm (hz_name (hz_some_e h).1.symm (hz_iret hO dX1_deedOf_49))
    · rw [if_neg hc6] at h
      by_cases hc7 : x4 = (8 : Int32)
      · rw [if_pos hc7] at h
        refine hz_tin (tgt := 50) hO hc7 dX1_deedOf_8 (by decide) (by decide) rfl (by decide) ?_
        refine hz_bipush (v := (40 : Int32)) hO dX1_deedOf_50 (by decide) ?_
        refine hz_iload_n hO dX1_deedOf_52 rfl 1 rfl ?_
        refine hz_iadd hO dX1_deedOf_53 ?_
        exact hz_nameM (hz_some_e h).2.symm (hz_name (hz_some_e h).1.symm (hz_iret hO dX1_deedOf_54))
      · rw [if_neg hc7] at h
        by_cases hc8 : x4 = (9 : Int32)
        · rw [if_pos hc8] at h
          refine hz_tin (tgt := 55) hO hc8 dX1_deedOf_8 (by decide) (by decide) rfl (by decide) ?_
          refine hz_iconst (v := (1 : Int32)) hO dX1_deedOf_55 (by decide) ?_
          exact hz_nameM (hz_some_e h).2.symm (hz_name (hz_some_e h).1.symm (hz_iret hO dX1_deedOf_56))
        · rw [if_neg hc8] at h
          have hn6 : ¬ x4.toInt = 6 := lv_neT hc5 rfl
          have hn7 : ¬ x4.toInt = 7 := lv_neT hc6 rfl
          have hn8 : ¬ x4.toInt = 8 := lv_neT hc7 rfl
          have hn9 : ¬ x4.toInt = 9 := lv_neT hc8 rfl
          refine hz_tout (tgt := 57) hO dX1_deedOf_8 (by omega) (by decide) ?_
          refine hz_iconst (v := (0 : Int32)) hO dX1_deedOf_57 (by decide) ?_
          exact hz_nameM (hz_some_e h).2.symm (hz_name (hz_some_e h).1.symm (hz_iret hO dX1_deedOf_58))
def f_X1_seatInHall (a1 : Int32) (M : hz_M) : hz_O :=
  hz_gd (hz_in a1 16) <|
  hz_lt ((M 13 (Int32.toNatClampNeg a1))) fun x2 =>
  hz_gd (hz_in a1 16) <|
  hz_lm (hz_set M 13 (Int32.toNatClampNeg a1) (0 : Int32)) fun M4 =>
  some (x2, M4)
set_option maxRecDepth 100000 in
set_option maxHeartbeats 4000000 in
theorem c_X1_seatInHall (l : Launch) (w : hz_C) {N : Nat} (hN : 178 ≤ N) (a1 : Int32) {M : hz_M} {rE : Int32} {ME : hz_M} (h : f_X1_seatInHall a1 M = some (rE, ME)) : hz_Ct l yX1_seatInHall cX1_seatInHall 3 (some .int) 0 w N [.ref (hz_ad w 26), .int a1] M (hz_Qi w N rE ME) := by
  refine hz_ofW (by decide) rfl (Nat.le_of_ble_eq_true rfl) tw_5_200 ?_
  intro p e s m args below meth c hO
  show hz_G p l e 0 hz_z0 s m args below meth c w N 3 _ M 0 [(0, .ref (hz_ad w 26)), (1, .int a1)] []
  unfold f_X1_seatInHall at h
  refine hz_aload_n hO dX1_seatInHall_0 rfl 0 rfl ?_
  refine hz_getR (k := 1) hO 11 hz_K_2 hz_sh_26 (hz_lt_26 hN) rfl (Nat.le_of_ble_eq_true rfl) tw_2_23 rfl dX1_seatInHall_1 ?_
  refine hz_getR (k := 2) hO 13 hz_K_7 hz_sh_11 (hz_lt_11 hN) rfl (Nat.le_of_ble_eq_true rfl) tw_1_152 rfl dX1_seatInHall_4 ?_
  refine hz_iload_n hO dX1_seatInHall_7 rfl 1 rfl ?_
  obtain ⟨hg1, h⟩ := hz_gd_e h
  refine hz_iald hO hz_sh_13 (hz_lt_13 hN) hg1 dX1_seatInHall_8 ?_
  obtain ⟨x2, h_x2, h⟩ := hz_lt_e h
  refine hz_name h_x2 ?_
  refine hz_istore_n (ls1 := [(2, .int x2), (0, .ref (hz_ad w 26)), (1, .int a1)]) hO dX1_seatInHall_9 rfl (Nat.le_of_ble_eq_true rfl) rfl ?_
  refine hz_aload_n hO dX1_seatInHall_10 rfl 1 rfl ?_
  refine hz_getR (k := 1) hO 11 hz_K_2 hz_sh_26 (hz_lt_26 hN) rfl (Nat.le_of_ble_eq_true rfl) tw_2_23 rfl dX1_seatInHall_11 ?_
  refine hz_getR (k := 2) hO 13 hz_K_7 hz_sh_11 (hz_lt_11 hN) rfl (Nat.le_of_ble_eq_true rfl) tw_1_152 rfl dX1_seatInHall_14 ?_
  refine hz_iload_n hO dX1_seatInHall_17 rfl 2 rfl ?_
  refine hz_iconst (v := (0 : Int32)) hO dX1_seatInHall_18 (by decide) ?_
  obtain ⟨hg3, h⟩ := hz_gd_e h
  obtain ⟨M4, h_M4, h⟩ := hz_lm_e h
  refine hz_iast hO hz_sh_13 (hz_lt_13 hN) hg3 dX1_seatInHall_19 ?_
  refine hz_nameM h_M4 ?_
  refine hz_iload_n hO dX1_seatInHall_20 rfl 0 rfl ?_
  exact hz_nameM (hz_some_e h).2.symm (hz_name (hz_some_e h).1.symm (hz_iret hO dX1_seatInHall_21))
def f_X1_turn (a1 : Int32) (a2 : Int32) (M : hz_M) : hz_O :=
  hz_gd (hz_in a1 4) <|
  hz_lt ((M 12 (Int32.toNatClampNeg a1))) fun x2 =>
  hz_gd (hz_in a1 4) <|
  hz_lm (hz_set M 12 (Int32.toNatClampNeg a1) a2) fun M4 =>
  some (x2, M4)
set_option maxRecDepth 100000 in
set_option maxHeartbeats 4000000 in
theorem c_X1_turn (l : Launch) (w : hz_C) {N : Nat} (hN : 178 ≤ N) (a1 : Int32) (a2 : Int32) {M : hz_M} {rE : Int32} {ME : hz_M} (h : f_X1_turn a1 a2 M = some (rE, ME)) : hz_Ct l yX1_turn cX1_turn 4 (some .int) 0 w N [.ref (hz_ad w 26), .int a1, .int a2] M (hz_Qi w N rE ME) := by
  refine hz_ofW (by decide) rfl (Nat.le_of_ble_eq_true rfl) tw_5_233 ?_
  intro p e s m args below meth c hO
  show hz_G p l e 0 hz_z0 s m args below meth c w N 4 _ M 0 [(0, .ref (hz_ad w 26)), (1, .int a1), (2, .int a2)] []
  unfold f_X1_turn at h
  refine hz_aload_n hO dX1_turn_0 rfl 0 rfl ?_
  refine hz_getR (k := 1) hO 11 hz_K_2 hz_sh_26 (hz_lt_26 hN) rfl (Nat.le_of_ble_eq_true rfl) tw_2_23 rfl dX1_turn_1 ?_
  refine hz_getR (k := 1) hO 12 hz_K_7 hz_sh_11 (hz_lt_11 hN) rfl (Nat.le_of_ble_eq_true rfl) tw_1_149 rfl dX1_turn_4 ?_
  refine hz_iload_n hO dX1_turn_7 rfl 1 rfl ?_
  obtain ⟨hg1, h⟩ := hz_gd_e h
  refine hz_iald hO hz_sh_12 (hz_lt_12 hN) hg1 dX1_turn_8 ?_
  obtain ⟨x2, h_x2, h⟩ := hz_lt_e h
  refine hz_name h_x2 ?_
  refine hz_istore_n (ls1 := [(3, .int x2), (0, .ref (hz_ad w 26)), (1, .int a1), (2, .int a2)]) hO dX1_turn_9 rfl (Nat.le_of_ble_eq_true rfl) rfl ?_
  refine hz_aload_n hO dX1_turn_10 rfl 1 rfl ?_
  refine hz_getR (k := 1) hO 11 hz_K_2 hz_sh_26 (hz_lt_26 hN) rfl (Nat.le_of_ble_eq_true rfl) tw_2_23 rfl dX1_turn_11 ?_
  refine hz_getR (k := 1) hO 12 hz_K_7 hz_sh_11 (hz_lt_11 hN) rfl (Nat.le_of_ble_eq_true rfl) tw_1_149 rfl dX1_turn_14 ?_
  refine hz_iload_n hO dX1_turn_17 rfl 2 rfl ?_
  refine hz_iload_n hO dX1_turn_18 rfl 3 rfl ?_
  obtain ⟨hg3, h⟩ := hz_gd_e h
  obtain ⟨M4, h_M4, h⟩ := hz_lm_e h
  refine hz_iast hO hz_sh_12 (hz_lt_12 hN) hg3 dX1_turn_19 ?_
  refine hz_nameM h_M4 ?_
  refine hz_iload_n hO dX1_turn_20 rfl 0 rfl ?_
  exact hz_nameM (hz_some_e h).2.symm (hz_name (hz_some_e h).1.symm (hz_iret hO dX1_turn_21))
def f_X2_forgetAll_L7 : Nat → Int32 → hz_M → hz_O
  | 0, _, _ => none
  | n + 1, v1_2, M3 =>
    if (2 : Int32) ≤ v1_2 then
      some (0, M3)
    else
      hz_gd (hz_in v1_2 2) <|
      hz_lm (hz_set M3 35 (Int32.toNatClampNeg v1_2) (0 : Int32)) fun M6 =>
      hz_lt (v1_2 + (1 : Int32)) fun x7 =>
      f_X2_forgetAll_L7 n x7 M6
def f_X2_forgetAll (M : hz_M) : hz_O :=
  hz_lm (hz_set M 32 4 (0 : Int32)) fun M1 =>
  f_X2_forgetAll_L7 hz_FU (0 : Int32) M1
set_option maxRecDepth 100000 in
set_option maxHeartbeats 4000000 in
theorem g_X2_forgetAll_L7 {p : Program} {l : Launch} {e : Env} {s : State} {m : MethodId} {args : Array Value} {below : List Frame} {meth : Method} {c : Code} {w : hz_C} {N : Nat} (hN : 178 ≤ N) {rE : Int32} {ME : hz_M} (hO : hz_Ok p s m args meth c w cX2_forgetAll 2 RX2 none) : ∀ (n : Nat) (v1_2 : Int32) (M3 : hz_M), f_X2_forgetAll_L7 n v1_2 M3 = some (rE, ME) → hz_G p l e 0 hz_z0 s m args below meth c w N 2 (MQ below (hz_Qv w N ME) args s 0 0 (hz_A w)) M3 7 [(0, .ref (hz_ad w 32)), (1, .int v1_2)] [] := by
  intro n
  induction n with
  | zero =>
    intro v1_2 M3 h
    rw [f_X2_forgetAll_L7] at h
    cases h
  | succ n ih =>
    intro v1_2 M3 h
    rw [f_X2_forgetAll_L7] at h
    refine hz_iload_n hO dX2_forgetAll_7 rfl 1 rfl ?_
    refine hz_iconst (v := (2 : Int32)) hO dX2_forgetAll_8 (by decide) ?_
    refine hz_icmp_ge (tgt := 25) hO dX2_forgetAll_9 (by decide) (fun hc4 => ?_) (fun hc4 => ?_)
    · rw [if_pos hc4] at h
      exact hz_nameM (hz_some_e h).2.symm (hz_vret hO dX2_forgetAll_25)
    · rw [if_neg hc4] at h
      refine hz_aload_n hO dX2_forgetAll_12 rfl 0 rfl ?_
      refine hz_getR (k := 2) hO 35 hz_K_3 hz_sh_32 (hz_lt_32 hN) rfl (Nat.le_of_ble_eq_true rfl) tw_2_79 rfl dX2_forgetAll_13 ?_
      refine hz_iload_n hO dX2_forgetAll_16 rfl 1 rfl ?_
      refine hz_iconst (v := (0 : Int32)) hO dX2_forgetAll_17 (by decide) ?_
      obtain ⟨hg5, h⟩ := hz_gd_e h
      obtain ⟨M6, h_M6, h⟩ := hz_lm_e h
      refine hz_zast hO hz_sh_35 (hz_lt_35 hN) hg5 (by decide) dX2_forgetAll_18 ?_
      refine hz_nameM h_M6 ?_
      obtain ⟨x7, h_x7, h⟩ := hz_lt_e h
      refine hz_iinc (k := 1) (v := x7) (ls1 := [(1, .int x7), (0, .ref (hz_ad w 32))]) hO dX2_forgetAll_19 rfl (by rw [h_x7]; rfl) (Nat.le_of_ble_eq_true rfl) rfl ?_
      refine hz_goto (tgt := 7) hO dX2_forgetAll_22 (by decide) ?_
      exact hz_ls [1, 0] rfl (ih x7 M6 h)
set_option maxRecDepth 100000 in
set_option maxHeartbeats 4000000 in
theorem c_X2_forgetAll (l : Launch) (w : hz_C) {N : Nat} (hN : 178 ≤ N) {M : hz_M} {rE : Int32} {ME : hz_M} (h : f_X2_forgetAll M = some (rE, ME)) : hz_Ct l yX2_forgetAll cX2_forgetAll 2 none 0 w N [.ref (hz_ad w 32)] M (hz_Qv w N ME) := by
  refine hz_ofW (by decide) rfl (Nat.le_of_ble_eq_true rfl) tw_7_138 ?_
  intro p e s m args below meth c hO
  show hz_G p l e 0 hz_z0 s m args below meth c w N 2 _ M 0 [(0, .ref (hz_ad w 32))] []
  unfold f_X2_forgetAll at h
  refine hz_aload_n hO dX2_forgetAll_0 rfl 0 rfl ?_
  refine hz_iconst (v := (0 : Int32)) hO dX2_forgetAll_1 (by decide) ?_
  obtain ⟨M1, h_M1, h⟩ := hz_lm_e h
  refine hz_putI (k := 4) (ty := .int) hO hz_K_3 tyX2_ok nmX2 hz_sh_32 (hz_lt_32 hN) rfl (Nat.le_of_ble_eq_true rfl) tw_2_81 rfl rfl rfl rfl rfl dX2_forgetAll_2 ?_
  refine hz_nameM h_M1 ?_
  refine hz_iconst (v := (0 : Int32)) hO dX2_forgetAll_5 (by decide) ?_
  refine hz_istore_n (ls1 := [(1, .int (0 : Int32)), (0, .ref (hz_ad w 32))]) hO dX2_forgetAll_6 rfl (Nat.le_of_ble_eq_true rfl) rfl ?_
  exact hz_ls [1, 0] rfl (g_X2_forgetAll_L7 hN hO _ (0 : Int32) M1 h)
def f_X3_copyFrom (M : hz_M) : hz_O :=
  hz_lm (hz_cpy M 6 2 16) fun M1 =>
  hz_lm (hz_cpy M1 7 3 96) fun M2 =>
  hz_lm (hz_cpy M2 8 4 16) fun M3 =>
  hz_lm (hz_set M3 1 3 (M3 5 3)) fun M4 =>
  hz_lm (hz_set M4 1 4 (M4 5 4)) fun M5 =>
  hz_lm (hz_set M5 1 5 (M5 5 5)) fun M6 =>
  hz_lm (hz_set M6 1 6 (M6 5 6)) fun M7 =>
  hz_lm (hz_set M7 1 7 (M7 5 7)) fun M8 =>
  hz_lm (hz_set M8 1 8 (M8 5 8)) fun M9 =>
  hz_lm (hz_set M9 1 9 (M9 5 9)) fun M10 =>
  hz_lm (hz_set M10 1 10 (M10 5 10)) fun M11 =>
  hz_lm (hz_set M11 1 11 (M11 5 11)) fun M12 =>
  some (0, M12)
set_option maxRecDepth 100000 in
set_option maxHeartbeats 4000000 in
theorem c_X3_copyFrom (l : Launch) (w : hz_C) {N : Nat} (hN : 178 ≤ N) {M : hz_M} {rE : Int32} {ME : hz_M} (h : f_X3_copyFrom M = some (rE, ME)) : hz_Ct l yX3_copyFrom cX3_copyFrom 2 none 1 w N [.ref (hz_ad w 1), .ref (hz_ad w 5)] M (hz_Qv w N ME) := by
  refine hz_ofW (by decide) rfl (Nat.le_of_ble_eq_true rfl) tw_7_133 ?_
  intro p e s m args below meth c hO
  show hz_G p l e 1 hz_z0 s m args below meth c w N 2 _ M 0 [(0, .ref (hz_ad w 1)), (1, .ref (hz_ad w 5))] []
  unfold f_X3_copyFrom at h
  refine hz_aload_n hO dX3_copyFrom_0 rfl 1 rfl ?_
  refine hz_getR (k := 0) hO 6 hz_K_4 hz_sh_5 (hz_lt_5 hN) rfl (Nat.le_of_ble_eq_true rfl) tw_1_45 rfl dX3_copyFrom_1 ?_
  refine hz_iconst (v := (0 : Int32)) hO dX3_copyFrom_4 (by decide) ?_
  refine hz_aload_n hO dX3_copyFrom_5 rfl 0 rfl ?_
  refine hz_getR (k := 0) hO 2 hz_K_4 hz_sh_1 (hz_lt_1 hN) rfl (Nat.le_of_ble_eq_true rfl) tw_1_45 rfl dX3_copyFrom_6 ?_
  refine hz_iconst (v := (0 : Int32)) hO dX3_copyFrom_9 (by decide) ?_
  refine hz_bipush (v := (16 : Int32)) hO dX3_copyFrom_10 (by decide) ?_
  obtain ⟨M1, h_M1, h⟩ := hz_lm_e h
  refine hz_acopy (k := 16) hO hz_sh_6 (hz_lt_6 hN) hz_sh_2 (hz_lt_2 hN) (by decide) (by decide) (Nat.le_of_ble_eq_true rfl) (Nat.le_of_ble_eq_true rfl) tw_7_134 (Nat.le_of_ble_eq_true rfl) (Nat.le_of_ble_eq_true rfl) dX3_copyFrom_12 ?_
  refine hz_nameM h_M1 ?_
  refine hz_aload_n hO dX3_copyFrom_15 rfl 1 rfl ?_
  refine hz_getR (k := 1) hO 7 hz_K_4 hz_sh_5 (hz_lt_5 hN) rfl (Nat.le_of_ble_eq_true rfl) tw_1_49 rfl dX3_copyFrom_16 ?_
  refine hz_iconst (v := (0 : Int32)) hO dX3_copyFrom_19 (by decide) ?_
  refine hz_aload_n hO dX3_copyFrom_20 rfl 0 rfl ?_
  refine hz_getR (k := 1) hO 3 hz_K_4 hz_sh_1 (hz_lt_1 hN) rfl (Nat.le_of_ble_eq_true rfl) tw_1_49 rfl dX3_copyFrom_21 ?_
  refine hz_iconst (v := (0 : Int32)) hO dX3_copyFrom_24 (by decide) ?_
  refine hz_bipush (v := (96 : Int32)) hO dX3_copyFrom_25 (by decide) ?_
  obtain ⟨M2, h_M2, h⟩ := hz_lm_e h
  refine hz_acopy (k := 96) hO hz_sh_7 (hz_lt_7 hN) hz_sh_3 (hz_lt_3 hN) (by decide) (by decide) (Nat.le_of_ble_eq_true rfl) (Nat.le_of_ble_eq_true rfl) tw_7_134 (Nat.le_of_ble_eq_true rfl) (Nat.le_of_ble_eq_true rfl) dX3_copyFrom_27 ?_
  refine hz_nameM h_M2 ?_
  refine hz_aload_n hO dX3_copyFrom_30 rfl 1 rfl ?_
  refine hz_getR (k := 2) hO 8 hz_K_4 hz_sh_5 (hz_lt_5 hN) rfl (Nat.le_of_ble_eq_true rfl) tw_1_50 rfl dX3_copyFrom_31 ?_
  refine hz_iconst (v := (0 : Int32)) hO dX3_copyFrom_34 (by decide) ?_
  refine hz_aload_n hO dX3_copyFrom_35 rfl 0 rfl ?_
  refine hz_getR (k := 2) hO 4 hz_K_4 hz_sh_1 (hz_lt_1 hN) rfl (Nat.le_of_ble_eq_true rfl) tw_1_50 rfl dX3_copyFrom_36 ?_
  refine hz_iconst (v := (0 : Int32)) hO dX3_copyFrom_39 (by decide) ?_
  refine hz_bipush (v := (16 : Int32)) hO dX3_copyFrom_40 (by decide) ?_
  obtain ⟨M3, h_M3, h⟩ := hz_lm_e h
  refine hz_acopy (k := 16) hO hz_sh_8 (hz_lt_8 hN) hz_sh_4 (hz_lt_4 hN) (by decide) (by decide) (Nat.le_of_ble_eq_true rfl) (Nat.le_of_ble_eq_true rfl) tw_7_134 (Nat.le_of_ble_eq_true rfl) (Nat.le_of_ble_eq_true rfl) dX3_copyFrom_42 ?_
  refine hz_nameM h_M3 ?_
  refine hz_aload_n hO dX3_copyFrom_45 rfl 0 rfl ?_
  refine hz_aload_n hO dX3_copyFrom_46 rfl 1 rfl ?_
  refine hz_getI (k := 3) hO hz_K_4 hz_sh_5 (hz_lt_5 hN) rfl (Nat.le_of_ble_eq_true rfl) tw_1_51 rfl dX3_copyFrom_47 ?_
  obtain ⟨M4, h_M4, h⟩ := hz_lm_e h
  refine hz_putI (k := 3) (ty := .int) hO hz_K_4 tyX3_ok nmX3 hz_sh_1 (hz_lt_1 hN) rfl (Nat.le_of_ble_eq_true rfl) tw_1_51 rfl rfl rfl rfl rfl dX3_copyFrom_50 ?_
  refine hz_nameM h_M4 ?_
  refine hz_aload_n hO dX3_copyFrom_53 rfl 0 rfl ?_
  refine hz_aload_n hO dX3_copyFrom_54 rfl 1 rfl ?_
  refine hz_getI (k := 4) hO hz_K_4 hz_sh_5 (hz_lt_5 hN) rfl (Nat.le_of_ble_eq_true rfl) tw_1_54 rfl dX3_copyFrom_55 ?_
  obtain ⟨M5, h_M5, h⟩ := hz_lm_e h
  refine hz_putI (k := 4) (ty := .int) hO hz_K_4 tyX3_ok nmX3 hz_sh_1 (hz_lt_1 hN) rfl (Nat.le_of_ble_eq_true rfl) tw_1_54 rfl rfl rfl rfl rfl dX3_copyFrom_58 ?_
  refine hz_nameM h_M5 ?_
  refine hz_aload_n hO dX3_copyFrom_61 rfl 0 rfl ?_
  refine hz_aload_n hO dX3_copyFrom_62 rfl 1 rfl ?_
  refine hz_getI (k := 5) hO hz_K_4 hz_sh_5 (hz_lt_5 hN) rfl (Nat.le_of_ble_eq_true rfl) tw_1_58 rfl dX3_copyFrom_63 ?_
  obtain ⟨M6, h_M6, h⟩ := hz_lm_e h
  refine hz_putI (k := 5) (ty := .int) hO hz_K_4 tyX3_ok nmX3 hz_sh_1 (hz_lt_1 hN) rfl (Nat.le_of_ble_eq_true rfl) tw_1_58 rfl rfl rfl rfl rfl dX3_copyFrom_66 ?_
  refine hz_nameM h_M6 ?_
  refine hz_aload_n hO dX3_copyFrom_69 rfl 0 rfl ?_
  refine hz_aload_n hO dX3_copyFrom_70 rfl 1 rfl ?_
  refine hz_getI (k := 6) hO hz_K_4 hz_sh_5 (hz_lt_5 hN) rfl (Nat.le_of_ble_eq_true rfl) tw_1_61 rfl dX3_copyFrom_71 ?_
  obtain ⟨M7, h_M7, h⟩ := hz_lm_e h
  refine hz_putI (k := 6) (ty := .int) hO hz_K_4 tyX3_ok nmX3 hz_sh_1 (hz_lt_1 hN) rfl (Nat.le_of_ble_eq_true rfl) tw_1_61 rfl rfl rfl rfl rfl dX3_copyFrom_74 ?_
  refine hz_nameM h_M7 ?_
  refine hz_aload_n hO dX3_copyFrom_77 rfl 0 rfl ?_
  refine hz_aload_n hO dX3_copyFrom_78 rfl 1 rfl ?_
  refine hz_getI (k := 7) hO hz_K_4 hz_sh_5 (hz_lt_5 hN) rfl (Nat.le_of_ble_eq_true rfl) tw_1_65 rfl dX3_copyFrom_79 ?_
  obtain ⟨M8, h_M8, h⟩ := hz_lm_e h
  refine hz_putI (k := 7) (ty := .int) hO hz_K_4 tyX3_ok nmX3 hz_sh_1 (hz_lt_1 hN) rfl (Nat.le_of_ble_eq_true rfl) tw_1_65 rfl rfl rfl rfl rfl dX3_copyFrom_82 ?_
  refine hz_nameM h_M8 ?_
  refine hz_aload_n hO dX3_copyFrom_85 rfl 0 rfl ?_
  refine hz_aload_n hO dX3_copyFrom_86 rfl 1 rfl ?_
  refine hz_getI (k := 8) hO hz_K_4 hz_sh_5 (hz_lt_5 hN) rfl (Nat.le_of_ble_eq_true rfl) tw_1_68 rfl dX3_copyFrom_87 ?_
  obtain ⟨M9, h_M9, h⟩ := hz_lm_e h
  refine hz_putI (k := 8) (ty := .int) hO hz_K_4 tyX3_ok nmX3 hz_sh_1 (hz_lt_1 hN) rfl (Nat.le_of_ble_eq_true rfl) tw_1_68 rfl rfl rfl rfl rfl dX3_copyFrom_90 ?_
  refine hz_nameM h_M9 ?_
  refine hz_aload_n hO dX3_copyFrom_93 rfl 0 rfl ?_
  refine hz_aload_n hO dX3_copyFrom_94 rfl 1 rfl ?_
  refine hz_getI (k := 9) hO hz_K_4 hz_sh_5 (hz_lt_5 hN) rfl (Nat.le_of_ble_eq_true rfl) tw_1_71 rfl dX3_copyFrom_95 ?_
  obtain ⟨M10, h_M10, h⟩ := hz_lm_e h
  refine hz_putI (k := 9) (ty := .int) hO hz_K_4 tyX3_ok nmX3 hz_sh_1 (hz_lt_1 hN) rfl (Nat.le_of_ble_eq_true rfl) tw_1_71 rfl rfl rfl rfl rfl dX3_copyFrom_98 ?_
  refine hz_nameM h_M10 ?_
  refine hz_aload_n hO dX3_copyFrom_101 rfl 0 rfl ?_
  refine hz_aload_n hO dX3_copyFrom_102 rfl 1 rfl ?_
  refine hz_getI (k := 10) hO hz_K_4 hz_sh_5 (hz_lt_5 hN) rfl (Nat.le_of_ble_eq_true rfl) tw_1_73 rfl dX3_copyFrom_103 ?_
  obtain ⟨M11, h_M11, h⟩ := hz_lm_e h
  refine hz_putI (k := 10) (ty := .int) hO hz_K_4 tyX3_ok nmX3 hz_sh_1 (hz_lt_1 hN) rfl (Nat.le_of_ble_eq_true rfl) tw_1_73 rfl rfl rfl rfl rfl dX3_copyFrom_106 ?_
  refine hz_nameM h_M11 ?_
  refine hz_aload_n hO dX3_copyFrom_109 rfl 0 rfl ?_
  refine hz_aload_n hO dX3_copyFrom_110 rfl 1 rfl ?_
  refine hz_getI (k := 11) hO hz_K_4 hz_sh_5 (hz_lt_5 hN) rfl (Nat.le_of_ble_eq_true rfl) tw_1_75 rfl dX3_copyFrom_111 ?_
  obtain ⟨M12, h_M12, h⟩ := hz_lm_e h
  refine hz_putI (k := 11) (ty := .int) hO hz_K_4 tyX3_ok nmX3 hz_sh_1 (hz_lt_1 hN) rfl (Nat.le_of_ble_eq_true rfl) tw_1_75 rfl rfl rfl rfl rfl dX3_copyFrom_114 ?_
  refine hz_nameM h_M12 ?_
  exact hz_nameM (hz_some_e h).2.symm (hz_vret hO dX3_copyFrom_117)
def f_X3_isGuest (a1 : Int32) (M : hz_M) : hz_O :=
  if a1 < 0 then
    some ((0 : Int32), M)
  else
    if (M 1 3) ≤ a1 then
      some ((0 : Int32), M)
    else
      some ((1 : Int32), M)
set_option maxRecDepth 100000 in
set_option maxHeartbeats 4000000 in
theorem c_X3_isGuest (l : Launch) (w : hz_C) {N : Nat} (hN : 178 ≤ N) (a1 : Int32) {M : hz_M} {rE : Int32} {ME : hz_M} (h : f_X3_isGuest a1 M = some (rE, ME)) : hz_Ct l yX3_isGuest cX3_isGuest 2 (some .boolean) 0 w N [.ref (hz_ad w 1), .int a1] M (hz_Qi w N rE ME) := by
  refine hz_ofW (by decide) rfl (Nat.le_of_ble_eq_true rfl) tw_4_60 ?_
  intro p e s m args below meth c hO
  show hz_G p l e 0 hz_z0 s m args below meth c w N 2 _ M 0 [(0, .ref (hz_ad w 1)), (1, .int a1)] []
  unfold f_X3_isGuest at h
  refine hz_iload_n hO dX3_isGuest_0 rfl 1 rfl ?_
  refine hz_if_lt (tgt := 16) hO dX3_isGuest_1 (by decide) (fun hc1 => ?_) (fun hc1 => ?_)
  · rw [if_pos hc1] at h
    refine hz_iconst (v := (0 : Int32)) hO dX3_isGuest_16 (by decide) ?_
    exact hz_nameM (hz_some_e h).2.symm (hz_name (hz_some_e h).1.symm (hz_zret hO (by rw [← (hz_some_e h).1]; decide) dX3_isGuest_17))
  · rw [if_neg hc1] at h
    refine hz_iload_n hO dX3_isGuest_4 rfl 1 rfl ?_
    refine hz_aload_n hO dX3_isGuest_5 rfl 0 rfl ?_
    refine hz_getI (k := 3) hO hz_K_4 hz_sh_1 (hz_lt_1 hN) rfl (Nat.le_of_ble_eq_true rfl) tw_1_51 rfl dX3_isGuest_6 ?_
    refine hz_icmp_ge (tgt := 16) hO dX3_isGuest_9 (by decide) (fun hc2 => ?_) (fun hc2 => ?_)
    · rw [if_pos hc2] at h
      refine hz_iconst (v := (0 : Int32)) hO dX3_isGuest_16 (by decide) ?_
      exact hz_nameM (hz_some_e h).2.symm (hz_name (hz_some_e h).1.symm (hz_zret hO (by rw [← (hz_some_e h).1]; decide) dX3_isGuest_17))
    · rw [if_neg hc2] at h
      refine hz_iconst (v := (1 : Int32)) hO dX3_isGuest_12 (by decide) ?_
      refine hz_goto (tgt := 17) hO dX3_isGuest_13 (by decide) ?_
      exact hz_nameM (hz_some_e h).2.symm (hz_name (hz_some_e h).1.symm (hz_zret hO (by rw [← (hz_some_e h).1]; decide) dX3_isGuest_17))
def f_X3_isLocker (a1 : Int32) (M : hz_M) : hz_O :=
  if a1 < 0 then
    some ((0 : Int32), M)
  else
    if (M 1 4) ≤ a1 then
      some ((0 : Int32), M)
    else
      some ((1 : Int32), M)
set_option maxRecDepth 100000 in
set_option maxHeartbeats 4000000 in
theorem c_X3_isLocker (l : Launch) (w : hz_C) {N : Nat} (hN : 178 ≤ N) (a1 : Int32) {M : hz_M} {rE : Int32} {ME : hz_M} (h : f_X3_isLocker a1 M = some (rE, ME)) : hz_Ct l yX3_isLocker cX3_isLocker 2 (some .boolean) 0 w N [.ref (hz_ad w 1), .int a1] M (hz_Qi w N rE ME) := by
  refine hz_ofW (by decide) rfl (Nat.le_of_ble_eq_true rfl) tw_5_8 ?_
  intro p e s m args below meth c hO
  show hz_G p l e 0 hz_z0 s m args below meth c w N 2 _ M 0 [(0, .ref (hz_ad w 1)), (1, .int a1)] []
  unfold f_X3_isLocker at h
  refine hz_iload_n hO dX3_isLocker_0 rfl 1 rfl ?_
  refine hz_if_lt (tgt := 16) hO dX3_isLocker_1 (by decide) (fun hc1 => ?_) (fun hc1 => ?_)
  · rw [if_pos hc1] at h
    refine hz_iconst (v := (0 : Int32)) hO dX3_isLocker_16 (by decide) ?_
    exact hz_nameM (hz_some_e h).2.symm (hz_name (hz_some_e h).1.symm (hz_zret hO (by rw [← (hz_some_e h).1]; decide) dX3_isLocker_17))
  · rw [if_neg hc1] at h
    refine hz_iload_n hO dX3_isLocker_4 rfl 1 rfl ?_
    refine hz_aload_n hO dX3_isLocker_5 rfl 0 rfl ?_
    refine hz_getI (k := 4) hO hz_K_4 hz_sh_1 (hz_lt_1 hN) rfl (Nat.le_of_ble_eq_true rfl) tw_1_54 rfl dX3_isLocker_6 ?_
    refine hz_icmp_ge (tgt := 16) hO dX3_isLocker_9 (by decide) (fun hc2 => ?_) (fun hc2 => ?_)
    · rw [if_pos hc2] at h
      refine hz_iconst (v := (0 : Int32)) hO dX3_isLocker_16 (by decide) ?_
      exact hz_nameM (hz_some_e h).2.symm (hz_name (hz_some_e h).1.symm (hz_zret hO (by rw [← (hz_some_e h).1]; decide) dX3_isLocker_17))
    · rw [if_neg hc2] at h
      refine hz_iconst (v := (1 : Int32)) hO dX3_isLocker_12 (by decide) ?_
      refine hz_goto (tgt := 17) hO dX3_isLocker_13 (by decide) ?_
      exact hz_nameM (hz_some_e h).2.symm (hz_name (hz_some_e h).1.symm (hz_zret hO (by rw [← (hz_some_e h).1]; decide) dX3_isLocker_17))
def f_X3_isPeg (a1 : Int32) (M : hz_M) : hz_O :=
  if a1 < 0 then
    some ((0 : Int32), M)
  else
    if (M 1 5) ≤ a1 then
      some ((0 : Int32), M)
    else
      some ((1 : Int32), M)
set_option maxRecDepth 100000 in
set_option maxHeartbeats 4000000 in
theorem c_X3_isPeg (l : Launch) (w : hz_C) {N : Nat} (hN : 178 ≤ N) (a1 : Int32) {M : hz_M} {rE : Int32} {ME : hz_M} (h : f_X3_isPeg a1 M = some (rE, ME)) : hz_Ct l yX3_isPeg cX3_isPeg 2 (some .boolean) 0 w N [.ref (hz_ad w 1), .int a1] M (hz_Qi w N rE ME) := by
  refine hz_ofW (by decide) rfl (Nat.le_of_ble_eq_true rfl) tw_4_76 ?_
  intro p e s m args below meth c hO
  show hz_G p l e 0 hz_z0 s m args below meth c w N 2 _ M 0 [(0, .ref (hz_ad w 1)), (1, .int a1)] []
  unfold f_X3_isPeg at h
  refine hz_iload_n hO dX3_isPeg_0 rfl 1 rfl ?_
  refine hz_if_lt (tgt := 16) hO dX3_isPeg_1 (by decide) (fun hc1 => ?_) (fun hc1 => ?_)
  · rw [if_pos hc1] at h
    refine hz_iconst (v := (0 : Int32)) hO dX3_isPeg_16 (by decide) ?_
    exact hz_nameM (hz_some_e h).2.symm (hz_name (hz_some_e h).1.symm (hz_zret hO (by rw [← (hz_some_e h).1]; decide) dX3_isPeg_17))
  · rw [if_neg hc1] at h
    refine hz_iload_n hO dX3_isPeg_4 rfl 1 rfl ?_
    refine hz_aload_n hO dX3_isPeg_5 rfl 0 rfl ?_
    refine hz_getI (k := 5) hO hz_K_4 hz_sh_1 (hz_lt_1 hN) rfl (Nat.le_of_ble_eq_true rfl) tw_1_58 rfl dX3_isPeg_6 ?_
    refine hz_icmp_ge (tgt := 16) hO dX3_isPeg_9 (by decide) (fun hc2 => ?_) (fun hc2 => ?_)
    · rw [if_pos hc2] at h
      refine hz_iconst (v := (0 : Int32)) hO dX3_isPeg_16 (by decide) ?_
      exact hz_nameM (hz_some_e h).2.symm (hz_name (hz_some_e h).1.symm (hz_zret hO (by rw [← (hz_some_e h).1]; decide) dX3_isPeg_17))
    · rw [if_neg hc2] at h
      refine hz_iconst (v := (1 : Int32)) hO dX3_isPeg_12 (by decide) ?_
      refine hz_goto (tgt := 17) hO dX3_isPeg_13 (by decide) ?_
      exact hz_nameM (hz_some_e h).2.symm (hz_name (hz_some_e h).1.symm (hz_zret hO (by rw [← (hz_some_e h).1]; decide) dX3_isPeg_17))
def f_X3_isTowel (a1 : Int32) (M : hz_M) : hz_O :=
  if a1 < 0 then
    some ((0 : Int32), M)
  else
    if (M 1 6) ≤ a1 then
      some ((0 : Int32), M)
    else
      some ((1 : Int32), M)
set_option maxRecDepth 100000 in
set_option maxHeartbeats 4000000 in
theorem c_X3_isTowel (l : Launch) (w : hz_C) {N : Nat} (hN : 178 ≤ N) (a1 : Int32) {M : hz_M} {rE : Int32} {ME : hz_M} (h : f_X3_isTowel a1 M = some (rE, ME)) : hz_Ct l yX3_isTowel cX3_isTowel 2 (some .boolean) 0 w N [.ref (hz_ad w 1), .int a1] M (hz_Qi w N rE ME) := by
  refine hz_ofW (by decide) rfl (Nat.le_of_ble_eq_true rfl) tw_4_231 ?_
  intro p e s m args below meth c hO
  show hz_G p l e 0 hz_z0 s m args below meth c w N 2 _ M 0 [(0, .ref (hz_ad w 1)), (1, .int a1)] []
  unfold f_X3_isTowel at h
  refine hz_iload_n hO dX3_isTowel_0 rfl 1 rfl ?_
  refine hz_if_lt (tgt := 16) hO dX3_isTowel_1 (by decide) (fun hc1 => ?_) (fun hc1 => ?_)
  · rw [if_pos hc1] at h
    refine hz_iconst (v := (0 : Int32)) hO dX3_isTowel_16 (by decide) ?_
    exact hz_nameM (hz_some_e h).2.symm (hz_name (hz_some_e h).1.symm (hz_zret hO (by rw [← (hz_some_e h).1]; decide) dX3_isTowel_17))
  · rw [if_neg hc1] at h
    refine hz_iload_n hO dX3_isTowel_4 rfl 1 rfl ?_
    refine hz_aload_n hO dX3_isTowel_5 rfl 0 rfl ?_
    refine hz_getI (k := 6) hO hz_K_4 hz_sh_1 (hz_lt_1 hN) rfl (Nat.le_of_ble_eq_true rfl) tw_1_61 rfl dX3_isTowel_6 ?_
    refine hz_icmp_ge (tgt := 16) hO dX3_isTowel_9 (by decide) (fun hc2 => ?_) (fun hc2 => ?_)
    · rw [if_pos hc2] at h
      refine hz_iconst (v := (0 : Int32)) hO dX3_isTowel_16 (by decide) ?_
      exact hz_nameM (hz_some_e h).2.symm (hz_name (hz_some_e h).1.symm (hz_zret hO (by rw [← (hz_some_e h).1]; decide) dX3_isTowel_17))
    · rw [if_neg hc2] at h
      refine hz_iconst (v := (1 : Int32)) hO dX3_isTowel_12 (by decide) ?_
      refine hz_goto (tgt := 17) hO dX3_isTowel_13 (by decide) ?_
      exact hz_nameM (hz_some_e h).2.symm (hz_name (hz_some_e h).1.symm (hz_zret hO (by rw [← (hz_some_e h).1]; decide) dX3_isTowel_17))
def f_X3_isValve (a1 : Int32) (M : hz_M) : hz_O :=
  if a1 < 0 then
    some ((0 : Int32), M)
  else
    if (M 1 7) ≤ a1 then
      some ((0 : Int32), M)
    else
      some ((1 : Int32), M)
set_option maxRecDepth 100000 in
set_option maxHeartbeats 4000000 in
theorem c_X3_isValve (l : Launch) (w : hz_C) {N : Nat} (hN : 178 ≤ N) (a1 : Int32) {M : hz_M} {rE : Int32} {ME : hz_M} (h : f_X3_isValve a1 M = some (rE, ME)) : hz_Ct l yX3_isValve cX3_isValve 2 (some .boolean) 0 w N [.ref (hz_ad w 1), .int a1] M (hz_Qi w N rE ME) := by
  refine hz_ofW (by decide) rfl (Nat.le_of_ble_eq_true rfl) tw_5_16 ?_
  intro p e s m args below meth c hO
  show hz_G p l e 0 hz_z0 s m args below meth c w N 2 _ M 0 [(0, .ref (hz_ad w 1)), (1, .int a1)] []
  unfold f_X3_isValve at h
  refine hz_iload_n hO dX3_isValve_0 rfl 1 rfl ?_
  refine hz_if_lt (tgt := 16) hO dX3_isValve_1 (by decide) (fun hc1 => ?_) (fun hc1 => ?_)
  · rw [if_pos hc1] at h
    refine hz_iconst (v := (0 : Int32)) hO dX3_isValve_16 (by decide) ?_
    exact hz_nameM (hz_some_e h).2.symm (hz_name (hz_some_e h).1.symm (hz_zret hO (by rw [← (hz_some_e h).1]; decide) dX3_isValve_17))
  · rw [if_neg hc1] at h
    refine hz_iload_n hO dX3_isValve_4 rfl 1 rfl ?_
    refine hz_aload_n hO dX3_isValve_5 rfl 0 rfl ?_
    refine hz_getI (k := 7) hO hz_K_4 hz_sh_1 (hz_lt_1 hN) rfl (Nat.le_of_ble_eq_true rfl) tw_1_65 rfl dX3_isValve_6 ?_
    refine hz_icmp_ge (tgt := 16) hO dX3_isValve_9 (by decide) (fun hc2 => ?_) (fun hc2 => ?_)
    · rw [if_pos hc2] at h
      refine hz_iconst (v := (0 : Int32)) hO dX3_isValve_16 (by decide) ?_
      exact hz_nameM (hz_some_e h).2.symm (hz_name (hz_some_e h).1.symm (hz_zret hO (by rw [← (hz_some_e h).1]; decide) dX3_isValve_17))
    · rw [if_neg hc2] at h
      refine hz_iconst (v := (1 : Int32)) hO dX3_isValve_12 (by decide) ?_
      refine hz_goto (tgt := 17) hO dX3_isValve_13 (by decide) ?_
      exact hz_nameM (hz_some_e h).2.symm (hz_name (hz_some_e h).1.symm (hz_zret hO (by rw [← (hz_some_e h).1]; decide) dX3_isValve_17))
def f_X3_isStep (a1 : Int32) (M : hz_M) : hz_O :=
  if a1 < (1 : Int32) then
    some ((0 : Int32), M)
  else
    if (M 1 8) < a1 then
      some ((0 : Int32), M)
    else
      some ((1 : Int32), M)
set_option maxRecDepth 100000 in
set_option maxHeartbeats 4000000 in
theorem c_X3_isStep (l : Launch) (w : hz_C) {N : Nat} (hN : 178 ≤ N) (a1 : Int32) {M : hz_M} {rE : Int32} {ME : hz_M} (h : f_X3_isStep a1 M = some (rE, ME)) : hz_Ct l yX3_isStep cX3_isStep 2 (some .boolean) 0 w N [.ref (hz_ad w 1), .int a1] M (hz_Qi w N rE ME) := by
  refine hz_ofW (by decide) rfl (Nat.le_of_ble_eq_true rfl) tw_4_72 ?_
  intro p e s m args below meth c hO
  show hz_G p l e 0 hz_z0 s m args below meth c w N 2 _ M 0 [(0, .ref (hz_ad w 1)), (1, .int a1)] []
  unfold f_X3_isStep at h
  refine hz_iload_n hO dX3_isStep_0 rfl 1 rfl ?_
  refine hz_iconst (v := (1 : Int32)) hO dX3_isStep_1 (by decide) ?_
  refine hz_icmp_lt (tgt := 17) hO dX3_isStep_2 (by decide) (fun hc1 => ?_) (fun hc1 => ?_)
  · rw [if_pos hc1] at h
    refine hz_iconst (v := (0 : Int32)) hO dX3_isStep_17 (by decide) ?_
    exact hz_nameM (hz_some_e h).2.symm (hz_name (hz_some_e h).1.symm (hz_zret hO (by rw [← (hz_some_e h).1]; decide) dX3_isStep_18))
  · rw [if_neg hc1] at h
    refine hz_iload_n hO dX3_isStep_5 rfl 1 rfl ?_
    refine hz_aload_n hO dX3_isStep_6 rfl 0 rfl ?_
    refine hz_getI (k := 8) hO hz_K_4 hz_sh_1 (hz_lt_1 hN) rfl (Nat.le_of_ble_eq_true rfl) tw_1_68 rfl dX3_isStep_7 ?_
    refine hz_icmp_gt (tgt := 17) hO dX3_isStep_10 (by decide) (fun hc2 => ?_) (fun hc2 => ?_)
    · rw [if_pos hc2] at h
      refine hz_iconst (v := (0 : Int32)) hO dX3_isStep_17 (by decide) ?_
      exact hz_nameM (hz_some_e h).2.symm (hz_name (hz_some_e h).1.symm (hz_zret hO (by rw [← (hz_some_e h).1]; decide) dX3_isStep_18))
    · rw [if_neg hc2] at h
      refine hz_iconst (v := (1 : Int32)) hO dX3_isStep_13 (by decide) ?_
      refine hz_goto (tgt := 18) hO dX3_isStep_14 (by decide) ?_
      exact hz_nameM (hz_some_e h).2.symm (hz_name (hz_some_e h).1.symm (hz_zret hO (by rw [← (hz_some_e h).1]; decide) dX3_isStep_18))
def f_X3_bears (a1 : Int32) (M : hz_M) : hz_O :=
  hz_gd (hz_in a1 16) <|
  some (((60 : Int32) + ((M 2 (Int32.toNatClampNeg a1)) / (4 : Int32))), M)
set_option maxRecDepth 100000 in
set_option maxHeartbeats 4000000 in
theorem c_X3_bears (l : Launch) (w : hz_C) {N : Nat} (hN : 178 ≤ N) (a1 : Int32) {M : hz_M} {rE : Int32} {ME : hz_M} (h : f_X3_bears a1 M = some (rE, ME)) : hz_Ct l yX3_bears cX3_bears 2 (some .int) 0 w N [.ref (hz_ad w 1), .int a1] M (hz_Qi w N rE ME) := by
  refine hz_ofW (by decide) rfl (Nat.le_of_ble_eq_true rfl) tw_4_154 ?_
  intro p e s m args below meth c hO
  show hz_G p l e 0 hz_z0 s m args below meth c w N 2 _ M 0 [(0, .ref (hz_ad w 1)), (1, .int a1)] []
  unfold f_X3_bears at h
  refine hz_bipush (v := (60 : Int32)) hO dX3_bears_0 (by decide) ?_
  refine hz_aload_n hO dX3_bears_2 rfl 0 rfl ?_
  refine hz_getR (k := 0) hO 2 hz_K_4 hz_sh_1 (hz_lt_1 hN) rfl (Nat.le_of_ble_eq_true rfl) tw_1_45 rfl dX3_bears_3 ?_
  refine hz_iload_n hO dX3_bears_6 rfl 1 rfl ?_
  obtain ⟨hg1, h⟩ := hz_gd_e h
  refine hz_iald hO hz_sh_2 (hz_lt_2 hN) hg1 dX3_bears_7 ?_
  refine hz_iconst (v := (4 : Int32)) hO dX3_bears_8 (by decide) ?_
  refine hz_idiv hO dX3_bears_9 (by decide) ?_
  refine hz_iadd hO dX3_bears_10 ?_
  exact hz_nameM (hz_some_e h).2.symm (hz_name (hz_some_e h).1.symm (hz_iret hO dX3_bears_11))
def f_X3_ageFor (a0 : Int32) (M : hz_M) : hz_O :=
  some (((5 : Int32) * (a0 - (1 : Int32))), M)
set_option maxRecDepth 100000 in
set_option maxHeartbeats 4000000 in
theorem c_X3_ageFor (l : Launch) (w : hz_C) {N : Nat} (hN : 178 ≤ N) (a0 : Int32) {M : hz_M} {rE : Int32} {ME : hz_M} (h : f_X3_ageFor a0 M = some (rE, ME)) : hz_Ct l yX3_ageFor cX3_ageFor 1 (some .int) 0 w N [.int a0] M (hz_Qi w N rE ME) := by
  refine hz_ofW (by decide) rfl (Nat.le_of_ble_eq_true rfl) tw_4_103 ?_
  intro p e s m args below meth c hO
  show hz_G p l e 0 hz_z0 s m args below meth c w N 1 _ M 0 [(0, .int a0)] []
  unfold f_X3_ageFor at h
  refine hz_iconst (v := (5 : Int32)) hO dX3_ageFor_0 (by decide) ?_
  refine hz_iload_n hO dX3_ageFor_1 rfl 0 rfl ?_
  refine hz_iconst (v := (1 : Int32)) hO dX3_ageFor_2 (by decide) ?_
  refine hz_isub hO dX3_ageFor_3 ?_
  refine hz_imul hO dX3_ageFor_4 ?_
  exact hz_nameM (hz_some_e h).2.symm (hz_name (hz_some_e h).1.symm (hz_iret hO dX3_ageFor_5))
def f_X3_highestByAge (a1 : Int32) (M : hz_M) : hz_O :=
  hz_gd (hz_in a1 16) <|
  some ((if (M 1 8) < (((M 2 (Int32.toNatClampNeg a1)) / (5 : Int32)) + (1 : Int32)) then (M 1 8) else (((M 2 (Int32.toNatClampNeg a1)) / (5 : Int32)) + (1 : Int32))), M)
set_option maxRecDepth 100000 in
set_option maxHeartbeats 4000000 in
theorem c_X3_highestByAge (l : Launch) (w : hz_C) {N : Nat} (hN : 178 ≤ N) (a1 : Int32) {M : hz_M} {rE : Int32} {ME : hz_M} (h : f_X3_highestByAge a1 M = some (rE, ME)) : hz_Ct l yX3_highestByAge cX3_highestByAge 2 (some .int) 1 w N [.ref (hz_ad w 1), .int a1] M (hz_Qi w N rE ME) := by
  refine hz_ofW (by decide) rfl (Nat.le_of_ble_eq_true rfl) tw_4_158 ?_
  intro p e s m args below meth c hO
  show hz_G p l e 1 hz_z0 s m args below meth c w N 2 _ M 0 [(0, .ref (hz_ad w 1)), (1, .int a1)] []
  unfold f_X3_highestByAge at h
  refine hz_aload_n hO dX3_highestByAge_0 rfl 0 rfl ?_
  refine hz_getR (k := 0) hO 2 hz_K_4 hz_sh_1 (hz_lt_1 hN) rfl (Nat.le_of_ble_eq_true rfl) tw_1_45 rfl dX3_highestByAge_1 ?_
  refine hz_iload_n hO dX3_highestByAge_4 rfl 1 rfl ?_
  obtain ⟨hg1, h⟩ := hz_gd_e h
  refine hz_iald hO hz_sh_2 (hz_lt_2 hN) hg1 dX3_highestByAge_5 ?_
  refine hz_iconst (v := (5 : Int32)) hO dX3_highestByAge_6 (by decide) ?_
  refine hz_idiv hO dX3_highestByAge_7 (by decide) ?_
  refine hz_iconst (v := (1 : Int32)) hO dX3_highestByAge_8 (by decide) ?_
  refine hz_iadd hO dX3_highestByAge_9 ?_
  refine hz_aload_n hO dX3_highestByAge_10 rfl 0 rfl ?_
  refine hz_getI (k := 8) hO hz_K_4 hz_sh_1 (hz_lt_1 hN) rfl (Nat.le_of_ble_eq_true rfl) tw_1_68 rfl dX3_highestByAge_11 ?_
  refine hz_mmin hO tw_3_7 (Nat.le_of_ble_eq_true rfl) (Nat.le_of_ble_eq_true rfl) dX3_highestByAge_14 ?_
  exact hz_nameM (hz_some_e h).2.symm (hz_name (hz_some_e h).1.symm (hz_iret hO dX3_highestByAge_17))
def f_X7_copyFrom (b1 : Nat) (b2 : Nat) (M : hz_M) : hz_O :=
  hz_lm (hz_set M b1 14 (M b2 14)) fun M1 =>
  hz_lm (hz_set M1 b1 15 (M1 b2 15)) fun M2 =>
  hz_lm (hz_set M2 b1 16 (M2 b2 16)) fun M3 =>
  hz_lm (hz_set M3 b1 17 (M3 b2 17)) fun M4 =>
  hz_lm (hz_set M4 b1 18 (M4 b2 18)) fun M5 =>
  hz_lm (hz_set M5 b1 19 (M5 b2 19)) fun M6 =>
  hz_lm (hz_cpy M6 (b2 + 1) (b1 + 1) 4) fun M7 =>
  hz_lm (hz_cpy M7 (b2 + 2) (b1 + 2) 16) fun M8 =>
  hz_lm (hz_cpy M8 (b2 + 3) (b1 + 3) 16) fun M9 =>
  hz_lm (hz_cpy M9 (b2 + 4) (b1 + 4) 16) fun M10 =>
  hz_lm (hz_cpy M10 (b2 + 5) (b1 + 5) 16) fun M11 =>
  hz_lm (hz_cpy M11 (b2 + 6) (b1 + 6) 16) fun M12 =>
  hz_lm (hz_cpy M12 (b2 + 7) (b1 + 7) 16) fun M13 =>
  hz_lm (hz_cpy M13 (b2 + 8) (b1 + 8) 12) fun M14 =>
  hz_lm (hz_cpy M14 (b2 + 9) (b1 + 9) 16) fun M15 =>
  hz_lm (hz_cpy M15 (b2 + 10) (b1 + 10) 16) fun M16 =>
  hz_lm (hz_cpy M16 (b2 + 11) (b1 + 11) 16) fun M17 =>
  hz_lm (hz_cpy M17 (b2 + 12) (b1 + 12) 16) fun M18 =>
  hz_lm (hz_cpy M18 (b2 + 13) (b1 + 13) 9) fun M19 =>
  some (0, M19)
set_option maxRecDepth 100000 in
set_option maxHeartbeats 4000000 in
theorem c_X7_copyFrom (l : Launch) (w : hz_C) {N : Nat} (hN : 178 ≤ N) {b1 : Nat} (hB1 : hz_Sta N b1) {b2 : Nat} (hB2 : hz_Sta N b2) {M : hz_M} {rE : Int32} {ME : hz_M} (h : f_X7_copyFrom b1 b2 M = some (rE, ME)) : hz_Ct l yX7_copyFrom cX7_copyFrom 2 none 3 w N [.ref (hz_ad w b1), .ref (hz_ad w b2)] M (hz_Qv w N ME) := by
  refine hz_ofW (by decide) rfl (Nat.le_of_ble_eq_true rfl) tw_3_164 ?_
  intro p e s m args below meth c hO
  show hz_G p l e 3 hz_z0 s m args below meth c w N 2 _ M 0 [(0, .ref (hz_ad w b1)), (1, .ref (hz_ad w b2))] []
  unfold f_X7_copyFrom at h
  refine hz_aload_n hO dX7_copyFrom_0 rfl 0 rfl ?_
  refine hz_aload_n hO dX7_copyFrom_1 rfl 1 rfl ?_
  refine hz_getI (k := 14) hO hz_K_7 hB2.1 hB2.2.1 rfl (Nat.le_of_ble_eq_true rfl) tw_1_189 rfl dX7_copyFrom_2 ?_
  obtain ⟨M1, h_M1, h⟩ := hz_lm_e h
  refine hz_putI (k := 14) (ty := .int) hO hz_K_7 tyX7_ok nmX7 hB1.1 hB1.2.1 rfl (Nat.le_of_ble_eq_true rfl) tw_1_189 rfl rfl rfl rfl rfl dX7_copyFrom_5 ?_
  refine hz_nameM h_M1 ?_
  refine hz_aload_n hO dX7_copyFrom_8 rfl 0 rfl ?_
  refine hz_aload_n hO dX7_copyFrom_9 rfl 1 rfl ?_
  refine hz_getI (k := 15) hO hz_K_7 hB2.1 hB2.2.1 rfl (Nat.le_of_ble_eq_true rfl) tw_1_192 rfl dX7_copyFrom_10 ?_
  obtain ⟨M2, h_M2, h⟩ := hz_lm_e h
  refine hz_putI (k := 15) (ty := .int) hO hz_K_7 tyX7_ok nmX7 hB1.1 hB1.2.1 rfl (Nat.le_of_ble_eq_true rfl) tw_1_192 rfl rfl rfl rfl rfl dX7_copyFrom_13 ?_
  refine hz_nameM h_M2 ?_
  refine hz_aload_n hO dX7_copyFrom_16 rfl 0 rfl ?_
  refine hz_aload_n hO dX7_copyFrom_17 rfl 1 rfl ?_
  refine hz_getI (k := 16) hO hz_K_7 hB2.1 hB2.2.1 rfl (Nat.le_of_ble_eq_true rfl) tw_1_194 rfl dX7_copyFrom_18 ?_
  obtain ⟨M3, h_M3, h⟩ := hz_lm_e h
  refine hz_putI (k := 16) (ty := .int) hO hz_K_7 tyX7_ok nmX7 hB1.1 hB1.2.1 rfl (Nat.le_of_ble_eq_true rfl) tw_1_194 rfl rfl rfl rfl rfl dX7_copyFrom_21 ?_
  refine hz_nameM h_M3 ?_
  refine hz_aload_n hO dX7_copyFrom_24 rfl 0 rfl ?_
  refine hz_aload_n hO dX7_copyFrom_25 rfl 1 rfl ?_
  refine hz_getI (k := 17) hO hz_K_7 hB2.1 hB2.2.1 rfl (Nat.le_of_ble_eq_true rfl) tw_1_195 rfl dX7_copyFrom_26 ?_
  obtain ⟨M4, h_M4, h⟩ := hz_lm_e h
  refine hz_putI (k := 17) (ty := .int) hO hz_K_7 tyX7_ok nmX7 hB1.1 hB1.2.1 rfl (Nat.le_of_ble_eq_true rfl) tw_1_195 rfl rfl rfl rfl rfl dX7_copyFrom_29 ?_
  refine hz_nameM h_M4 ?_
  refine hz_aload_n hO dX7_copyFrom_32 rfl 0 rfl ?_
  refine hz_aload_n hO dX7_copyFrom_33 rfl 1 rfl ?_
  refine hz_getI (k := 18) hO hz_K_7 hB2.1 hB2.2.1 rfl (Nat.le_of_ble_eq_true rfl) tw_1_198 rfl dX7_copyFrom_34 ?_
  obtain ⟨M5, h_M5, h⟩ := hz_lm_e h
  refine hz_putI (k := 18) (ty := .int) hO hz_K_7 tyX7_ok nmX7 hB1.1 hB1.2.1 rfl (Nat.le_of_ble_eq_true rfl) tw_1_198 rfl rfl rfl rfl rfl dX7_copyFrom_37 ?_
  refine hz_nameM h_M5 ?_
  refine hz_aload_n hO dX7_copyFrom_40 rfl 0 rfl ?_
  refine hz_aload_n hO dX7_copyFrom_41 rfl 1 rfl ?_
  refine hz_getI (k := 19) hO hz_K_7 hB2.1 hB2.2.1 rfl (Nat.le_of_ble_eq_true rfl) tw_1_200 rfl dX7_copyFrom_42 ?_
  obtain ⟨M6, h_M6, h⟩ := hz_lm_e h
  refine hz_putI (k := 19) (ty := .int) hO hz_K_7 tyX7_ok nmX7 hB1.1 hB1.2.1 rfl (Nat.le_of_ble_eq_true rfl) tw_1_200 rfl rfl rfl rfl rfl dX7_copyFrom_45 ?_
  refine hz_nameM h_M6 ?_
  refine hz_aload_n hO dX7_copyFrom_48 rfl 1 rfl ?_
  refine hz_getR (k := 1) hO (b2 + 1) hz_K_7 hB2.1 hB2.2.1 rfl (Nat.le_of_ble_eq_true rfl) tw_1_147 rfl dX7_copyFrom_49 ?_
  refine hz_aload_n hO dX7_copyFrom_52 rfl 0 rfl ?_
  refine hz_getR (k := 1) hO (b1 + 1) hz_K_7 hB1.1 hB1.2.1 rfl (Nat.le_of_ble_eq_true rfl) tw_1_147 rfl dX7_copyFrom_53 ?_
  obtain ⟨M7, h_M7, h⟩ := hz_lm_e h
  refine hz_callSv (as := [.ref (hz_ad w (b2 + 1)), .ref (hz_ad w (b1 + 1))]) (rest := []) hO (c_X7_copyRow l w hB2.2.2.1 hB2.2.2.2.1 hB1.2.2.1 hB1.2.2.2.1 (by decide)) hz_cal_X7_copyRow tw_3_165 (Nat.le_of_ble_eq_true rfl) rfl rfl (Nat.le_of_ble_eq_true rfl) dX7_copyFrom_56 ?_
  refine hz_nameM h_M7 ?_
  refine hz_aload_n hO dX7_copyFrom_59 rfl 1 rfl ?_
  refine hz_getR (k := 2) hO (b2 + 2) hz_K_7 hB2.1 hB2.2.1 rfl (Nat.le_of_ble_eq_true rfl) tw_1_150 rfl dX7_copyFrom_60 ?_
  refine hz_aload_n hO dX7_copyFrom_63 rfl 0 rfl ?_
  refine hz_getR (k := 2) hO (b1 + 2) hz_K_7 hB1.1 hB1.2.1 rfl (Nat.le_of_ble_eq_true rfl) tw_1_150 rfl dX7_copyFrom_64 ?_
  obtain ⟨M8, h_M8, h⟩ := hz_lm_e h
  refine hz_callSv (as := [.ref (hz_ad w (b2 + 2)), .ref (hz_ad w (b1 + 2))]) (rest := []) hO (c_X7_copyRow l w hB2.2.2.2.2.1 hB2.2.2.2.2.2.1 hB1.2.2.2.2.1 hB1.2.2.2.2.2.1 (by decide)) hz_cal_X7_copyRow tw_3_165 (Nat.le_of_ble_eq_true rfl) rfl rfl (Nat.le_of_ble_eq_true rfl) dX7_copyFrom_67 ?_
  refine hz_nameM h_M8 ?_
  refine hz_aload_n hO dX7_copyFrom_70 rfl 1 rfl ?_
  refine hz_getR (k := 3) hO (b2 + 3) hz_K_7 hB2.1 hB2.2.1 rfl (Nat.le_of_ble_eq_true rfl) tw_1_154 rfl dX7_copyFrom_71 ?_
  refine hz_aload_n hO dX7_copyFrom_74 rfl 0 rfl ?_
  refine hz_getR (k := 3) hO (b1 + 3) hz_K_7 hB1.1 hB1.2.1 rfl (Nat.le_of_ble_eq_true rfl) tw_1_154 rfl dX7_copyFrom_75 ?_
  obtain ⟨M9, h_M9, h⟩ := hz_lm_e h
  refine hz_callSv (as := [.ref (hz_ad w (b2 + 3)), .ref (hz_ad w (b1 + 3))]) (rest := []) hO (c_X7_copyRow l w hB2.2.2.2.2.2.2.1 hB2.2.2.2.2.2.2.2.1 hB1.2.2.2.2.2.2.1 hB1.2.2.2.2.2.2.2.1 (by decide)) hz_cal_X7_copyRow tw_3_165 (Nat.le_of_ble_eq_true rfl) rfl rfl (Nat.le_of_ble_eq_true rfl) dX7_copyFrom_78 ?_
  refine hz_nameM h_M9 ?_
  refine hz_aload_n hO dX7_copyFrom_81 rfl 1 rfl ?_
  refine hz_getR (k := 4) hO (b2 + 4) hz_K_7 hB2.1 hB2.2.1 rfl (Nat.le_of_ble_eq_true rfl) tw_1_157 rfl dX7_copyFrom_82 ?_
  refine hz_aload_n hO dX7_copyFrom_85 rfl 0 rfl ?_
  refine hz_getR (k := 4) hO (b1 + 4) hz_K_7 hB1.1 hB1.2.1 rfl (Nat.le_of_ble_eq_true rfl) tw_1_157 rfl dX7_copyFrom_86 ?_
  obtain ⟨M10, h_M10, h⟩ := hz_lm_e h
  refine hz_callSv (as := [.ref (hz_ad w (b2 + 4)), .ref (hz_ad w (b1 + 4))]) (rest := []) hO (c_X7_copyRow l w hB2.2.2.2.2.2.2.2.2.1 hB2.2.2.2.2.2.2.2.2.2.1 hB1.2.2.2.2.2.2.2.2.1 hB1.2.2.2.2.2.2.2.2.2.1 (by decide)) hz_cal_X7_copyRow tw_3_165 (Nat.le_of_ble_eq_true rfl) rfl rfl (Nat.le_of_ble_eq_true rfl) dX7_copyFrom_89 ?_
  refine hz_nameM h_M10 ?_
  refine hz_aload_n hO dX7_copyFrom_92 rfl 1 rfl ?_
  refine hz_getR (k := 5) hO (b2 + 5) hz_K_7 hB2.1 hB2.2.1 rfl (Nat.le_of_ble_eq_true rfl) tw_1_161 rfl dX7_copyFrom_93 ?_
  refine hz_aload_n hO dX7_copyFrom_96 rfl 0 rfl ?_
  refine hz_getR (k := 5) hO (b1 + 5) hz_K_7 hB1.1 hB1.2.1 rfl (Nat.le_of_ble_eq_true rfl) tw_1_161 rfl dX7_copyFrom_97 ?_
  obtain ⟨M11, h_M11, h⟩ := hz_lm_e h
  refine hz_callSv (as := [.ref (hz_ad w (b2 + 5)), .ref (hz_ad w (b1 + 5))]) (rest := []) hO (c_X7_copyRow l w hB2.2.2.2.2.2.2.2.2.2.2.1 hB2.2.2.2.2.2.2.2.2.2.2.2.1 hB1.2.2.2.2.2.2.2.2.2.2.1 hB1.2.2.2.2.2.2.2.2.2.2.2.1 (by decide)) hz_cal_X7_copyRow tw_3_165 (Nat.le_of_ble_eq_true rfl) rfl rfl (Nat.le_of_ble_eq_true rfl) dX7_copyFrom_100 ?_
  refine hz_nameM h_M11 ?_
  refine hz_aload_n hO dX7_copyFrom_103 rfl 1 rfl ?_
  refine hz_getR (k := 6) hO (b2 + 6) hz_K_7 hB2.1 hB2.2.1 rfl (Nat.le_of_ble_eq_true rfl) tw_1_164 rfl dX7_copyFrom_104 ?_
  refine hz_aload_n hO dX7_copyFrom_107 rfl 0 rfl ?_
  refine hz_getR (k := 6) hO (b1 + 6) hz_K_7 hB1.1 hB1.2.1 rfl (Nat.le_of_ble_eq_true rfl) tw_1_164 rfl dX7_copyFrom_108 ?_
  obtain ⟨M12, h_M12, h⟩ := hz_lm_e h
  refine hz_callSv (as := [.ref (hz_ad w (b2 + 6)), .ref (hz_ad w (b1 + 6))]) (rest := []) hO (c_X7_copyRow l w hB2.2.2.2.2.2.2.2.2.2.2.2.2.1 hB2.2.2.2.2.2.2.2.2.2.2.2.2.2.1 hB1.2.2.2.2.2.2.2.2.2.2.2.2.1 hB1.2.2.2.2.2.2.2.2.2.2.2.2.2.1 (by decide)) hz_cal_X7_copyRow tw_3_165 (Nat.le_of_ble_eq_true rfl) rfl rfl (Nat.le_of_ble_eq_true rfl) dX7_copyFrom_111 ?_
  refine hz_nameM h_M12 ?_
  refine hz_aload_n hO dX7_copyFrom_114 rfl 1 rfl ?_
  refine hz_getR (k := 7) hO (b2 + 7) hz_K_7 hB2.1 hB2.2.1 rfl (Nat.le_of_ble_eq_true rfl) tw_1_167 rfl dX7_copyFrom_115 ?_
  refine hz_aload_n hO dX7_copyFrom_118 rfl 0 rfl ?_
  refine hz_getR (k := 7) hO (b1 + 7) hz_K_7 hB1.1 hB1.2.1 rfl (Nat.le_of_ble_eq_true rfl) tw_1_167 rfl dX7_copyFrom_119 ?_
  obtain ⟨M13, h_M13, h⟩ := hz_lm_e h
  refine hz_callSv (as := [.ref (hz_ad w (b2 + 7)), .ref (hz_ad w (b1 + 7))]) (rest := []) hO (c_X7_copyRow l w hB2.2.2.2.2.2.2.2.2.2.2.2.2.2.2.1 hB2.2.2.2.2.2.2.2.2.2.2.2.2.2.2.2.1 hB1.2.2.2.2.2.2.2.2.2.2.2.2.2.2.1 hB1.2.2.2.2.2.2.2.2.2.2.2.2.2.2.2.1 (by decide)) hz_cal_X7_copyRow tw_3_165 (Nat.le_of_ble_eq_true rfl) rfl rfl (Nat.le_of_ble_eq_true rfl) dX7_copyFrom_122 ?_
  refine hz_nameM h_M13 ?_
  refine hz_aload_n hO dX7_copyFrom_125 rfl 1 rfl ?_
  refine hz_getR (k := 8) hO (b2 + 8) hz_K_7 hB2.1 hB2.2.1 rfl (Nat.le_of_ble_eq_true rfl) tw_1_171 rfl dX7_copyFrom_126 ?_
  refine hz_aload_n hO dX7_copyFrom_129 rfl 0 rfl ?_
  refine hz_getR (k := 8) hO (b1 + 8) hz_K_7 hB1.1 hB1.2.1 rfl (Nat.le_of_ble_eq_true rfl) tw_1_171 rfl dX7_copyFrom_130 ?_
  obtain ⟨M14, h_M14, h⟩ := hz_lm_e h
  refine hz_callSv (as := [.ref (hz_ad w (b2 + 8)), .ref (hz_ad w (b1 + 8))]) (rest := []) hO (c_X7_copyRow l w hB2.2.2.2.2.2.2.2.2.2.2.2.2.2.2.2.2.1 hB2.2.2.2.2.2.2.2.2.2.2.2.2.2.2.2.2.2.1 hB1.2.2.2.2.2.2.2.2.2.2.2.2.2.2.2.2.1 hB1.2.2.2.2.2.2.2.2.2.2.2.2.2.2.2.2.2.1 (by decide)) hz_cal_X7_copyRow tw_3_165 (Nat.le_of_ble_eq_true rfl) rfl rfl (Nat.le_of_ble_eq_true rfl) dX7_copyFrom_133 ?_
  refine hz_nameM h_M14 ?_
  refine hz_aload_n hO dX7_copyFrom_136 rfl 1 rfl ?_
  refine hz_getR (k := 9) hO (b2 + 9) hz_K_7 hB2.1 hB2.2.1 rfl (Nat.le_of_ble_eq_true rfl) tw_1_174 rfl dX7_copyFrom_137 ?_
  refine hz_aload_n hO dX7_copyFrom_140 rfl 0 rfl ?_
  refine hz_getR (k := 9) hO (b1 + 9) hz_K_7 hB1.1 hB1.2.1 rfl (Nat.le_of_ble_eq_true rfl) tw_1_174 rfl dX7_copyFrom_141 ?_
  obtain ⟨M15, h_M15, h⟩ := hz_lm_e h
  refine hz_callSv (as := [.ref (hz_ad w (b2 + 9)), .ref (hz_ad w (b1 + 9))]) (rest := []) hO (c_X7_copyRow l w hB2.2.2.2.2.2.2.2.2.2.2.2.2.2.2.2.2.2.2.1 hB2.2.2.2.2.2.2.2.2.2.2.2.2.2.2.2.2.2.2.2.1 hB1.2.2.2.2.2.2.2.2.2.2.2.2.2.2.2.2.2.2.1 hB1.2.2.2.2.2.2.2.2.2.2.2.2.2.2.2.2.2.2.2.1 (by decide)) hz_cal_X7_copyRow tw_3_165 (Nat.le_of_ble_eq_true rfl) rfl rfl (Nat.le_of_ble_eq_true rfl) dX7_copyFrom_144 ?_
  refine hz_nameM h_M15 ?_
  refine hz_aload_n hO dX7_copyFrom_147 rfl 1 rfl ?_
  refine hz_getR (k := 10) hO (b2 + 10) hz_K_7 hB2.1 hB2.2.1 rfl (Nat.le_of_ble_eq_true rfl) tw_1_177 rfl dX7_copyFrom_148 ?_
  refine hz_aload_n hO dX7_copyFrom_151 rfl 0 rfl ?_
  refine hz_getR (k := 10) hO (b1 + 10) hz_K_7 hB1.1 hB1.2.1 rfl (Nat.le_of_ble_eq_true rfl) tw_1_177 rfl dX7_copyFrom_152 ?_
  obtain ⟨M16, h_M16, h⟩ := hz_lm_e h
  refine hz_callSv (as := [.ref (hz_ad w (b2 + 10)), .ref (hz_ad w (b1 + 10))]) (rest := []) hO (c_X7_copyRow l w hB2.2.2.2.2.2.2.2.2.2.2.2.2.2.2.2.2.2.2.2.2.1 hB2.2.2.2.2.2.2.2.2.2.2.2.2.2.2.2.2.2.2.2.2.2.1 hB1.2.2.2.2.2.2.2.2.2.2.2.2.2.2.2.2.2.2.2.2.1 hB1.2.2.2.2.2.2.2.2.2.2.2.2.2.2.2.2.2.2.2.2.2.1 (by decide)) hz_cal_X7_copyRow tw_3_165 (Nat.le_of_ble_eq_true rfl) rfl rfl (Nat.le_of_ble_eq_true rfl) dX7_copyFrom_155 ?_
  refine hz_nameM h_M16 ?_
  refine hz_aload_n hO dX7_copyFrom_158 rfl 1 rfl ?_
  refine hz_getR (k := 11) hO (b2 + 11) hz_K_7 hB2.1 hB2.2.1 rfl (Nat.le_of_ble_eq_true rfl) tw_1_179 rfl dX7_copyFrom_159 ?_
  refine hz_aload_n hO dX7_copyFrom_162 rfl 0 rfl ?_
  refine hz_getR (k := 11) hO (b1 + 11) hz_K_7 hB1.1 hB1.2.1 rfl (Nat.le_of_ble_eq_true rfl) tw_1_179 rfl dX7_copyFrom_163 ?_
  obtain ⟨M17, h_M17, h⟩ := hz_lm_e h
  refine hz_callSv (as := [.ref (hz_ad w (b2 + 11)), .ref (hz_ad w (b1 + 11))]) (rest := []) hO (c_X7_copyRow l w hB2.2.2.2.2.2.2.2.2.2.2.2.2.2.2.2.2.2.2.2.2.2.2.1 hB2.2.2.2.2.2.2.2.2.2.2.2.2.2.2.2.2.2.2.2.2.2.2.2.1 hB1.2.2.2.2.2.2.2.2.2.2.2.2.2.2.2.2.2.2.2.2.2.2.1 hB1.2.2.2.2.2.2.2.2.2.2.2.2.2.2.2.2.2.2.2.2.2.2.2.1 (by decide)) hz_cal_X7_copyRow tw_3_165 (Nat.le_of_ble_eq_true rfl) rfl rfl (Nat.le_of_ble_eq_true rfl) dX7_copyFrom_166 ?_
  refine hz_nameM h_M17 ?_
  refine hz_aload_n hO dX7_copyFrom_169 rfl 1 rfl ?_
  refine hz_getR (k := 12) hO (b2 + 12) hz_K_7 hB2.1 hB2.2.1 rfl (Nat.le_of_ble_eq_true rfl) tw_1_182 rfl dX7_copyFrom_170 ?_
  refine hz_aload_n hO dX7_copyFrom_173 rfl 0 rfl ?_
  refine hz_getR (k := 12) hO (b1 + 12) hz_K_7 hB1.1 hB1.2.1 rfl (Nat.le_of_ble_eq_true rfl) tw_1_182 rfl dX7_copyFrom_174 ?_
  obtain ⟨M18, h_M18, h⟩ := hz_lm_e h
  refine hz_callSv (as := [.ref (hz_ad w (b2 + 12)), .ref (hz_ad w (b1 + 12))]) (rest := []) hO (c_X7_copyRow l w hB2.2.2.2.2.2.2.2.2.2.2.2.2.2.2.2.2.2.2.2.2.2.2.2.2.1 hB2.2.2.2.2.2.2.2.2.2.2.2.2.2.2.2.2.2.2.2.2.2.2.2.2.2.1 hB1.2.2.2.2.2.2.2.2.2.2.2.2.2.2.2.2.2.2.2.2.2.2.2.2.1 hB1.2.2.2.2.2.2.2.2.2.2.2.2.2.2.2.2.2.2.2.2.2.2.2.2.2.1 (by decide)) hz_cal_X7_copyRow tw_3_165 (Nat.le_of_ble_eq_true rfl) rfl rfl (Nat.le_of_ble_eq_true rfl) dX7_copyFrom_177 ?_
  refine hz_nameM h_M18 ?_
  refine hz_aload_n hO dX7_copyFrom_180 rfl 1 rfl ?_
  refine hz_getR (k := 13) hO (b2 + 13) hz_K_7 hB2.1 hB2.2.1 rfl (Nat.le_of_ble_eq_true rfl) tw_1_186 rfl dX7_copyFrom_181 ?_
  refine hz_aload_n hO dX7_copyFrom_184 rfl 0 rfl ?_
  refine hz_getR (k := 13) hO (b1 + 13) hz_K_7 hB1.1 hB1.2.1 rfl (Nat.le_of_ble_eq_true rfl) tw_1_186 rfl dX7_copyFrom_185 ?_
  obtain ⟨M19, h_M19, h⟩ := hz_lm_e h
  refine hz_callSv (as := [.ref (hz_ad w (b2 + 13)), .ref (hz_ad w (b1 + 13))]) (rest := []) hO (c_X7_copyRow l w hB2.2.2.2.2.2.2.2.2.2.2.2.2.2.2.2.2.2.2.2.2.2.2.2.2.2.2.1 hB2.2.2.2.2.2.2.2.2.2.2.2.2.2.2.2.2.2.2.2.2.2.2.2.2.2.2.2 hB1.2.2.2.2.2.2.2.2.2.2.2.2.2.2.2.2.2.2.2.2.2.2.2.2.2.2.1 hB1.2.2.2.2.2.2.2.2.2.2.2.2.2.2.2.2.2.2.2.2.2.2.2.2.2.2.2 (by decide)) hz_cal_X7_copyRow tw_3_165 (Nat.le_of_ble_eq_true rfl) rfl rfl (Nat.le_of_ble_eq_true rfl) dX7_copyFrom_188 ?_
  refine hz_nameM h_M19 ?_
  exact hz_nameM (hz_some_e h).2.symm (hz_vret hO dX7_copyFrom_191)
def f_X7_guestsInside_L4 : Nat → Int32 → Int32 → hz_M → hz_O
  | 0, _, _, _ => none
  | n + 1, v1_1, v2_2, M3 =>
    if (M3 1 3) ≤ v2_2 then
      some (v1_1, M3)
    else
      hz_gd (hz_in v2_2 16) <|
      hz_jn (fun (v1_6 : Int32) (v2_7 : Int32) (M8 : hz_M) =>
        hz_lt (v2_7 + (1 : Int32)) fun x9 =>
        f_X7_guestsInside_L4 n v1_6 x9 M8
        ) fun k10 =>
      if (M3 13 (Int32.toNatClampNeg v2_2)) = (-1 : Int32) then
        k10 v1_1 v2_2 M3
      else
        hz_lt (v1_1 + (1 : Int32)) fun x12 =>
        k10 x12 v2_2 M3
def f_X7_guestsInside (M : hz_M) : hz_O :=
  f_X7_guestsInside_L4 hz_FU (0 : Int32) (0 : Int32) M
set_option maxRecDepth 100000 in
set_option maxHeartbeats 4000000 in
theorem g_X7_guestsInside_L4 {p : Program} {l : Launch} {e : Env} {s : State} {m : MethodId} {args : Array Value} {below : List Frame} {meth : Method} {c : Code} {w : hz_C} {N : Nat} (hN : 178 ≤ N) {rE : Int32} {ME : hz_M} (hO : hz_Ok p s m args meth c w cX7_guestsInside 3 RX7 (some .int)) : ∀ (n : Nat) (v1_1 : Int32) (v2_2 : Int32) (M3 : hz_M), f_X7_guestsInside_L4 n v1_1 v2_2 M3 = some (rE, ME) → hz_G p l e 0 hz_z0 s m args below meth c w N 3 (MQ below (hz_Qi w N rE ME) args s 0 0 (hz_A w)) M3 4 [(0, .ref (hz_ad w 11)), (1, .int v1_1), (2, .int v2_2)] [] := by
  intro n
  induction n with
  | zero =>
    intro v1_1 v2_2 M3 h
    rw [f_X7_guestsInside_L4] at h
    cases h
  | succ n ih =>
    intro v1_1 v2_2 M3 h
    rw [f_X7_guestsInside_L4] at h
    refine hz_iload_n hO dX7_guestsInside_4 rfl 2 rfl ?_
    refine hz_aload_n hO dX7_guestsInside_5 rfl 0 rfl ?_
    refine hz_getR (k := 0) hO 1 hz_K_7 hz_sh_11 (hz_lt_11 hN) rfl (Nat.le_of_ble_eq_true rfl) tw_1_146 rfl dX7_guestsInside_6 ?_
    refine hz_getI (k := 3) hO hz_K_4 hz_sh_1 (hz_lt_1 hN) rfl (Nat.le_of_ble_eq_true rfl) tw_1_53 rfl dX7_guestsInside_9 ?_
    refine hz_icmp_ge (tgt := 34) hO dX7_guestsInside_12 (by decide) (fun hc4 => ?_) (fun hc4 => ?_)
    · rw [if_pos hc4] at h
      refine hz_iload_n hO dX7_guestsInside_34 rfl 1 rfl ?_
      exact hz_nameM (hz_some_e h).2.symm (hz_name (hz_some_e h).1.symm (hz_iret hO dX7_guestsInside_35))
    · rw [if_neg hc4] at h
      refine hz_aload_n hO dX7_guestsInside_15 rfl 0 rfl ?_
      refine hz_getR (k := 2) hO 13 hz_K_7 hz_sh_11 (hz_lt_11 hN) rfl (Nat.le_of_ble_eq_true rfl) tw_1_150 rfl dX7_guestsInside_16 ?_
      refine hz_iload_n hO dX7_guestsInside_19 rfl 2 rfl ?_
      obtain ⟨hg5, h⟩ := hz_gd_e h
      refine hz_iald hO hz_sh_13 (hz_lt_13 hN) hg5 dX7_guestsInside_20 ?_
      refine hz_iconst (v := (-1 : Int32)) hO dX7_guestsInside_21 (by decide) ?_
      obtain ⟨k10, hk10, h⟩ := hz_jn_e h
      have gk10 : ∀ (v1_6 : Int32) (v2_7 : Int32) (M8 : hz_M), k10 v1_6 v2_7 M8 = some (rE, ME) → hz_G p l e 0 hz_z0 s m args below meth c w N 3 (MQ below (hz_Qi w N rE ME) args s 0 0 (hz_A w)) M8 28 [(0, .ref (hz_ad w 11)), (1, .int v1_6), (2, .int v2_7)] [] := by
        intro v1_6 v2_7 M8 h
        rw [hk10] at h
        dsimp only at h
        obtain ⟨x9, h_x9, h⟩ := hz_lt_e h
        refine hz_iinc (k := 2) (v := x9) (ls1 := [(2, .int x9), (0, .ref (hz_ad w 11)), (1, .int v1_6)]) hO dX7_guestsInside_28 rfl (by rw [h_x9]; rfl) (Nat.le_of_ble_eq_true rfl) rfl ?_
        refine hz_goto (tgt := 4) hO dX7_guestsInside_31 (by decide) ?_
        exact hz_ls [1, 2, 0] rfl (ih v1_6 x9 M8 h)
      clear hk10
      refine hz_icmp_eq (tgt := 28) hO dX7_guestsInside_22 (by decide) (fun hc11 => ?_) (fun hc11 => ?_)
      · rw [if_pos hc11] at h
        exact hz_ls [0, 1, 2] rfl (gk10 v1_1 v2_2 M3 h)
      · rw [if_neg hc11] at h
        obtain ⟨x12, h_x12, h⟩ := hz_lt_e h
        refine hz_iinc (k := 1) (v := x12) (ls1 := [(1, .int x12), (0, .ref (hz_ad w 11)), (2, .int v2_2)]) hO dX7_guestsInside_25 rfl (by rw [h_x12]; rfl) (Nat.le_of_ble_eq_true rfl) rfl ?_
        exact hz_ls [1, 0, 2] rfl (gk10 x12 v2_2 M3 h)
set_option maxRecDepth 100000 in
set_option maxHeartbeats 4000000 in
theorem c_X7_guestsInside (l : Launch) (w : hz_C) {N : Nat} (hN : 178 ≤ N) {M : hz_M} {rE : Int32} {ME : hz_M} (h : f_X7_guestsInside M = some (rE, ME)) : hz_Ct l yX7_guestsInside cX7_guestsInside 3 (some .int) 0 w N [.ref (hz_ad w 11)] M (hz_Qi w N rE ME) := by
  refine hz_ofW (by decide) rfl (Nat.le_of_ble_eq_true rfl) tw_3_67 ?_
  intro p e s m args below meth c hO
  show hz_G p l e 0 hz_z0 s m args below meth c w N 3 _ M 0 [(0, .ref (hz_ad w 11))] []
  unfold f_X7_guestsInside at h
  refine hz_iconst (v := (0 : Int32)) hO dX7_guestsInside_0 (by decide) ?_
  refine hz_istore_n (ls1 := [(1, .int (0 : Int32)), (0, .ref (hz_ad w 11))]) hO dX7_guestsInside_1 rfl (Nat.le_of_ble_eq_true rfl) rfl ?_
  refine hz_iconst (v := (0 : Int32)) hO dX7_guestsInside_2 (by decide) ?_
  refine hz_istore_n (ls1 := [(2, .int (0 : Int32)), (1, .int (0 : Int32)), (0, .ref (hz_ad w 11))]) hO dX7_guestsInside_3 rfl (Nat.le_of_ble_eq_true rfl) rfl ?_
  exact hz_ls [2, 1, 0] rfl (g_X7_guestsInside_L4 hN hO _ (0 : Int32) (0 : Int32) M h)
def f_X7_guestsAt_L4 : Nat → Int32 → Int32 → Int32 → hz_M → hz_O
  | 0, _, _, _, _ => none
  | n + 1, v1_1, v2_2, v3_3, M4 =>
    if (M4 1 3) ≤ v3_3 then
      some (v2_2, M4)
    else
      hz_gd (hz_in v3_3 16) <|
      hz_jn (fun (v1_7 : Int32) (v2_8 : Int32) (v3_9 : Int32) (M10 : hz_M) =>
        hz_lt (v3_9 + (1 : Int32)) fun x11 =>
        f_X7_guestsAt_L4 n v1_7 v2_8 x11 M10
        ) fun k12 =>
      if (M4 13 (Int32.toNatClampNeg v3_3)) = v1_1 then
        hz_lt (v2_2 + (1 : Int32)) fun x14 =>
        k12 v1_1 x14 v3_3 M4
      else
        k12 v1_1 v2_2 v3_3 M4
def f_X7_guestsAt (a1 : Int32) (M : hz_M) : hz_O :=
  f_X7_guestsAt_L4 hz_FU a1 (0 : Int32) (0 : Int32) M
set_option maxRecDepth 100000 in
set_option maxHeartbeats 4000000 in
theorem g_X7_guestsAt_L4 {p : Program} {l : Launch} {e : Env} {s : State} {m : MethodId} {args : Array Value} {below : List Frame} {meth : Method} {c : Code} {w : hz_C} {N : Nat} (hN : 178 ≤ N) {rE : Int32} {ME : hz_M} (hO : hz_Ok p s m args meth c w cX7_guestsAt 4 RX7 (some .int)) : ∀ (n : Nat) (v1_1 : Int32) (v2_2 : Int32) (v3_3 : Int32) (M4 : hz_M), f_X7_guestsAt_L4 n v1_1 v2_2 v3_3 M4 = some (rE, ME) → hz_G p l e 0 hz_z0 s m args below meth c w N 4 (MQ below (hz_Qi w N rE ME) args s 0 0 (hz_A w)) M4 4 [(0, .ref (hz_ad w 11)), (1, .int v1_1), (2, .int v2_2), (3, .int v3_3)] [] := by
  intro n
  induction n with
  | zero =>
    intro v1_1 v2_2 v3_3 M4 h
    rw [f_X7_guestsAt_L4] at h
    cases h
  | succ n ih =>
    intro v1_1 v2_2 v3_3 M4 h
    rw [f_X7_guestsAt_L4] at h
    refine hz_iload_n hO dX7_guestsAt_4 rfl 3 rfl ?_
    refine hz_aload_n hO dX7_guestsAt_5 rfl 0 rfl ?_
    refine hz_getR (k := 0) hO 1 hz_K_7 hz_sh_11 (hz_lt_11 hN) rfl (Nat.le_of_ble_eq_true rfl) tw_1_146 rfl dX7_guestsAt_6 ?_
    refine hz_getI (k := 3) hO hz_K_4 hz_sh_1 (hz_lt_1 hN) rfl (Nat.le_of_ble_eq_true rfl) tw_1_53 rfl dX7_guestsAt_9 ?_
    refine hz_icmp_ge (tgt := 34) hO dX7_guestsAt_12 (by decide) (fun hc5 => ?_) (fun hc5 => ?_)
    · rw [if_pos hc5] at h
      refine hz_iload_n hO dX7_guestsAt_34 rfl 2 rfl ?_
      exact hz_nameM (hz_some_e h).2.symm (hz_name (hz_some_e h).1.symm (hz_iret hO dX7_guestsAt_35))
    · rw [if_neg hc5] at h
      refine hz_aload_n hO dX7_guestsAt_15 rfl 0 rfl ?_
      refine hz_getR (k := 2) hO 13 hz_K_7 hz_sh_11 (hz_lt_11 hN) rfl (Nat.le_of_ble_eq_true rfl) tw_1_150 rfl dX7_guestsAt_16 ?_
      refine hz_iload_n hO dX7_guestsAt_19 rfl 3 rfl ?_
      obtain ⟨hg6, h⟩ := hz_gd_e h
      refine hz_iald hO hz_sh_13 (hz_lt_13 hN) hg6 dX7_guestsAt_20 ?_
      refine hz_iload_n hO dX7_guestsAt_21 rfl 1 rfl ?_
      obtain ⟨k12, hk12, h⟩ := hz_jn_e h
      have gk12 : ∀ (v1_7 : Int32) (v2_8 : Int32) (v3_9 : Int32) (M10 : hz_M), k12 v1_7 v2_8 v3_9 M10 = some (rE, ME) → hz_G p l e 0 hz_z0 s m args below meth c w N 4 (MQ below (hz_Qi w N rE ME) args s 0 0 (hz_A w)) M10 28 [(0, .ref (hz_ad w 11)), (1, .int v1_7), (2, .int v2_8), (3, .int v3_9)] [] := by
        intro v1_7 v2_8 v3_9 M10 h
        rw [hk12] at h
        dsimp only at h
        obtain ⟨x11, h_x11, h⟩ := hz_lt_e h
        refine hz_iinc (k := 3) (v := x11) (ls1 := [(3, .int x11), (0, .ref (hz_ad w 11)), (1, .int v1_7), (2, .int v2_8)]) hO dX7_guestsAt_28 rfl (by rw [h_x11]; rfl) (Nat.le_of_ble_eq_true rfl) rfl ?_
        refine hz_goto (tgt := 4) hO dX7_guestsAt_31 (by decide) ?_
        exact hz_ls [1, 2, 3, 0] rfl (ih v1_7 v2_8 x11 M10 h)
      clear hk12
      refine hz_icmp_ne (tgt := 28) hO dX7_guestsAt_22 (by decide) (fun hc13 => ?_) (fun hc13 => ?_)
      · rw [if_neg hc13] at h
        exact hz_ls [0, 1, 2, 3] rfl (gk12 v1_1 v2_2 v3_3 M4 h)
      · rw [if_pos hc13] at h
        obtain ⟨x14, h_x14, h⟩ := hz_lt_e h
        refine hz_iinc (k := 2) (v := x14) (ls1 := [(2, .int x14), (0, .ref (hz_ad w 11)), (1, .int v1_1), (3, .int v3_3)]) hO dX7_guestsAt_25 rfl (by rw [h_x14]; rfl) (Nat.le_of_ble_eq_true rfl) rfl ?_
        exact hz_ls [1, 2, 0, 3] rfl (gk12 v1_1 x14 v3_3 M4 h)
set_option maxRecDepth 100000 in
set_option maxHeartbeats 4000000 in
theorem c_X7_guestsAt (l : Launch) (w : hz_C) {N : Nat} (hN : 178 ≤ N) (a1 : Int32) {M : hz_M} {rE : Int32} {ME : hz_M} (h : f_X7_guestsAt a1 M = some (rE, ME)) : hz_Ct l yX7_guestsAt cX7_guestsAt 4 (some .int) 0 w N [.ref (hz_ad w 11), .int a1] M (hz_Qi w N rE ME) := by
  refine hz_ofW (by decide) rfl (Nat.le_of_ble_eq_true rfl) tw_3_71 ?_
  intro p e s m args below meth c hO
  show hz_G p l e 0 hz_z0 s m args below meth c w N 4 _ M 0 [(0, .ref (hz_ad w 11)), (1, .int a1)] []
  unfold f_X7_guestsAt at h
  refine hz_iconst (v := (0 : Int32)) hO dX7_guestsAt_0 (by decide) ?_
  refine hz_istore_n (ls1 := [(2, .int (0 : Int32)), (0, .ref (hz_ad w 11)), (1, .int a1)]) hO dX7_guestsAt_1 rfl (Nat.le_of_ble_eq_true rfl) rfl ?_
  refine hz_iconst (v := (0 : Int32)) hO dX7_guestsAt_2 (by decide) ?_
  refine hz_istore_n (ls1 := [(3, .int (0 : Int32)), (2, .int (0 : Int32)), (0, .ref (hz_ad w 11)), (1, .int a1)]) hO dX7_guestsAt_3 rfl (Nat.le_of_ble_eq_true rfl) rfl ?_
  exact hz_ls [2, 3, 1, 0] rfl (g_X7_guestsAt_L4 hN hO _ a1 (0 : Int32) (0 : Int32) M h)
def f_X7_lowestBeside_L2 : Nat → Int32 → Int32 → Int32 → hz_M → hz_O
  | 0, _, _, _, _ => none
  | n + 1, v1_1, v2_2, v3_3, M4 =>
    if (M4 1 3) ≤ v3_3 then
      some ((-1 : Int32), M4)
    else
      hz_jn (fun (v1_6 : Int32) (v2_7 : Int32) (v3_8 : Int32) (M9 : hz_M) =>
        hz_lt (v3_8 + (1 : Int32)) fun x10 =>
        f_X7_lowestBeside_L2 n v1_6 v2_7 x10 M9
        ) fun k11 =>
      if v3_3 = v1_1 then
        k11 v1_1 v2_2 v3_3 M4
      else
        hz_gd (hz_in v3_3 16) <|
        if (M4 13 (Int32.toNatClampNeg v3_3)) = v2_2 then
          some (v3_3, M4)
        else
          k11 v1_1 v2_2 v3_3 M4
def f_X7_lowestBeside (a1 : Int32) (a2 : Int32) (M : hz_M) : hz_O :=
  f_X7_lowestBeside_L2 hz_FU a1 a2 (0 : Int32) M
set_option maxRecDepth 100000 in
set_option maxHeartbeats 4000000 in
theorem g_X7_lowestBeside_L2 {p : Program} {l : Launch} {e : Env} {s : State} {m : MethodId} {args : Array Value} {below : List Frame} {meth : Method} {c : Code} {w : hz_C} {N : Nat} (hN : 178 ≤ N) {rE : Int32} {ME : hz_M} (hO : hz_Ok p s m args meth c w cX7_lowestBeside 4 RX7 (some .int)) : ∀ (n : Nat) (v1_1 : Int32) (v2_2 : Int32) (v3_3 : Int32) (M4 : hz_M), f_X7_lowestBeside_L2 n v1_1 v2_2 v3_3 M4 = some (rE, ME) → hz_G p l e 0 hz_z0 s m args below meth c w N 4 (MQ below (hz_Qi w N rE ME) args s 0 0 (hz_A w)) M4 2 [(0, .ref (hz_ad w 11)), (1, .int v1_1), (2, .int v2_2), (3, .int v3_3)] [] := by
  intro n
  induction n with
  | zero =>
    intro v1_1 v2_2 v3_3 M4 h
    rw [f_X7_lowestBeside_L2] at h
    cases h
  | succ n ih =>
    intro v1_1 v2_2 v3_3 M4 h
    rw [f_X7_lowestBeside_L2] at h
    refine hz_iload_n hO dX7_lowestBeside_2 rfl 3 rfl ?_
    refine hz_aload_n hO dX7_lowestBeside_3 rfl 0 rfl ?_
    refine hz_getR (k := 0) hO 1 hz_K_7 hz_sh_11 (hz_lt_11 hN) rfl (Nat.le_of_ble_eq_true rfl) tw_1_146 rfl dX7_lowestBeside_4 ?_
    refine hz_getI (k := 3) hO hz_K_4 hz_sh_1 (hz_lt_1 hN) rfl (Nat.le_of_ble_eq_true rfl) tw_1_53 rfl dX7_lowestBeside_7 ?_
    refine hz_icmp_ge (tgt := 36) hO dX7_lowestBeside_10 (by decide) (fun hc5 => ?_) (fun hc5 => ?_)
    · rw [if_pos hc5] at h
      refine hz_iconst (v := (-1 : Int32)) hO dX7_lowestBeside_36 (by decide) ?_
      exact hz_nameM (hz_some_e h).2.symm (hz_name (hz_some_e h).1.symm (hz_iret hO dX7_lowestBeside_37))
    · rw [if_neg hc5] at h
      refine hz_iload_n hO dX7_lowestBeside_13 rfl 3 rfl ?_
      refine hz_iload_n hO dX7_lowestBeside_14 rfl 1 rfl ?_
      obtain ⟨k11, hk11, h⟩ := hz_jn_e h
      have gk11 : ∀ (v1_6 : Int32) (v2_7 : Int32) (v3_8 : Int32) (M9 : hz_M), k11 v1_6 v2_7 v3_8 M9 = some (rE, ME) → hz_G p l e 0 hz_z0 s m args below meth c w N 4 (MQ below (hz_Qi w N rE ME) args s 0 0 (hz_A w)) M9 30 [(0, .ref (hz_ad w 11)), (1, .int v1_6), (2, .int v2_7), (3, .int v3_8)] [] := by
        intro v1_6 v2_7 v3_8 M9 h
        rw [hk11] at h
        dsimp only at h
        obtain ⟨x10, h_x10, h⟩ := hz_lt_e h
        refine hz_iinc (k := 3) (v := x10) (ls1 := [(3, .int x10), (0, .ref (hz_ad w 11)), (1, .int v1_6), (2, .int v2_7)]) hO dX7_lowestBeside_30 rfl (by rw [h_x10]; rfl) (Nat.le_of_ble_eq_true rfl) rfl ?_
        refine hz_goto (tgt := 2) hO dX7_lowestBeside_33 (by decide) ?_
        exact hz_ls [1, 2, 3, 0] rfl (ih v1_6 v2_7 x10 M9 h)
      clear hk11
      refine hz_icmp_eq (tgt := 30) hO dX7_lowestBeside_15 (by decide) (fun hc12 => ?_) (fun hc12 => ?_)
      · rw [if_pos hc12] at h
        exact hz_ls [0, 1, 2, 3] rfl (gk11 v1_1 v2_2 v3_3 M4 h)
      · rw [if_neg hc12] at h
        refine hz_aload_n hO dX7_lowestBeside_18 rfl 0 rfl ?_
        refine hz_getR (k := 2) hO 13 hz_K_7 hz_sh_11 (hz_lt_11 hN) rfl (Nat.le_of_ble_eq_true rfl) tw_1_150 rfl dX7_lowestBeside_19 ?_
        refine hz_iload_n hO dX7_lowestBeside_22 rfl 3 rfl ?_
        obtain ⟨hg13, h⟩ := hz_gd_e h
        refine hz_iald hO hz_sh_13 (hz_lt_13 hN) hg13 dX7_lowestBeside_23 ?_
        refine hz_iload_n hO dX7_lowestBeside_24 rfl 2 rfl ?_
        refine hz_icmp_ne (tgt := 30) hO dX7_lowestBeside_25 (by decide) (fun hc14 => ?_) (fun hc14 => ?_)
        · rw [if_neg hc14] at h
          exact hz_ls [0, 1, 2, 3] rfl (gk11 v1_1 v2_2 v3_3 M4 h)
        · rw [if_pos hc14] at h
          refine hz_iload_n hO dX7_lowestBeside_28 rfl 3 rfl ?_
          exact hz_nameM (hz_some_e h).2.symm (hz_name (hz_some_e h).1.symm (hz_iret hO dX7_lowestBeside_29))
set_option maxRecDepth 100000 in
set_option maxHeartbeats 4000000 in
theorem c_X7_lowestBeside (l : Launch) (w : hz_C) {N : Nat} (hN : 178 ≤ N) (a1 : Int32) (a2 : Int32) {M : hz_M} {rE : Int32} {ME : hz_M} (h : f_X7_lowestBeside a1 a2 M = some (rE, ME)) : hz_Ct l yX7_lowestBeside cX7_lowestBeside 4 (some .int) 0 w N [.ref (hz_ad w 11), .int a1, .int a2] M (hz_Qi w N rE ME) := by
  refine hz_ofW (by decide) rfl (Nat.le_of_ble_eq_true rfl) tw_4_125 ?_
  intro p e s m args below meth c hO
  show hz_G p l e 0 hz_z0 s m args below meth c w N 4 _ M 0 [(0, .ref (hz_ad w 11)), (1, .int a1), (2, .int a2)] []
  unfold f_X7_lowestBeside at h
  refine hz_iconst (v := (0 : Int32)) hO dX7_lowestBeside_0 (by decide) ?_
  refine hz_istore_n (ls1 := [(3, .int (0 : Int32)), (0, .ref (hz_ad w 11)), (1, .int a1), (2, .int a2)]) hO dX7_lowestBeside_1 rfl (Nat.le_of_ble_eq_true rfl) rfl ?_
  exact hz_ls [1, 2, 3, 0] rfl (g_X7_lowestBeside_L2 hN hO _ a1 a2 (0 : Int32) M h)
def f_X7_eldestAt_L4 : Nat → Int32 → Int32 → Int32 → hz_M → hz_O
  | 0, _, _, _, _ => none
  | n + 1, v1_1, v2_2, v3_3, M4 =>
    if (M4 1 3) ≤ v3_3 then
      some (v2_2, M4)
    else
      hz_gd (hz_in v3_3 16) <|
      hz_jn (fun (v1_7 : Int32) (v2_8 : Int32) (v3_9 : Int32) (M10 : hz_M) =>
        hz_lt (v3_9 + (1 : Int32)) fun x11 =>
        f_X7_eldestAt_L4 n v1_7 v2_8 x11 M10
        ) fun k12 =>
      if (M4 13 (Int32.toNatClampNeg v3_3)) = v1_1 then
        hz_ct (f_X3_isGuest v2_2 M4) fun r14 M15 =>
        hz_jn (fun (v1_17 : Int32) (v3_18 : Int32) (M19 : hz_M) =>
          k12 v1_17 v3_18 v3_18 M19
          ) fun k20 =>
        if r14 = 0 then
          k20 v1_1 v3_3 M15
        else
          hz_gd (hz_in v3_3 16) <|
          hz_gd (hz_in v2_2 16) <|
          if (M15 2 (Int32.toNatClampNeg v3_3)) ≤ (M15 2 (Int32.toNatClampNeg v2_2)) then
            k12 v1_1 v2_2 v3_3 M15
          else
            k20 v1_1 v3_3 M15
      else
        k12 v1_1 v2_2 v3_3 M4
def f_X7_eldestAt (a1 : Int32) (M : hz_M) : hz_O :=
  f_X7_eldestAt_L4 hz_FU a1 (-1 : Int32) (0 : Int32) M
set_option maxRecDepth 100000 in
set_option maxHeartbeats 4000000 in
theorem g_X7_eldestAt_L4 {p : Program} {l : Launch} {e : Env} {s : State} {m : MethodId} {args : Array Value} {below : List Frame} {meth : Method} {c : Code} {w : hz_C} {N : Nat} (hN : 178 ≤ N) {rE : Int32} {ME : hz_M} (hO : hz_Ok p s m args meth c w cX7_eldestAt 4 RX7 (some .int)) : ∀ (n : Nat) (v1_1 : Int32) (v2_2 : Int32) (v3_3 : Int32) (M4 : hz_M), f_X7_eldestAt_L4 n v1_1 v2_2 v3_3 M4 = some (rE, ME) → hz_G p l e 1 hz_z0 s m args below meth c w N 4 (MQ below (hz_Qi w N rE ME) args s 0 0 (hz_A w)) M4 4 [(0, .ref (hz_ad w 11)), (1, .int v1_1), (2, .int v2_2), (3, .int v3_3)] [] := by
  intro n
  induction n with
  | zero =>
    intro v1_1 v2_2 v3_3 M4 h
    rw [f_X7_eldestAt_L4] at h
    cases h
  | succ n ih =>
    intro v1_1 v2_2 v3_3 M4 h
    rw [f_X7_eldestAt_L4] at h
    refine hz_iload_n hO dX7_eldestAt_4 rfl 3 rfl ?_
    refine hz_aload_n hO dX7_eldestAt_5 rfl 0 rfl ?_
    refine hz_getR (k := 0) hO 1 hz_K_7 hz_sh_11 (hz_lt_11 hN) rfl (Nat.le_of_ble_eq_true rfl) tw_1_146 rfl dX7_eldestAt_6 ?_
    refine hz_getI (k := 3) hO hz_K_4 hz_sh_1 (hz_lt_1 hN) rfl (Nat.le_of_ble_eq_true rfl) tw_1_53 rfl dX7_eldestAt_9 ?_
    refine hz_icmp_ge (tgt := 65) hO dX7_eldestAt_12 (by decide) (fun hc5 => ?_) (fun hc5 => ?_)
    · rw [if_pos hc5] at h
      refine hz_iload_n hO dX7_eldestAt_65 rfl 2 rfl ?_
      exact hz_nameM (hz_some_e h).2.symm (hz_name (hz_some_e h).1.symm (hz_iret hO dX7_eldestAt_66))
    · rw [if_neg hc5] at h
      refine hz_aload_n hO dX7_eldestAt_15 rfl 0 rfl ?_
      refine hz_getR (k := 2) hO 13 hz_K_7 hz_sh_11 (hz_lt_11 hN) rfl (Nat.le_of_ble_eq_true rfl) tw_1_150 rfl dX7_eldestAt_16 ?_
      refine hz_iload_n hO dX7_eldestAt_19 rfl 3 rfl ?_
      obtain ⟨hg6, h⟩ := hz_gd_e h
      refine hz_iald hO hz_sh_13 (hz_lt_13 hN) hg6 dX7_eldestAt_20 ?_
      refine hz_iload_n hO dX7_eldestAt_21 rfl 1 rfl ?_
      obtain ⟨k12, hk12, h⟩ := hz_jn_e h
      have gk12 : ∀ (v1_7 : Int32) (v2_8 : Int32) (v3_9 : Int32) (M10 : hz_M), k12 v1_7 v2_8 v3_9 M10 = some (rE, ME) → hz_G p l e 1 hz_z0 s m args below meth c w N 4 (MQ below (hz_Qi w N rE ME) args s 0 0 (hz_A w)) M10 59 [(0, .ref (hz_ad w 11)), (1, .int v1_7), (2, .int v2_8), (3, .int v3_9)] [] := by
        intro v1_7 v2_8 v3_9 M10 h
        rw [hk12] at h
        dsimp only at h
        obtain ⟨x11, h_x11, h⟩ := hz_lt_e h
        refine hz_iinc (k := 3) (v := x11) (ls1 := [(3, .int x11), (0, .ref (hz_ad w 11)), (1, .int v1_7), (2, .int v2_8)]) hO dX7_eldestAt_59 rfl (by rw [h_x11]; rfl) (Nat.le_of_ble_eq_true rfl) rfl ?_
        refine hz_goto (tgt := 4) hO dX7_eldestAt_62 (by decide) ?_
        exact hz_ls [1, 2, 3, 0] rfl (ih v1_7 v2_8 x11 M10 h)
      clear hk12
      refine hz_icmp_ne (tgt := 59) hO dX7_eldestAt_22 (by decide) (fun hc13 => ?_) (fun hc13 => ?_)
      · rw [if_neg hc13] at h
        exact hz_ls [0, 1, 2, 3] rfl (gk12 v1_1 v2_2 v3_3 M4 h)
      · rw [if_pos hc13] at h
        refine hz_aload_n hO dX7_eldestAt_25 rfl 0 rfl ?_
        refine hz_getR (k := 0) hO 1 hz_K_7 hz_sh_11 (hz_lt_11 hN) rfl (Nat.le_of_ble_eq_true rfl) tw_1_146 rfl dX7_eldestAt_26 ?_
        refine hz_iload_n hO dX7_eldestAt_29 rfl 2 rfl ?_
        obtain ⟨r14, M15, hq16, h⟩ := hz_ct_e h
        refine hz_callVi (as := [.int v2_2]) (rest := []) hO (c_X3_isGuest l w hN v2_2 hq16) hz_cal_X3_isGuest hz_K_4 hz_sh_1 (hz_lt_1 hN) tw_4_203 (Nat.le_of_ble_eq_true rfl) rfl rfl (Nat.le_of_ble_eq_true rfl) dX7_eldestAt_30 ?_
        obtain ⟨k20, hk20, h⟩ := hz_jn_e h
        have gk20 : ∀ (v1_17 : Int32) (v3_18 : Int32) (M19 : hz_M), k20 v1_17 v3_18 M19 = some (rE, ME) → hz_G p l e 1 hz_z0 s m args below meth c w N 4 (MQ below (hz_Qi w N rE ME) args s 0 0 (hz_A w)) M19 57 [(0, .ref (hz_ad w 11)), (1, .int v1_17), (3, .int v3_18)] [] := by
          intro v1_17 v3_18 M19 h
          rw [hk20] at h
          dsimp only at h
          refine hz_iload_n hO dX7_eldestAt_57 rfl 2 rfl ?_
          refine hz_istore_n (ls1 := [(2, .int v3_18), (0, .ref (hz_ad w 11)), (1, .int v1_17), (3, .int v3_18)]) hO dX7_eldestAt_58 rfl (Nat.le_of_ble_eq_true rfl) rfl ?_
          exact hz_ls [1, 2, 0, 3] rfl (gk12 v1_17 v3_18 v3_18 M19 h)
        clear hk20
        refine hz_if_eq (tgt := 57) hO dX7_eldestAt_33 (by decide) (fun hc21 => ?_) (fun hc21 => ?_)
        · rw [if_pos hc21] at h
          exact hz_ls [0, 1, 3] rfl (gk20 v1_1 v3_3 M15 h)
        · rw [if_neg hc21] at h
          refine hz_aload_n hO dX7_eldestAt_36 rfl 0 rfl ?_
          refine hz_getR (k := 0) hO 1 hz_K_7 hz_sh_11 (hz_lt_11 hN) rfl (Nat.le_of_ble_eq_true rfl) tw_1_146 rfl dX7_eldestAt_37 ?_
          refine hz_getR (k := 0) hO 2 hz_K_4 hz_sh_1 (hz_lt_1 hN) rfl (Nat.le_of_ble_eq_true rfl) tw_1_48 rfl dX7_eldestAt_40 ?_
          refine hz_iload_n hO dX7_eldestAt_43 rfl 3 rfl ?_
          obtain ⟨hg22, h⟩ := hz_gd_e h
          refine hz_iald hO hz_sh_2 (hz_lt_2 hN) hg22 dX7_eldestAt_44 ?_
          refine hz_aload_n hO dX7_eldestAt_45 rfl 0 rfl ?_
          refine hz_getR (k := 0) hO 1 hz_K_7 hz_sh_11 (hz_lt_11 hN) rfl (Nat.le_of_ble_eq_true rfl) tw_1_146 rfl dX7_eldestAt_46 ?_
          refine hz_getR (k := 0) hO 2 hz_K_4 hz_sh_1 (hz_lt_1 hN) rfl (Nat.le_of_ble_eq_true rfl) tw_1_48 rfl dX7_eldestAt_49 ?_
          refine hz_iload_n hO dX7_eldestAt_52 rfl 2 rfl ?_
          obtain ⟨hg23, h⟩ := hz_gd_e h
          refine hz_iald hO hz_sh_2 (hz_lt_2 hN) hg23 dX7_eldestAt_53 ?_
          refine hz_icmp_le (tgt := 59) hO dX7_eldestAt_54 (by decide) (fun hc24 => ?_) (fun hc24 => ?_)
          · rw [if_pos hc24] at h
            exact hz_ls [0, 1, 2, 3] rfl (gk12 v1_1 v2_2 v3_3 M15 h)
          · rw [if_neg hc24] at h
            exact hz_ls [0, 1, 3] rfl (gk20 v1_1 v3_3 M15 h)
set_option maxRecDepth 100000 in
set_option maxHeartbeats 4000000 in
theorem c_X7_eldestAt (l : Launch) (w : hz_C) {N : Nat} (hN : 178 ≤ N) (a1 : Int32) {M : hz_M} {rE : Int32} {ME : hz_M} (h : f_X7_eldestAt a1 M = some (rE, ME)) : hz_Ct l yX7_eldestAt cX7_eldestAt 4 (some .int) 1 w N [.ref (hz_ad w 11), .int a1] M (hz_Qi w N rE ME) := by
  refine hz_ofW (by decide) rfl (Nat.le_of_ble_eq_true rfl) tw_4_202 ?_
  intro p e s m args below meth c hO
  show hz_G p l e 1 hz_z0 s m args below meth c w N 4 _ M 0 [(0, .ref (hz_ad w 11)), (1, .int a1)] []
  unfold f_X7_eldestAt at h
  refine hz_iconst (v := (-1 : Int32)) hO dX7_eldestAt_0 (by decide) ?_
  refine hz_istore_n (ls1 := [(2, .int (-1 : Int32)), (0, .ref (hz_ad w 11)), (1, .int a1)]) hO dX7_eldestAt_1 rfl (Nat.le_of_ble_eq_true rfl) rfl ?_
  refine hz_iconst (v := (0 : Int32)) hO dX7_eldestAt_2 (by decide) ?_
  refine hz_istore_n (ls1 := [(3, .int (0 : Int32)), (2, .int (-1 : Int32)), (0, .ref (hz_ad w 11)), (1, .int a1)]) hO dX7_eldestAt_3 rfl (Nat.le_of_ble_eq_true rfl) rfl ?_
  exact hz_ls [2, 3, 1, 0] rfl (g_X7_eldestAt_L4 hN hO _ a1 (-1 : Int32) (0 : Int32) M h)
def f_X7_temperature (a1 : Int32) (M : hz_M) : hz_O :=
  some (((M 11 15) + ((6 : Int32) * a1)), M)
set_option maxRecDepth 100000 in
set_option maxHeartbeats 4000000 in
theorem c_X7_temperature (l : Launch) (w : hz_C) {N : Nat} (hN : 178 ≤ N) (a1 : Int32) {M : hz_M} {rE : Int32} {ME : hz_M} (h : f_X7_temperature a1 M = some (rE, ME)) : hz_Ct l yX7_temperature cX7_temperature 2 (some .int) 0 w N [.ref (hz_ad w 11), .int a1] M (hz_Qi w N rE ME) := by
  refine hz_ofW (by decide) rfl (Nat.le_of_ble_eq_true rfl) tw_4_197 ?_
  intro p e s m args below meth c hO
  show hz_G p l e 0 hz_z0 s m args below meth c w N 2 _ M 0 [(0, .ref (hz_ad w 11)), (1, .int a1)] []
  unfold f_X7_temperature at h
  refine hz_aload_n hO dX7_temperature_0 rfl 0 rfl ?_
  refine hz_getI (k := 15) hO hz_K_7 hz_sh_11 (hz_lt_11 hN) rfl (Nat.le_of_ble_eq_true rfl) tw_1_192 rfl dX7_temperature_1 ?_
  refine hz_bipush (v := (6 : Int32)) hO dX7_temperature_4 (by decide) ?_
  refine hz_iload_n hO dX7_temperature_6 rfl 1 rfl ?_
  refine hz_imul hO dX7_temperature_7 ?_
  refine hz_iadd hO dX7_temperature_8 ?_
  exact hz_nameM (hz_some_e h).2.symm (hz_name (hz_some_e h).1.symm (hz_iret hO dX7_temperature_9))
def f_X7_lockersInUse_L4 : Nat → Int32 → Int32 → hz_M → hz_O
  | 0, _, _, _ => none
  | n + 1, v1_1, v2_2, M3 =>
    if (M3 1 4) ≤ v2_2 then
      some (v1_1, M3)
    else
      hz_gd (hz_in v2_2 12) <|
      hz_jn (fun (v1_6 : Int32) (v2_7 : Int32) (M8 : hz_M) =>
        hz_lt (v2_7 + (1 : Int32)) fun x9 =>
        f_X7_lockersInUse_L4 n v1_6 x9 M8
        ) fun k10 =>
      if (M3 19 (Int32.toNatClampNeg v2_2)) = (-1 : Int32) then
        k10 v1_1 v2_2 M3
      else
        hz_lt (v1_1 + (1 : Int32)) fun x12 =>
        k10 x12 v2_2 M3
def f_X7_lockersInUse (M : hz_M) : hz_O :=
  f_X7_lockersInUse_L4 hz_FU (0 : Int32) (0 : Int32) M
set_option maxRecDepth 100000 in
set_option maxHeartbeats 4000000 in
theorem g_X7_lockersInUse_L4 {p : Program} {l : Launch} {e : Env} {s : State} {m : MethodId} {args : Array Value} {below : List Frame} {meth : Method} {c : Code} {w : hz_C} {N : Nat} (hN : 178 ≤ N) {rE : Int32} {ME : hz_M} (hO : hz_Ok p s m args meth c w cX7_lockersInUse 3 RX7 (some .int)) : ∀ (n : Nat) (v1_1 : Int32) (v2_2 : Int32) (M3 : hz_M), f_X7_lockersInUse_L4 n v1_1 v2_2 M3 = some (rE, ME) → hz_G p l e 0 hz_z0 s m args below meth c w N 3 (MQ below (hz_Qi w N rE ME) args s 0 0 (hz_A w)) M3 4 [(0, .ref (hz_ad w 11)), (1, .int v1_1), (2, .int v2_2)] [] := by
  intro n
  induction n with
  | zero =>
    intro v1_1 v2_2 M3 h
    rw [f_X7_lockersInUse_L4] at h
    cases h
  | succ n ih =>
    intro v1_1 v2_2 M3 h
    rw [f_X7_lockersInUse_L4] at h
    refine hz_iload_n hO dX7_lockersInUse_4 rfl 2 rfl ?_
    refine hz_aload_n hO dX7_lockersInUse_5 rfl 0 rfl ?_
    refine hz_getR (k := 0) hO 1 hz_K_7 hz_sh_11 (hz_lt_11 hN) rfl (Nat.le_of_ble_eq_true rfl) tw_1_146 rfl dX7_lockersInUse_6 ?_
    refine hz_getI (k := 4) hO hz_K_4 hz_sh_1 (hz_lt_1 hN) rfl (Nat.le_of_ble_eq_true rfl) tw_1_57 rfl dX7_lockersInUse_9 ?_
    refine hz_icmp_ge (tgt := 34) hO dX7_lockersInUse_12 (by decide) (fun hc4 => ?_) (fun hc4 => ?_)
    · rw [if_pos hc4] at h
      refine hz_iload_n hO dX7_lockersInUse_34 rfl 1 rfl ?_
      exact hz_nameM (hz_some_e h).2.symm (hz_name (hz_some_e h).1.symm (hz_iret hO dX7_lockersInUse_35))
    · rw [if_neg hc4] at h
      refine hz_aload_n hO dX7_lockersInUse_15 rfl 0 rfl ?_
      refine hz_getR (k := 8) hO 19 hz_K_7 hz_sh_11 (hz_lt_11 hN) rfl (Nat.le_of_ble_eq_true rfl) tw_1_171 rfl dX7_lockersInUse_16 ?_
      refine hz_iload_n hO dX7_lockersInUse_19 rfl 2 rfl ?_
      obtain ⟨hg5, h⟩ := hz_gd_e h
      refine hz_iald hO hz_sh_19 (hz_lt_19 hN) hg5 dX7_lockersInUse_20 ?_
      refine hz_iconst (v := (-1 : Int32)) hO dX7_lockersInUse_21 (by decide) ?_
      obtain ⟨k10, hk10, h⟩ := hz_jn_e h
      have gk10 : ∀ (v1_6 : Int32) (v2_7 : Int32) (M8 : hz_M), k10 v1_6 v2_7 M8 = some (rE, ME) → hz_G p l e 0 hz_z0 s m args below meth c w N 3 (MQ below (hz_Qi w N rE ME) args s 0 0 (hz_A w)) M8 28 [(0, .ref (hz_ad w 11)), (1, .int v1_6), (2, .int v2_7)] [] := by
        intro v1_6 v2_7 M8 h
        rw [hk10] at h
        dsimp only at h
        obtain ⟨x9, h_x9, h⟩ := hz_lt_e h
        refine hz_iinc (k := 2) (v := x9) (ls1 := [(2, .int x9), (0, .ref (hz_ad w 11)), (1, .int v1_6)]) hO dX7_lockersInUse_28 rfl (by rw [h_x9]; rfl) (Nat.le_of_ble_eq_true rfl) rfl ?_
        refine hz_goto (tgt := 4) hO dX7_lockersInUse_31 (by decide) ?_
        exact hz_ls [1, 2, 0] rfl (ih v1_6 x9 M8 h)
      clear hk10
      refine hz_icmp_eq (tgt := 28) hO dX7_lockersInUse_22 (by decide) (fun hc11 => ?_) (fun hc11 => ?_)
      · rw [if_pos hc11] at h
        exact hz_ls [0, 1, 2] rfl (gk10 v1_1 v2_2 M3 h)
      · rw [if_neg hc11] at h
        obtain ⟨x12, h_x12, h⟩ := hz_lt_e h
        refine hz_iinc (k := 1) (v := x12) (ls1 := [(1, .int x12), (0, .ref (hz_ad w 11)), (2, .int v2_2)]) hO dX7_lockersInUse_25 rfl (by rw [h_x12]; rfl) (Nat.le_of_ble_eq_true rfl) rfl ?_
        exact hz_ls [1, 0, 2] rfl (gk10 x12 v2_2 M3 h)
set_option maxRecDepth 100000 in
set_option maxHeartbeats 4000000 in
theorem c_X7_lockersInUse (l : Launch) (w : hz_C) {N : Nat} (hN : 178 ≤ N) {M : hz_M} {rE : Int32} {ME : hz_M} (h : f_X7_lockersInUse M = some (rE, ME)) : hz_Ct l yX7_lockersInUse cX7_lockersInUse 3 (some .int) 0 w N [.ref (hz_ad w 11)] M (hz_Qi w N rE ME) := by
  refine hz_ofW (by decide) rfl (Nat.le_of_ble_eq_true rfl) tw_3_83 ?_
  intro p e s m args below meth c hO
  show hz_G p l e 0 hz_z0 s m args below meth c w N 3 _ M 0 [(0, .ref (hz_ad w 11))] []
  unfold f_X7_lockersInUse at h
  refine hz_iconst (v := (0 : Int32)) hO dX7_lockersInUse_0 (by decide) ?_
  refine hz_istore_n (ls1 := [(1, .int (0 : Int32)), (0, .ref (hz_ad w 11))]) hO dX7_lockersInUse_1 rfl (Nat.le_of_ble_eq_true rfl) rfl ?_
  refine hz_iconst (v := (0 : Int32)) hO dX7_lockersInUse_2 (by decide) ?_
  refine hz_istore_n (ls1 := [(2, .int (0 : Int32)), (1, .int (0 : Int32)), (0, .ref (hz_ad w 11))]) hO dX7_lockersInUse_3 rfl (Nat.le_of_ble_eq_true rfl) rfl ?_
  exact hz_ls [2, 1, 0] rfl (g_X7_lockersInUse_L4 hN hO _ (0 : Int32) (0 : Int32) M h)
def f_X7_freeLocker_L2 : Nat → Int32 → hz_M → hz_O
  | 0, _, _ => none
  | n + 1, v1_1, M2 =>
    if (M2 1 4) ≤ v1_1 then
      some ((-1 : Int32), M2)
    else
      hz_gd (hz_in v1_1 12) <|
      if (M2 19 (Int32.toNatClampNeg v1_1)) = (-1 : Int32) then
        some (v1_1, M2)
      else
        hz_lt (v1_1 + (1 : Int32)) fun x6 =>
        f_X7_freeLocker_L2 n x6 M2
def f_X7_freeLocker (M : hz_M) : hz_O :=
  f_X7_freeLocker_L2 hz_FU (0 : Int32) M
set_option maxRecDepth 100000 in
set_option maxHeartbeats 4000000 in
theorem g_X7_freeLocker_L2 {p : Program} {l : Launch} {e : Env} {s : State} {m : MethodId} {args : Array Value} {below : List Frame} {meth : Method} {c : Code} {w : hz_C} {N : Nat} (hN : 178 ≤ N) {rE : Int32} {ME : hz_M} (hO : hz_Ok p s m args meth c w cX7_freeLocker 2 RX7 (some .int)) : ∀ (n : Nat) (v1_1 : Int32) (M2 : hz_M), f_X7_freeLocker_L2 n v1_1 M2 = some (rE, ME) → hz_G p l e 0 hz_z0 s m args below meth c w N 2 (MQ below (hz_Qi w N rE ME) args s 0 0 (hz_A w)) M2 2 [(0, .ref (hz_ad w 11)), (1, .int v1_1)] [] := by
  intro n
  induction n with
  | zero =>
    intro v1_1 M2 h
    rw [f_X7_freeLocker_L2] at h
    cases h
  | succ n ih =>
    intro v1_1 M2 h
    rw [f_X7_freeLocker_L2] at h
    refine hz_iload_n hO dX7_freeLocker_2 rfl 1 rfl ?_
    refine hz_aload_n hO dX7_freeLocker_3 rfl 0 rfl ?_
    refine hz_getR (k := 0) hO 1 hz_K_7 hz_sh_11 (hz_lt_11 hN) rfl (Nat.le_of_ble_eq_true rfl) tw_1_146 rfl dX7_freeLocker_4 ?_
    refine hz_getI (k := 4) hO hz_K_4 hz_sh_1 (hz_lt_1 hN) rfl (Nat.le_of_ble_eq_true rfl) tw_1_57 rfl dX7_freeLocker_7 ?_
    refine hz_icmp_ge (tgt := 31) hO dX7_freeLocker_10 (by decide) (fun hc3 => ?_) (fun hc3 => ?_)
    · rw [if_pos hc3] at h
      refine hz_iconst (v := (-1 : Int32)) hO dX7_freeLocker_31 (by decide) ?_
      exact hz_nameM (hz_some_e h).2.symm (hz_name (hz_some_e h).1.symm (hz_iret hO dX7_freeLocker_32))
    · rw [if_neg hc3] at h
      refine hz_aload_n hO dX7_freeLocker_13 rfl 0 rfl ?_
      refine hz_getR (k := 8) hO 19 hz_K_7 hz_sh_11 (hz_lt_11 hN) rfl (Nat.le_of_ble_eq_true rfl) tw_1_171 rfl dX7_freeLocker_14 ?_
      refine hz_iload_n hO dX7_freeLocker_17 rfl 1 rfl ?_
      obtain ⟨hg4, h⟩ := hz_gd_e h
      refine hz_iald hO hz_sh_19 (hz_lt_19 hN) hg4 dX7_freeLocker_18 ?_
      refine hz_iconst (v := (-1 : Int32)) hO dX7_freeLocker_19 (by decide) ?_
      refine hz_icmp_ne (tgt := 25) hO dX7_freeLocker_20 (by decide) (fun hc5 => ?_) (fun hc5 => ?_)
      · rw [if_neg hc5] at h
        obtain ⟨x6, h_x6, h⟩ := hz_lt_e h
        refine hz_iinc (k := 1) (v := x6) (ls1 := [(1, .int x6), (0, .ref (hz_ad w 11))]) hO dX7_freeLocker_25 rfl (by rw [h_x6]; rfl) (Nat.le_of_ble_eq_true rfl) rfl ?_
        refine hz_goto (tgt := 2) hO dX7_freeLocker_28 (by decide) ?_
        exact hz_ls [1, 0] rfl (ih x6 M2 h)
      · rw [if_pos hc5] at h
        refine hz_iload_n hO dX7_freeLocker_23 rfl 1 rfl ?_
        exact hz_nameM (hz_some_e h).2.symm (hz_name (hz_some_e h).1.symm (hz_iret hO dX7_freeLocker_24))
set_option maxRecDepth 100000 in
set_option maxHeartbeats 4000000 in
theorem c_X7_freeLocker (l : Launch) (w : hz_C) {N : Nat} (hN : 178 ≤ N) {M : hz_M} {rE : Int32} {ME : hz_M} (h : f_X7_freeLocker M = some (rE, ME)) : hz_Ct l yX7_freeLocker cX7_freeLocker 2 (some .int) 0 w N [.ref (hz_ad w 11)] M (hz_Qi w N rE ME) := by
  refine hz_ofW (by decide) rfl (Nat.le_of_ble_eq_true rfl) tw_4_92 ?_
  intro p e s m args below meth c hO
  show hz_G p l e 0 hz_z0 s m args below meth c w N 2 _ M 0 [(0, .ref (hz_ad w 11))] []
  unfold f_X7_freeLocker at h
  refine hz_iconst (v := (0 : Int32)) hO dX7_freeLocker_0 (by decide) ?_
  refine hz_istore_n (ls1 := [(1, .int (0 : Int32)), (0, .ref (hz_ad w 11))]) hO dX7_freeLocker_1 rfl (Nat.le_of_ble_eq_true rfl) rfl ?_
  exact hz_ls [1, 0] rfl (g_X7_freeLocker_L2 hN hO _ (0 : Int32) M h)
def f_X7_isInBasket (a1 : Int32) (M : hz_M) : hz_O :=
  hz_gd (hz_in a1 16) <|
  if (M 21 (Int32.toNatClampNeg a1)) = (-1 : Int32) then
    hz_gd (hz_in a1 16) <|
    if (M 22 (Int32.toNatClampNeg a1)) = (-1 : Int32) then
      some ((1 : Int32), M)
    else
      some ((0 : Int32), M)
  else
    some ((0 : Int32), M)
set_option maxRecDepth 100000 in
set_option maxHeartbeats 4000000 in
theorem c_X7_isInBasket (l : Launch) (w : hz_C) {N : Nat} (hN : 178 ≤ N) (a1 : Int32) {M : hz_M} {rE : Int32} {ME : hz_M} (h : f_X7_isInBasket a1 M = some (rE, ME)) : hz_Ct l yX7_isInBasket cX7_isInBasket 2 (some .boolean) 0 w N [.ref (hz_ad w 11), .int a1] M (hz_Qi w N rE ME) := by
  refine hz_ofW (by decide) rfl (Nat.le_of_ble_eq_true rfl) tw_3_79 ?_
  intro p e s m args below meth c hO
  show hz_G p l e 0 hz_z0 s m args below meth c w N 2 _ M 0 [(0, .ref (hz_ad w 11)), (1, .int a1)] []
  unfold f_X7_isInBasket at h
  refine hz_aload_n hO dX7_isInBasket_0 rfl 0 rfl ?_
  refine hz_getR (k := 10) hO 21 hz_K_7 hz_sh_11 (hz_lt_11 hN) rfl (Nat.le_of_ble_eq_true rfl) tw_1_177 rfl dX7_isInBasket_1 ?_
  refine hz_iload_n hO dX7_isInBasket_4 rfl 1 rfl ?_
  obtain ⟨hg1, h⟩ := hz_gd_e h
  refine hz_iald hO hz_sh_21 (hz_lt_21 hN) hg1 dX7_isInBasket_5 ?_
  refine hz_iconst (v := (-1 : Int32)) hO dX7_isInBasket_6 (by decide) ?_
  refine hz_icmp_ne (tgt := 24) hO dX7_isInBasket_7 (by decide) (fun hc2 => ?_) (fun hc2 => ?_)
  · rw [if_neg hc2] at h
    refine hz_iconst (v := (0 : Int32)) hO dX7_isInBasket_24 (by decide) ?_
    exact hz_nameM (hz_some_e h).2.symm (hz_name (hz_some_e h).1.symm (hz_zret hO (by rw [← (hz_some_e h).1]; decide) dX7_isInBasket_25))
  · rw [if_pos hc2] at h
    refine hz_aload_n hO dX7_isInBasket_10 rfl 0 rfl ?_
    refine hz_getR (k := 11) hO 22 hz_K_7 hz_sh_11 (hz_lt_11 hN) rfl (Nat.le_of_ble_eq_true rfl) tw_1_179 rfl dX7_isInBasket_11 ?_
    refine hz_iload_n hO dX7_isInBasket_14 rfl 1 rfl ?_
    obtain ⟨hg3, h⟩ := hz_gd_e h
    refine hz_iald hO hz_sh_22 (hz_lt_22 hN) hg3 dX7_isInBasket_15 ?_
    refine hz_iconst (v := (-1 : Int32)) hO dX7_isInBasket_16 (by decide) ?_
    refine hz_icmp_ne (tgt := 24) hO dX7_isInBasket_17 (by decide) (fun hc4 => ?_) (fun hc4 => ?_)
    · rw [if_neg hc4] at h
      refine hz_iconst (v := (0 : Int32)) hO dX7_isInBasket_24 (by decide) ?_
      exact hz_nameM (hz_some_e h).2.symm (hz_name (hz_some_e h).1.symm (hz_zret hO (by rw [← (hz_some_e h).1]; decide) dX7_isInBasket_25))
    · rw [if_pos hc4] at h
      refine hz_iconst (v := (1 : Int32)) hO dX7_isInBasket_20 (by decide) ?_
      refine hz_goto (tgt := 25) hO dX7_isInBasket_21 (by decide) ?_
      exact hz_nameM (hz_some_e h).2.symm (hz_name (hz_some_e h).1.symm (hz_zret hO (by rw [← (hz_some_e h).1]; decide) dX7_isInBasket_25))
def f_X7_towelsInBasket_L4 : Nat → Int32 → Int32 → hz_M → hz_O
  | 0, _, _, _ => none
  | n + 1, v1_1, v2_2, M3 =>
    if (M3 1 6) ≤ v2_2 then
      some (v1_1, M3)
    else
      hz_ct (f_X7_isInBasket v2_2 M3) fun r5 M6 =>
      hz_jn (fun (v1_8 : Int32) (v2_9 : Int32) (M10 : hz_M) =>
        hz_lt (v2_9 + (1 : Int32)) fun x11 =>
        f_X7_towelsInBasket_L4 n v1_8 x11 M10
        ) fun k12 =>
      if r5 = 0 then
        k12 v1_1 v2_2 M6
      else
        hz_lt (v1_1 + (1 : Int32)) fun x14 =>
        k12 x14 v2_2 M6
def f_X7_towelsInBasket (M : hz_M) : hz_O :=
  f_X7_towelsInBasket_L4 hz_FU (0 : Int32) (0 : Int32) M
set_option maxRecDepth 100000 in
set_option maxHeartbeats 4000000 in
theorem g_X7_towelsInBasket_L4 {p : Program} {l : Launch} {e : Env} {s : State} {m : MethodId} {args : Array Value} {below : List Frame} {meth : Method} {c : Code} {w : hz_C} {N : Nat} (hN : 178 ≤ N) {rE : Int32} {ME : hz_M} (hO : hz_Ok p s m args meth c w cX7_towelsInBasket 3 RX7 (some .int)) : ∀ (n : Nat) (v1_1 : Int32) (v2_2 : Int32) (M3 : hz_M), f_X7_towelsInBasket_L4 n v1_1 v2_2 M3 = some (rE, ME) → hz_G p l e 1 hz_z0 s m args below meth c w N 3 (MQ below (hz_Qi w N rE ME) args s 0 0 (hz_A w)) M3 4 [(0, .ref (hz_ad w 11)), (1, .int v1_1), (2, .int v2_2)] [] := by
  intro n
  induction n with
  | zero =>
    intro v1_1 v2_2 M3 h
    rw [f_X7_towelsInBasket_L4] at h
    cases h
  | succ n ih =>
    intro v1_1 v2_2 M3 h
    rw [f_X7_towelsInBasket_L4] at h
    refine hz_iload_n hO dX7_towelsInBasket_4 rfl 2 rfl ?_
    refine hz_aload_n hO dX7_towelsInBasket_5 rfl 0 rfl ?_
    refine hz_getR (k := 0) hO 1 hz_K_7 hz_sh_11 (hz_lt_11 hN) rfl (Nat.le_of_ble_eq_true rfl) tw_1_146 rfl dX7_towelsInBasket_6 ?_
    refine hz_getI (k := 6) hO hz_K_4 hz_sh_1 (hz_lt_1 hN) rfl (Nat.le_of_ble_eq_true rfl) tw_1_62 rfl dX7_towelsInBasket_9 ?_
    refine hz_icmp_ge (tgt := 32) hO dX7_towelsInBasket_12 (by decide) (fun hc4 => ?_) (fun hc4 => ?_)
    · rw [if_pos hc4] at h
      refine hz_iload_n hO dX7_towelsInBasket_32 rfl 1 rfl ?_
      exact hz_nameM (hz_some_e h).2.symm (hz_name (hz_some_e h).1.symm (hz_iret hO dX7_towelsInBasket_33))
    · rw [if_neg hc4] at h
      refine hz_aload_n hO dX7_towelsInBasket_15 rfl 0 rfl ?_
      refine hz_iload_n hO dX7_towelsInBasket_16 rfl 2 rfl ?_
      obtain ⟨r5, M6, hq7, h⟩ := hz_ct_e h
      refine hz_callVi (as := [.int v2_2]) (rest := []) hO (c_X7_isInBasket l w hN v2_2 hq7) hz_cal_X7_isInBasket hz_K_7 hz_sh_11 (hz_lt_11 hN) tw_3_76 (Nat.le_of_ble_eq_true rfl) rfl rfl (Nat.le_of_ble_eq_true rfl) dX7_towelsInBasket_17 ?_
      obtain ⟨k12, hk12, h⟩ := hz_jn_e h
      have gk12 : ∀ (v1_8 : Int32) (v2_9 : Int32) (M10 : hz_M), k12 v1_8 v2_9 M10 = some (rE, ME) → hz_G p l e 1 hz_z0 s m args below meth c w N 3 (MQ below (hz_Qi w N rE ME) args s 0 0 (hz_A w)) M10 26 [(0, .ref (hz_ad w 11)), (1, .int v1_8), (2, .int v2_9)] [] := by
        intro v1_8 v2_9 M10 h
        rw [hk12] at h
        dsimp only at h
        obtain ⟨x11, h_x11, h⟩ := hz_lt_e h
        refine hz_iinc (k := 2) (v := x11) (ls1 := [(2, .int x11), (0, .ref (hz_ad w 11)), (1, .int v1_8)]) hO dX7_towelsInBasket_26 rfl (by rw [h_x11]; rfl) (Nat.le_of_ble_eq_true rfl) rfl ?_
        refine hz_goto (tgt := 4) hO dX7_towelsInBasket_29 (by decide) ?_
        exact hz_ls [1, 2, 0] rfl (ih v1_8 x11 M10 h)
      clear hk12
      refine hz_if_eq (tgt := 26) hO dX7_towelsInBasket_20 (by decide) (fun hc13 => ?_) (fun hc13 => ?_)
      · rw [if_pos hc13] at h
        exact hz_ls [0, 1, 2] rfl (gk12 v1_1 v2_2 M6 h)
      · rw [if_neg hc13] at h
        obtain ⟨x14, h_x14, h⟩ := hz_lt_e h
        refine hz_iinc (k := 1) (v := x14) (ls1 := [(1, .int x14), (0, .ref (hz_ad w 11)), (2, .int v2_2)]) hO dX7_towelsInBasket_23 rfl (by rw [h_x14]; rfl) (Nat.le_of_ble_eq_true rfl) rfl ?_
        exact hz_ls [1, 0, 2] rfl (gk12 x14 v2_2 M6 h)
set_option maxRecDepth 100000 in
set_option maxHeartbeats 4000000 in
theorem c_X7_towelsInBasket (l : Launch) (w : hz_C) {N : Nat} (hN : 178 ≤ N) {M : hz_M} {rE : Int32} {ME : hz_M} (h : f_X7_towelsInBasket M = some (rE, ME)) : hz_Ct l yX7_towelsInBasket cX7_towelsInBasket 3 (some .int) 1 w N [.ref (hz_ad w 11)] M (hz_Qi w N rE ME) := by
  refine hz_ofW (by decide) rfl (Nat.le_of_ble_eq_true rfl) tw_3_75 ?_
  intro p e s m args below meth c hO
  show hz_G p l e 1 hz_z0 s m args below meth c w N 3 _ M 0 [(0, .ref (hz_ad w 11))] []
  unfold f_X7_towelsInBasket at h
  refine hz_iconst (v := (0 : Int32)) hO dX7_towelsInBasket_0 (by decide) ?_
  refine hz_istore_n (ls1 := [(1, .int (0 : Int32)), (0, .ref (hz_ad w 11))]) hO dX7_towelsInBasket_1 rfl (Nat.le_of_ble_eq_true rfl) rfl ?_
  refine hz_iconst (v := (0 : Int32)) hO dX7_towelsInBasket_2 (by decide) ?_
  refine hz_istore_n (ls1 := [(2, .int (0 : Int32)), (1, .int (0 : Int32)), (0, .ref (hz_ad w 11))]) hO dX7_towelsInBasket_3 rfl (Nat.le_of_ble_eq_true rfl) rfl ?_
  exact hz_ls [2, 1, 0] rfl (g_X7_towelsInBasket_L4 hN hO _ (0 : Int32) (0 : Int32) M h)
def f_X7_towelsOnPegs_L4 : Nat → Int32 → Int32 → hz_M → hz_O
  | 0, _, _, _ => none
  | n + 1, v1_1, v2_2, M3 =>
    if (M3 1 5) ≤ v2_2 then
      some (v1_1, M3)
    else
      hz_gd (hz_in v2_2 16) <|
      hz_jn (fun (v1_6 : Int32) (v2_7 : Int32) (M8 : hz_M) =>
        hz_lt (v2_7 + (1 : Int32)) fun x9 =>
        f_X7_towelsOnPegs_L4 n v1_6 x9 M8
        ) fun k10 =>
      if (M3 23 (Int32.toNatClampNeg v2_2)) = (-1 : Int32) then
        k10 v1_1 v2_2 M3
      else
        hz_lt (v1_1 + (1 : Int32)) fun x12 =>
        k10 x12 v2_2 M3
def f_X7_towelsOnPegs (M : hz_M) : hz_O :=
  f_X7_towelsOnPegs_L4 hz_FU (0 : Int32) (0 : Int32) M
set_option maxRecDepth 100000 in
set_option maxHeartbeats 4000000 in
theorem g_X7_towelsOnPegs_L4 {p : Program} {l : Launch} {e : Env} {s : State} {m : MethodId} {args : Array Value} {below : List Frame} {meth : Method} {c : Code} {w : hz_C} {N : Nat} (hN : 178 ≤ N) {rE : Int32} {ME : hz_M} (hO : hz_Ok p s m args meth c w cX7_towelsOnPegs 3 RX7 (some .int)) : ∀ (n : Nat) (v1_1 : Int32) (v2_2 : Int32) (M3 : hz_M), f_X7_towelsOnPegs_L4 n v1_1 v2_2 M3 = some (rE, ME) → hz_G p l e 0 hz_z0 s m args below meth c w N 3 (MQ below (hz_Qi w N rE ME) args s 0 0 (hz_A w)) M3 4 [(0, .ref (hz_ad w 11)), (1, .int v1_1), (2, .int v2_2)] [] := by
  intro n
  induction n with
  | zero =>
    intro v1_1 v2_2 M3 h
    rw [f_X7_towelsOnPegs_L4] at h
    cases h
  | succ n ih =>
    intro v1_1 v2_2 M3 h
    rw [f_X7_towelsOnPegs_L4] at h
    refine hz_iload_n hO dX7_towelsOnPegs_4 rfl 2 rfl ?_
    refine hz_aload_n hO dX7_towelsOnPegs_5 rfl 0 rfl ?_
    refine hz_getR (k := 0) hO 1 hz_K_7 hz_sh_11 (hz_lt_11 hN) rfl (Nat.le_of_ble_eq_true rfl) tw_1_146 rfl dX7_towelsOnPegs_6 ?_
    refine hz_getI (k := 5) hO hz_K_4 hz_sh_1 (hz_lt_1 hN) rfl (Nat.le_of_ble_eq_true rfl) tw_1_60 rfl dX7_towelsOnPegs_9 ?_
    refine hz_icmp_ge (tgt := 34) hO dX7_towelsOnPegs_12 (by decide) (fun hc4 => ?_) (fun hc4 => ?_)
    · rw [if_pos hc4] at h
      refine hz_iload_n hO dX7_towelsOnPegs_34 rfl 1 rfl ?_
      exact hz_nameM (hz_some_e h).2.symm (hz_name (hz_some_e h).1.symm (hz_iret hO dX7_towelsOnPegs_35))
    · rw [if_neg hc4] at h
      refine hz_aload_n hO dX7_towelsOnPegs_15 rfl 0 rfl ?_
      refine hz_getR (k := 12) hO 23 hz_K_7 hz_sh_11 (hz_lt_11 hN) rfl (Nat.le_of_ble_eq_true rfl) tw_1_182 rfl dX7_towelsOnPegs_16 ?_
      refine hz_iload_n hO dX7_towelsOnPegs_19 rfl 2 rfl ?_
      obtain ⟨hg5, h⟩ := hz_gd_e h
      refine hz_iald hO hz_sh_23 (hz_lt_23 hN) hg5 dX7_towelsOnPegs_20 ?_
      refine hz_iconst (v := (-1 : Int32)) hO dX7_towelsOnPegs_21 (by decide) ?_
      obtain ⟨k10, hk10, h⟩ := hz_jn_e h
      have gk10 : ∀ (v1_6 : Int32) (v2_7 : Int32) (M8 : hz_M), k10 v1_6 v2_7 M8 = some (rE, ME) → hz_G p l e 0 hz_z0 s m args below meth c w N 3 (MQ below (hz_Qi w N rE ME) args s 0 0 (hz_A w)) M8 28 [(0, .ref (hz_ad w 11)), (1, .int v1_6), (2, .int v2_7)] [] := by
        intro v1_6 v2_7 M8 h
        rw [hk10] at h
        dsimp only at h
        obtain ⟨x9, h_x9, h⟩ := hz_lt_e h
        refine hz_iinc (k := 2) (v := x9) (ls1 := [(2, .int x9), (0, .ref (hz_ad w 11)), (1, .int v1_6)]) hO dX7_towelsOnPegs_28 rfl (by rw [h_x9]; rfl) (Nat.le_of_ble_eq_true rfl) rfl ?_
        refine hz_goto (tgt := 4) hO dX7_towelsOnPegs_31 (by decide) ?_
        exact hz_ls [1, 2, 0] rfl (ih v1_6 x9 M8 h)
      clear hk10
      refine hz_icmp_eq (tgt := 28) hO dX7_towelsOnPegs_22 (by decide) (fun hc11 => ?_) (fun hc11 => ?_)
      · rw [if_pos hc11] at h
        exact hz_ls [0, 1, 2] rfl (gk10 v1_1 v2_2 M3 h)
      · rw [if_neg hc11] at h
        obtain ⟨x12, h_x12, h⟩ := hz_lt_e h
        refine hz_iinc (k := 1) (v := x12) (ls1 := [(1, .int x12), (0, .ref (hz_ad w 11)), (2, .int v2_2)]) hO dX7_towelsOnPegs_25 rfl (by rw [h_x12]; rfl) (Nat.le_of_ble_eq_true rfl) rfl ?_
        exact hz_ls [1, 0, 2] rfl (gk10 x12 v2_2 M3 h)
set_option maxRecDepth 100000 in
set_option maxHeartbeats 4000000 in
theorem c_X7_towelsOnPegs (l : Launch) (w : hz_C) {N : Nat} (hN : 178 ≤ N) {M : hz_M} {rE : Int32} {ME : hz_M} (h : f_X7_towelsOnPegs M = some (rE, ME)) : hz_Ct l yX7_towelsOnPegs cX7_towelsOnPegs 3 (some .int) 0 w N [.ref (hz_ad w 11)] M (hz_Qi w N rE ME) := by
  refine hz_ofW (by decide) rfl (Nat.le_of_ble_eq_true rfl) tw_5_39 ?_
  intro p e s m args below meth c hO
  show hz_G p l e 0 hz_z0 s m args below meth c w N 3 _ M 0 [(0, .ref (hz_ad w 11))] []
  unfold f_X7_towelsOnPegs at h
  refine hz_iconst (v := (0 : Int32)) hO dX7_towelsOnPegs_0 (by decide) ?_
  refine hz_istore_n (ls1 := [(1, .int (0 : Int32)), (0, .ref (hz_ad w 11))]) hO dX7_towelsOnPegs_1 rfl (Nat.le_of_ble_eq_true rfl) rfl ?_
  refine hz_iconst (v := (0 : Int32)) hO dX7_towelsOnPegs_2 (by decide) ?_
  refine hz_istore_n (ls1 := [(2, .int (0 : Int32)), (1, .int (0 : Int32)), (0, .ref (hz_ad w 11))]) hO dX7_towelsOnPegs_3 rfl (Nat.le_of_ble_eq_true rfl) rfl ?_
  exact hz_ls [2, 1, 0] rfl (g_X7_towelsOnPegs_L4 hN hO _ (0 : Int32) (0 : Int32) M h)
def f_X7_towelsWithGuests_L4 : Nat → Int32 → Int32 → hz_M → hz_O
  | 0, _, _, _ => none
  | n + 1, v1_1, v2_2, M3 =>
    if (M3 1 3) ≤ v2_2 then
      some (v1_1, M3)
    else
      hz_gd (hz_in v2_2 16) <|
      hz_jn (fun (v1_6 : Int32) (v2_7 : Int32) (M8 : hz_M) =>
        hz_lt (v2_7 + (1 : Int32)) fun x9 =>
        f_X7_towelsWithGuests_L4 n v1_6 x9 M8
        ) fun k10 =>
      if (M3 15 (Int32.toNatClampNeg v2_2)) = (-1 : Int32) then
        k10 v1_1 v2_2 M3
      else
        hz_lt (v1_1 + (1 : Int32)) fun x12 =>
        k10 x12 v2_2 M3
def f_X7_towelsWithGuests (M : hz_M) : hz_O :=
  f_X7_towelsWithGuests_L4 hz_FU (0 : Int32) (0 : Int32) M
set_option maxRecDepth 100000 in
set_option maxHeartbeats 4000000 in
theorem g_X7_towelsWithGuests_L4 {p : Program} {l : Launch} {e : Env} {s : State} {m : MethodId} {args : Array Value} {below : List Frame} {meth : Method} {c : Code} {w : hz_C} {N : Nat} (hN : 178 ≤ N) {rE : Int32} {ME : hz_M} (hO : hz_Ok p s m args meth c w cX7_towelsWithGuests 3 RX7 (some .int)) : ∀ (n : Nat) (v1_1 : Int32) (v2_2 : Int32) (M3 : hz_M), f_X7_towelsWithGuests_L4 n v1_1 v2_2 M3 = some (rE, ME) → hz_G p l e 0 hz_z0 s m args below meth c w N 3 (MQ below (hz_Qi w N rE ME) args s 0 0 (hz_A w)) M3 4 [(0, .ref (hz_ad w 11)), (1, .int v1_1), (2, .int v2_2)] [] := by
  intro n
  induction n with
  | zero =>
    intro v1_1 v2_2 M3 h
    rw [f_X7_towelsWithGuests_L4] at h
    cases h
  | succ n ih =>
    intro v1_1 v2_2 M3 h
    rw [f_X7_towelsWithGuests_L4] at h
    refine hz_iload_n hO dX7_towelsWithGuests_4 rfl 2 rfl ?_
    refine hz_aload_n hO dX7_towelsWithGuests_5 rfl 0 rfl ?_
    refine hz_getR (k := 0) hO 1 hz_K_7 hz_sh_11 (hz_lt_11 hN) rfl (Nat.le_of_ble_eq_true rfl) tw_1_146 rfl dX7_towelsWithGuests_6 ?_
    refine hz_getI (k := 3) hO hz_K_4 hz_sh_1 (hz_lt_1 hN) rfl (Nat.le_of_ble_eq_true rfl) tw_1_53 rfl dX7_towelsWithGuests_9 ?_
    refine hz_icmp_ge (tgt := 34) hO dX7_towelsWithGuests_12 (by decide) (fun hc4 => ?_) (fun hc4 => ?_)
    · rw [if_pos hc4] at h
      refine hz_iload_n hO dX7_towelsWithGuests_34 rfl 1 rfl ?_
      exact hz_nameM (hz_some_e h).2.symm (hz_name (hz_some_e h).1.symm (hz_iret hO dX7_towelsWithGuests_35))
    · rw [if_neg hc4] at h
      refine hz_aload_n hO dX7_towelsWithGuests_15 rfl 0 rfl ?_
      refine hz_getR (k := 4) hO 15 hz_K_7 hz_sh_11 (hz_lt_11 hN) rfl (Nat.le_of_ble_eq_true rfl) tw_1_157 rfl dX7_towelsWithGuests_16 ?_
      refine hz_iload_n hO dX7_towelsWithGuests_19 rfl 2 rfl ?_
      obtain ⟨hg5, h⟩ := hz_gd_e h
      refine hz_iald hO hz_sh_15 (hz_lt_15 hN) hg5 dX7_towelsWithGuests_20 ?_
      refine hz_iconst (v := (-1 : Int32)) hO dX7_towelsWithGuests_21 (by decide) ?_
      obtain ⟨k10, hk10, h⟩ := hz_jn_e h
      have gk10 : ∀ (v1_6 : Int32) (v2_7 : Int32) (M8 : hz_M), k10 v1_6 v2_7 M8 = some (rE, ME) → hz_G p l e 0 hz_z0 s m args below meth c w N 3 (MQ below (hz_Qi w N rE ME) args s 0 0 (hz_A w)) M8 28 [(0, .ref (hz_ad w 11)), (1, .int v1_6), (2, .int v2_7)] [] := by
        intro v1_6 v2_7 M8 h
        rw [hk10] at h
        dsimp only at h
        obtain ⟨x9, h_x9, h⟩ := hz_lt_e h
        refine hz_iinc (k := 2) (v := x9) (ls1 := [(2, .int x9), (0, .ref (hz_ad w 11)), (1, .int v1_6)]) hO dX7_towelsWithGuests_28 rfl (by rw [h_x9]; rfl) (Nat.le_of_ble_eq_true rfl) rfl ?_
        refine hz_goto (tgt := 4) hO dX7_towelsWithGuests_31 (by decide) ?_
        exact hz_ls [1, 2, 0] rfl (ih v1_6 x9 M8 h)
      clear hk10
      refine hz_icmp_eq (tgt := 28) hO dX7_towelsWithGuests_22 (by decide) (fun hc11 => ?_) (fun hc11 => ?_)
      · rw [if_pos hc11] at h
        exact hz_ls [0, 1, 2] rfl (gk10 v1_1 v2_2 M3 h)
      · rw [if_neg hc11] at h
        obtain ⟨x12, h_x12, h⟩ := hz_lt_e h
        refine hz_iinc (k := 1) (v := x12) (ls1 := [(1, .int x12), (0, .ref (hz_ad w 11)), (2, .int v2_2)]) hO dX7_towelsWithGuests_25 rfl (by rw [h_x12]; rfl) (Nat.le_of_ble_eq_true rfl) rfl ?_
        exact hz_ls [1, 0, 2] rfl (gk10 x12 v2_2 M3 h)
set_option maxRecDepth 100000 in
set_option maxHeartbeats 4000000 in
theorem c_X7_towelsWithGuests (l : Launch) (w : hz_C) {N : Nat} (hN : 178 ≤ N) {M : hz_M} {rE : Int32} {ME : hz_M} (h : f_X7_towelsWithGuests M = some (rE, ME)) : hz_Ct l yX7_towelsWithGuests cX7_towelsWithGuests 3 (some .int) 0 w N [.ref (hz_ad w 11)] M (hz_Qi w N rE ME) := by
  refine hz_ofW (by decide) rfl (Nat.le_of_ble_eq_true rfl) tw_5_43 ?_
  intro p e s m args below meth c hO
  show hz_G p l e 0 hz_z0 s m args below meth c w N 3 _ M 0 [(0, .ref (hz_ad w 11))] []
  unfold f_X7_towelsWithGuests at h
  refine hz_iconst (v := (0 : Int32)) hO dX7_towelsWithGuests_0 (by decide) ?_
  refine hz_istore_n (ls1 := [(1, .int (0 : Int32)), (0, .ref (hz_ad w 11))]) hO dX7_towelsWithGuests_1 rfl (Nat.le_of_ble_eq_true rfl) rfl ?_
  refine hz_iconst (v := (0 : Int32)) hO dX7_towelsWithGuests_2 (by decide) ?_
  refine hz_istore_n (ls1 := [(2, .int (0 : Int32)), (1, .int (0 : Int32)), (0, .ref (hz_ad w 11))]) hO dX7_towelsWithGuests_3 rfl (Nat.le_of_ble_eq_true rfl) rfl ?_
  exact hz_ls [2, 1, 0] rfl (g_X7_towelsWithGuests_L4 hN hO _ (0 : Int32) (0 : Int32) M h)
def f_X7_pegsUntold_L4 : Nat → Int32 → Int32 → hz_M → hz_O
  | 0, _, _, _ => none
  | n + 1, v1_1, v2_2, M3 =>
    if (M3 1 5) ≤ v2_2 then
      some (v1_1, M3)
    else
      hz_gd (hz_in v2_2 16) <|
      hz_lt ((M3 23 (Int32.toNatClampNeg v2_2))) fun x6 =>
      hz_ct (f_X3_isTowel x6 M3) fun r7 M8 =>
      hz_jn (fun (v1_10 : Int32) (v2_11 : Int32) (M12 : hz_M) =>
        hz_lt (v2_11 + (1 : Int32)) fun x13 =>
        f_X7_pegsUntold_L4 n v1_10 x13 M12
        ) fun k14 =>
      if r7 = 0 then
        k14 v1_1 v2_2 M8
      else
        hz_gd (hz_in x6 16) <|
        if (M8 21 (Int32.toNatClampNeg x6)) = v2_2 then
          k14 v1_1 v2_2 M8
        else
          hz_lt (v1_1 + (1 : Int32)) fun x18 =>
          k14 x18 v2_2 M8
def f_X7_pegsUntold (M : hz_M) : hz_O :=
  f_X7_pegsUntold_L4 hz_FU (0 : Int32) (0 : Int32) M
set_option maxRecDepth 100000 in
set_option maxHeartbeats 4000000 in
theorem g_X7_pegsUntold_L4 {p : Program} {l : Launch} {e : Env} {s : State} {m : MethodId} {args : Array Value} {below : List Frame} {meth : Method} {c : Code} {w : hz_C} {N : Nat} (hN : 178 ≤ N) {rE : Int32} {ME : hz_M} (hO : hz_Ok p s m args meth c w cX7_pegsUntold 4 RX7 (some .int)) : ∀ (n : Nat) (v1_1 : Int32) (v2_2 : Int32) (M3 : hz_M), f_X7_pegsUntold_L4 n v1_1 v2_2 M3 = some (rE, ME) → hz_G p l e 1 hz_z0 s m args below meth c w N 4 (MQ below (hz_Qi w N rE ME) args s 0 0 (hz_A w)) M3 4 [(0, .ref (hz_ad w 11)), (1, .int v1_1), (2, .int v2_2)] [] := by
  intro n
  induction n with
  | zero =>
    intro v1_1 v2_2 M3 h
    rw [f_X7_pegsUntold_L4] at h
    cases h
  | succ n ih =>
    intro v1_1 v2_2 M3 h
    rw [f_X7_pegsUntold_L4] at h
    refine hz_iload_n hO dX7_pegsUntold_4 rfl 2 rfl ?_
    refine hz_aload_n hO dX7_pegsUntold_5 rfl 0 rfl ?_
    refine hz_getR (k := 0) hO 1 hz_K_7 hz_sh_11 (hz_lt_11 hN) rfl (Nat.le_of_ble_eq_true rfl) tw_1_146 rfl dX7_pegsUntold_6 ?_
    refine hz_getI (k := 5) hO hz_K_4 hz_sh_1 (hz_lt_1 hN) rfl (Nat.le_of_ble_eq_true rfl) tw_1_60 rfl dX7_pegsUntold_9 ?_
    refine hz_icmp_ge (tgt := 52) hO dX7_pegsUntold_12 (by decide) (fun hc4 => ?_) (fun hc4 => ?_)
    · rw [if_pos hc4] at h
      refine hz_iload_n hO dX7_pegsUntold_52 rfl 1 rfl ?_
      exact hz_nameM (hz_some_e h).2.symm (hz_name (hz_some_e h).1.symm (hz_iret hO dX7_pegsUntold_53))
    · rw [if_neg hc4] at h
      refine hz_aload_n hO dX7_pegsUntold_15 rfl 0 rfl ?_
      refine hz_getR (k := 12) hO 23 hz_K_7 hz_sh_11 (hz_lt_11 hN) rfl (Nat.le_of_ble_eq_true rfl) tw_1_182 rfl dX7_pegsUntold_16 ?_
      refine hz_iload_n hO dX7_pegsUntold_19 rfl 2 rfl ?_
      obtain ⟨hg5, h⟩ := hz_gd_e h
      refine hz_iald hO hz_sh_23 (hz_lt_23 hN) hg5 dX7_pegsUntold_20 ?_
      obtain ⟨x6, h_x6, h⟩ := hz_lt_e h
      refine hz_name h_x6 ?_
      refine hz_istore_n (ls1 := [(3, .int x6), (0, .ref (hz_ad w 11)), (1, .int v1_1), (2, .int v2_2)]) hO dX7_pegsUntold_21 rfl (Nat.le_of_ble_eq_true rfl) rfl ?_
      refine hz_aload_n hO dX7_pegsUntold_22 rfl 1 rfl ?_
      refine hz_getR (k := 0) hO 1 hz_K_7 hz_sh_11 (hz_lt_11 hN) rfl (Nat.le_of_ble_eq_true rfl) tw_1_146 rfl dX7_pegsUntold_23 ?_
      refine hz_iload_n hO dX7_pegsUntold_26 rfl 0 rfl ?_
      obtain ⟨r7, M8, hq9, h⟩ := hz_ct_e h
      refine hz_callVi (as := [.int x6]) (rest := []) hO (c_X3_isTowel l w hN x6 hq9) hz_cal_X3_isTowel hz_K_4 hz_sh_1 (hz_lt_1 hN) tw_5_51 (Nat.le_of_ble_eq_true rfl) rfl rfl (Nat.le_of_ble_eq_true rfl) dX7_pegsUntold_27 ?_
      obtain ⟨k14, hk14, h⟩ := hz_jn_e h
      have gk14 : ∀ (v1_10 : Int32) (v2_11 : Int32) (M12 : hz_M), k14 v1_10 v2_11 M12 = some (rE, ME) → hz_G p l e 1 hz_z0 s m args below meth c w N 4 (MQ below (hz_Qi w N rE ME) args s 0 0 (hz_A w)) M12 46 [(0, .ref (hz_ad w 11)), (1, .int v1_10), (2, .int v2_11)] [] := by
        intro v1_10 v2_11 M12 h
        rw [hk14] at h
        dsimp only at h
        obtain ⟨x13, h_x13, h⟩ := hz_lt_e h
        refine hz_iinc (k := 2) (v := x13) (ls1 := [(2, .int x13), (0, .ref (hz_ad w 11)), (1, .int v1_10)]) hO dX7_pegsUntold_46 rfl (by rw [h_x13]; rfl) (Nat.le_of_ble_eq_true rfl) rfl ?_
        refine hz_goto (tgt := 4) hO dX7_pegsUntold_49 (by decide) ?_
        exact hz_ls [1, 2, 0] rfl (ih v1_10 x13 M12 h)
      clear hk14
      refine hz_if_eq (tgt := 46) hO dX7_pegsUntold_30 (by decide) (fun hc15 => ?_) (fun hc15 => ?_)
      · rw [if_pos hc15] at h
        exact hz_ls [1, 2, 3] rfl (gk14 v1_1 v2_2 M8 h)
      · rw [if_neg hc15] at h
        refine hz_aload_n hO dX7_pegsUntold_33 rfl 1 rfl ?_
        refine hz_getR (k := 10) hO 21 hz_K_7 hz_sh_11 (hz_lt_11 hN) rfl (Nat.le_of_ble_eq_true rfl) tw_1_177 rfl dX7_pegsUntold_34 ?_
        refine hz_iload_n hO dX7_pegsUntold_37 rfl 0 rfl ?_
        obtain ⟨hg16, h⟩ := hz_gd_e h
        refine hz_iald hO hz_sh_21 (hz_lt_21 hN) hg16 dX7_pegsUntold_38 ?_
        refine hz_iload_n hO dX7_pegsUntold_39 rfl 3 rfl ?_
        refine hz_icmp_eq (tgt := 46) hO dX7_pegsUntold_40 (by decide) (fun hc17 => ?_) (fun hc17 => ?_)
        · rw [if_pos hc17] at h
          exact hz_ls [1, 2, 3] rfl (gk14 v1_1 v2_2 M8 h)
        · rw [if_neg hc17] at h
          obtain ⟨x18, h_x18, h⟩ := hz_lt_e h
          refine hz_iinc (k := 2) (v := x18) (ls1 := [(1, .int x18), (3, .int x6), (0, .ref (hz_ad w 11)), (2, .int v2_2)]) hO dX7_pegsUntold_43 rfl (by rw [h_x18]; rfl) (Nat.le_of_ble_eq_true rfl) rfl ?_
          exact hz_ls [2, 0, 3] rfl (gk14 x18 v2_2 M8 h)
set_option maxRecDepth 100000 in
set_option maxHeartbeats 4000000 in
theorem c_X7_pegsUntold (l : Launch) (w : hz_C) {N : Nat} (hN : 178 ≤ N) {M : hz_M} {rE : Int32} {ME : hz_M} (h : f_X7_pegsUntold M = some (rE, ME)) : hz_Ct l yX7_pegsUntold cX7_pegsUntold 4 (some .int) 1 w N [.ref (hz_ad w 11)] M (hz_Qi w N rE ME) := by
  refine hz_ofW (by decide) rfl (Nat.le_of_ble_eq_true rfl) tw_5_50 ?_
  intro p e s m args below meth c hO
  show hz_G p l e 1 hz_z0 s m args below meth c w N 4 _ M 0 [(0, .ref (hz_ad w 11))] []
  unfold f_X7_pegsUntold at h
  refine hz_iconst (v := (0 : Int32)) hO dX7_pegsUntold_0 (by decide) ?_
  refine hz_istore_n (ls1 := [(1, .int (0 : Int32)), (0, .ref (hz_ad w 11))]) hO dX7_pegsUntold_1 rfl (Nat.le_of_ble_eq_true rfl) rfl ?_
  refine hz_iconst (v := (0 : Int32)) hO dX7_pegsUntold_2 (by decide) ?_
  refine hz_istore_n (ls1 := [(2, .int (0 : Int32)), (1, .int (0 : Int32)), (0, .ref (hz_ad w 11))]) hO dX7_pegsUntold_3 rfl (Nat.le_of_ble_eq_true rfl) rfl ?_
  exact hz_ls [2, 1, 0] rfl (g_X7_pegsUntold_L4 hN hO _ (0 : Int32) (0 : Int32) M h)
def f_X7_allWet_L4 : Nat → Int32 → Int32 → hz_M → hz_O
  | 0, _, _, _ => none
  | n + 1, v1_1, v2_2, M3 =>
    if (M3 1 6) ≤ v2_2 then
      some (v1_1, M3)
    else
      hz_gd (hz_in v2_2 16) <|
      hz_lt ((v1_1 + (M3 20 (Int32.toNatClampNeg v2_2)))) fun x6 =>
      hz_lt (v2_2 + (1 : Int32)) fun x7 =>
      f_X7_allWet_L4 n x6 x7 M3
def f_X7_allWet (M : hz_M) : hz_O :=
  f_X7_allWet_L4 hz_FU (0 : Int32) (0 : Int32) M
set_option maxRecDepth 100000 in
set_option maxHeartbeats 4000000 in
theorem g_X7_allWet_L4 {p : Program} {l : Launch} {e : Env} {s : State} {m : MethodId} {args : Array Value} {below : List Frame} {meth : Method} {c : Code} {w : hz_C} {N : Nat} (hN : 178 ≤ N) {rE : Int32} {ME : hz_M} (hO : hz_Ok p s m args meth c w cX7_allWet 3 RX7 (some .int)) : ∀ (n : Nat) (v1_1 : Int32) (v2_2 : Int32) (M3 : hz_M), f_X7_allWet_L4 n v1_1 v2_2 M3 = some (rE, ME) → hz_G p l e 0 hz_z0 s m args below meth c w N 3 (MQ below (hz_Qi w N rE ME) args s 0 0 (hz_A w)) M3 4 [(0, .ref (hz_ad w 11)), (1, .int v1_1), (2, .int v2_2)] [] := by
  intro n
  induction n with
  | zero =>
    intro v1_1 v2_2 M3 h
    rw [f_X7_allWet_L4] at h
    cases h
  | succ n ih =>
    intro v1_1 v2_2 M3 h
    rw [f_X7_allWet_L4] at h
    refine hz_iload_n hO dX7_allWet_4 rfl 2 rfl ?_
    refine hz_aload_n hO dX7_allWet_5 rfl 0 rfl ?_
    refine hz_getR (k := 0) hO 1 hz_K_7 hz_sh_11 (hz_lt_11 hN) rfl (Nat.le_of_ble_eq_true rfl) tw_1_146 rfl dX7_allWet_6 ?_
    refine hz_getI (k := 6) hO hz_K_4 hz_sh_1 (hz_lt_1 hN) rfl (Nat.le_of_ble_eq_true rfl) tw_1_62 rfl dX7_allWet_9 ?_
    refine hz_icmp_ge (tgt := 30) hO dX7_allWet_12 (by decide) (fun hc4 => ?_) (fun hc4 => ?_)
    · rw [if_pos hc4] at h
      refine hz_iload_n hO dX7_allWet_30 rfl 1 rfl ?_
      exact hz_nameM (hz_some_e h).2.symm (hz_name (hz_some_e h).1.symm (hz_iret hO dX7_allWet_31))
    · rw [if_neg hc4] at h
      refine hz_iload_n hO dX7_allWet_15 rfl 1 rfl ?_
      refine hz_aload_n hO dX7_allWet_16 rfl 0 rfl ?_
      refine hz_getR (k := 9) hO 20 hz_K_7 hz_sh_11 (hz_lt_11 hN) rfl (Nat.le_of_ble_eq_true rfl) tw_1_174 rfl dX7_allWet_17 ?_
      refine hz_iload_n hO dX7_allWet_20 rfl 2 rfl ?_
      obtain ⟨hg5, h⟩ := hz_gd_e h
      refine hz_iald hO hz_sh_20 (hz_lt_20 hN) hg5 dX7_allWet_21 ?_
      refine hz_iadd hO dX7_allWet_22 ?_
      obtain ⟨x6, h_x6, h⟩ := hz_lt_e h
      refine hz_name h_x6 ?_
      refine hz_istore_n (ls1 := [(1, .int x6), (0, .ref (hz_ad w 11)), (2, .int v2_2)]) hO dX7_allWet_23 rfl (Nat.le_of_ble_eq_true rfl) rfl ?_
      obtain ⟨x7, h_x7, h⟩ := hz_lt_e h
      refine hz_iinc (k := 2) (v := x7) (ls1 := [(2, .int x7), (1, .int x6), (0, .ref (hz_ad w 11))]) hO dX7_allWet_24 rfl (by rw [h_x7]; rfl) (Nat.le_of_ble_eq_true rfl) rfl ?_
      refine hz_goto (tgt := 4) hO dX7_allWet_27 (by decide) ?_
      exact hz_ls [2, 1, 0] rfl (ih x6 x7 M3 h)
set_option maxRecDepth 100000 in
set_option maxHeartbeats 4000000 in
theorem c_X7_allWet (l : Launch) (w : hz_C) {N : Nat} (hN : 178 ≤ N) {M : hz_M} {rE : Int32} {ME : hz_M} (h : f_X7_allWet M = some (rE, ME)) : hz_Ct l yX7_allWet cX7_allWet 3 (some .int) 0 w N [.ref (hz_ad w 11)] M (hz_Qi w N rE ME) := by
  refine hz_ofW (by decide) rfl (Nat.le_of_ble_eq_true rfl) tw_5_59 ?_
  intro p e s m args below meth c hO
  show hz_G p l e 0 hz_z0 s m args below meth c w N 3 _ M 0 [(0, .ref (hz_ad w 11))] []
  unfold f_X7_allWet at h
  refine hz_iconst (v := (0 : Int32)) hO dX7_allWet_0 (by decide) ?_
  refine hz_istore_n (ls1 := [(1, .int (0 : Int32)), (0, .ref (hz_ad w 11))]) hO dX7_allWet_1 rfl (Nat.le_of_ble_eq_true rfl) rfl ?_
  refine hz_iconst (v := (0 : Int32)) hO dX7_allWet_2 (by decide) ?_
  refine hz_istore_n (ls1 := [(2, .int (0 : Int32)), (1, .int (0 : Int32)), (0, .ref (hz_ad w 11))]) hO dX7_allWet_3 rfl (Nat.le_of_ble_eq_true rfl) rfl ?_
  exact hz_ls [2, 1, 0] rfl (g_X7_allWet_L4 hN hO _ (0 : Int32) (0 : Int32) M h)
def f_X7_driestOnPegs_L6 : Nat → Int32 → Int32 → Int32 → hz_M → hz_O
  | 0, _, _, _, _ => none
  | n + 1, v1_1, v2_2, v3_3, M4 =>
    if (M4 1 5) ≤ v3_3 then
      some (v1_1, M4)
    else
      hz_gd (hz_in v3_3 16) <|
      hz_lt ((M4 23 (Int32.toNatClampNeg v3_3))) fun x7 =>
      hz_jn (fun (v1_8 : Int32) (v2_9 : Int32) (v3_10 : Int32) (M11 : hz_M) =>
        hz_lt (v3_10 + (1 : Int32)) fun x12 =>
        f_X7_driestOnPegs_L6 n v1_8 v2_9 x12 M11
        ) fun k13 =>
      if x7 < 0 then
        k13 v1_1 v2_2 v3_3 M4
      else
        if (16 : Int32) ≤ x7 then
          k13 v1_1 v2_2 v3_3 M4
        else
          hz_gd (hz_in x7 16) <|
          if v2_2 ≤ (M4 20 (Int32.toNatClampNeg x7)) then
            k13 v1_1 v2_2 v3_3 M4
          else
            hz_gd (hz_in x7 16) <|
            hz_lt ((M4 20 (Int32.toNatClampNeg x7))) fun x19 =>
            k13 x7 x19 v3_3 M4
def f_X7_driestOnPegs (M : hz_M) : hz_O :=
  f_X7_driestOnPegs_L6 hz_FU (-1 : Int32) (3 : Int32) (0 : Int32) M
set_option maxRecDepth 100000 in
set_option maxHeartbeats 4000000 in
theorem g_X7_driestOnPegs_L6 {p : Program} {l : Launch} {e : Env} {s : State} {m : MethodId} {args : Array Value} {below : List Frame} {meth : Method} {c : Code} {w : hz_C} {N : Nat} (hN : 178 ≤ N) {rE : Int32} {ME : hz_M} (hO : hz_Ok p s m args meth c w cX7_driestOnPegs 5 RX7 (some .int)) : ∀ (n : Nat) (v1_1 : Int32) (v2_2 : Int32) (v3_3 : Int32) (M4 : hz_M), f_X7_driestOnPegs_L6 n v1_1 v2_2 v3_3 M4 = some (rE, ME) → hz_G p l e 0 hz_z0 s m args below meth c w N 5 (MQ below (hz_Qi w N rE ME) args s 0 0 (hz_A w)) M4 6 [(0, .ref (hz_ad w 11)), (1, .int v1_1), (2, .int v2_2), (3, .int v3_3)] [] := by
  intro n
  induction n with
  | zero =>
    intro v1_1 v2_2 v3_3 M4 h
    rw [f_X7_driestOnPegs_L6] at h
    cases h
  | succ n ih =>
    intro v1_1 v2_2 v3_3 M4 h
    rw [f_X7_driestOnPegs_L6] at h
    refine hz_iload_n hO dX7_driestOnPegs_6 rfl 3 rfl ?_
    refine hz_aload_n hO dX7_driestOnPegs_7 rfl 0 rfl ?_
    refine hz_getR (k := 0) hO 1 hz_K_7 hz_sh_11 (hz_lt_11 hN) rfl (Nat.le_of_ble_eq_true rfl) tw_1_146 rfl dX7_driestOnPegs_8 ?_
    refine hz_getI (k := 5) hO hz_K_4 hz_sh_1 (hz_lt_1 hN) rfl (Nat.le_of_ble_eq_true rfl) tw_1_60 rfl dX7_driestOnPegs_11 ?_
    refine hz_icmp_ge (tgt := 68) hO dX7_driestOnPegs_14 (by decide) (fun hc5 => ?_) (fun hc5 => ?_)
    · rw [if_pos hc5] at h
      refine hz_iload_n hO dX7_driestOnPegs_68 rfl 1 rfl ?_
      exact hz_nameM (hz_some_e h).2.symm (hz_name (hz_some_e h).1.symm (hz_iret hO dX7_driestOnPegs_69))
    · rw [if_neg hc5] at h
      refine hz_aload_n hO dX7_driestOnPegs_17 rfl 0 rfl ?_
      refine hz_getR (k := 12) hO 23 hz_K_7 hz_sh_11 (hz_lt_11 hN) rfl (Nat.le_of_ble_eq_true rfl) tw_1_182 rfl dX7_driestOnPegs_18 ?_
      refine hz_iload_n hO dX7_driestOnPegs_21 rfl 3 rfl ?_
      obtain ⟨hg6, h⟩ := hz_gd_e h
      refine hz_iald hO hz_sh_23 (hz_lt_23 hN) hg6 dX7_driestOnPegs_22 ?_
      obtain ⟨x7, h_x7, h⟩ := hz_lt_e h
      refine hz_name h_x7 ?_
      refine hz_istore (ls1 := [(4, .int x7), (0, .ref (hz_ad w 11)), (1, .int v1_1), (2, .int v2_2), (3, .int v3_3)]) hO dX7_driestOnPegs_23 (Nat.le_of_ble_eq_true rfl) rfl ?_
      refine hz_iload hO dX7_driestOnPegs_25 0 rfl ?_
      obtain ⟨k13, hk13, h⟩ := hz_jn_e h
      have gk13 : ∀ (v1_8 : Int32) (v2_9 : Int32) (v3_10 : Int32) (M11 : hz_M), k13 v1_8 v2_9 v3_10 M11 = some (rE, ME) → hz_G p l e 0 hz_z0 s m args below meth c w N 5 (MQ below (hz_Qi w N rE ME) args s 0 0 (hz_A w)) M11 62 [(0, .ref (hz_ad w 11)), (1, .int v1_8), (2, .int v2_9), (3, .int v3_10)] [] := by
        intro v1_8 v2_9 v3_10 M11 h
        rw [hk13] at h
        dsimp only at h
        obtain ⟨x12, h_x12, h⟩ := hz_lt_e h
        refine hz_iinc (k := 3) (v := x12) (ls1 := [(3, .int x12), (0, .ref (hz_ad w 11)), (1, .int v1_8), (2, .int v2_9)]) hO dX7_driestOnPegs_62 rfl (by rw [h_x12]; rfl) (Nat.le_of_ble_eq_true rfl) rfl ?_
        refine hz_goto (tgt := 6) hO dX7_driestOnPegs_65 (by decide) ?_
        exact hz_ls [1, 2, 3, 0] rfl (ih v1_8 v2_9 x12 M11 h)
      clear hk13
      refine hz_if_lt (tgt := 62) hO dX7_driestOnPegs_27 (by decide) (fun hc14 => ?_) (fun hc14 => ?_)
      · rw [if_pos hc14] at h
        exact hz_ls [1, 2, 3, 4] rfl (gk13 v1_1 v2_2 v3_3 M4 h)
      · rw [if_neg hc14] at h
        refine hz_iload hO dX7_driestOnPegs_30 0 rfl ?_
        refine hz_aload_n hO dX7_driestOnPegs_32 rfl 1 rfl ?_
        refine hz_getR (k := 9) hO 20 hz_K_7 hz_sh_11 (hz_lt_11 hN) rfl (Nat.le_of_ble_eq_true rfl) tw_1_174 rfl dX7_driestOnPegs_33 ?_
        refine hz_alen (v := (16 : Int32)) hO hz_sh_20 (hz_lt_20 hN) (by decide) dX7_driestOnPegs_36 ?_
        refine hz_icmp_ge (tgt := 62) hO dX7_driestOnPegs_37 (by decide) (fun hc15 => ?_) (fun hc15 => ?_)
        · rw [if_pos hc15] at h
          exact hz_ls [1, 2, 3, 4] rfl (gk13 v1_1 v2_2 v3_3 M4 h)
        · rw [if_neg hc15] at h
          refine hz_aload_n hO dX7_driestOnPegs_40 rfl 1 rfl ?_
          refine hz_getR (k := 9) hO 20 hz_K_7 hz_sh_11 (hz_lt_11 hN) rfl (Nat.le_of_ble_eq_true rfl) tw_1_174 rfl dX7_driestOnPegs_41 ?_
          refine hz_iload hO dX7_driestOnPegs_44 0 rfl ?_
          obtain ⟨hg16, h⟩ := hz_gd_e h
          refine hz_iald hO hz_sh_20 (hz_lt_20 hN) hg16 dX7_driestOnPegs_46 ?_
          refine hz_iload_n hO dX7_driestOnPegs_47 rfl 3 rfl ?_
          refine hz_icmp_ge (tgt := 62) hO dX7_driestOnPegs_48 (by decide) (fun hc17 => ?_) (fun hc17 => ?_)
          · rw [if_pos hc17] at h
            exact hz_ls [1, 2, 3, 4] rfl (gk13 v1_1 v2_2 v3_3 M4 h)
          · rw [if_neg hc17] at h
            refine hz_iload hO dX7_driestOnPegs_51 0 rfl ?_
            refine hz_istore_n (ls1 := [(1, .int x7), (4, .int x7), (0, .ref (hz_ad w 11)), (2, .int v2_2), (3, .int v3_3)]) hO dX7_driestOnPegs_53 rfl (Nat.le_of_ble_eq_true rfl) rfl ?_
            refine hz_aload_n hO dX7_driestOnPegs_54 rfl 2 rfl ?_
            refine hz_getR (k := 9) hO 20 hz_K_7 hz_sh_11 (hz_lt_11 hN) rfl (Nat.le_of_ble_eq_true rfl) tw_1_174 rfl dX7_driestOnPegs_55 ?_
            refine hz_iload hO dX7_driestOnPegs_58 1 rfl ?_
            obtain ⟨hg18, h⟩ := hz_gd_e h
            refine hz_iald hO hz_sh_20 (hz_lt_20 hN) hg18 dX7_driestOnPegs_60 ?_
            obtain ⟨x19, h_x19, h⟩ := hz_lt_e h
            refine hz_name h_x19 ?_
            refine hz_istore_n (ls1 := [(2, .int x19), (1, .int x7), (4, .int x7), (0, .ref (hz_ad w 11)), (3, .int v3_3)]) hO dX7_driestOnPegs_61 rfl (Nat.le_of_ble_eq_true rfl) rfl ?_
            exact hz_ls [3, 1, 0, 4] rfl (gk13 x7 x19 v3_3 M4 h)
set_option maxRecDepth 100000 in
set_option maxHeartbeats 4000000 in
theorem c_X7_driestOnPegs (l : Launch) (w : hz_C) {N : Nat} (hN : 178 ≤ N) {M : hz_M} {rE : Int32} {ME : hz_M} (h : f_X7_driestOnPegs M = some (rE, ME)) : hz_Ct l yX7_driestOnPegs cX7_driestOnPegs 5 (some .int) 0 w N [.ref (hz_ad w 11)] M (hz_Qi w N rE ME) := by
  refine hz_ofW (by decide) rfl (Nat.le_of_ble_eq_true rfl) tw_4_96 ?_
  intro p e s m args below meth c hO
  show hz_G p l e 0 hz_z0 s m args below meth c w N 5 _ M 0 [(0, .ref (hz_ad w 11))] []
  unfold f_X7_driestOnPegs at h
  refine hz_iconst (v := (-1 : Int32)) hO dX7_driestOnPegs_0 (by decide) ?_
  refine hz_istore_n (ls1 := [(1, .int (-1 : Int32)), (0, .ref (hz_ad w 11))]) hO dX7_driestOnPegs_1 rfl (Nat.le_of_ble_eq_true rfl) rfl ?_
  refine hz_iconst (v := (3 : Int32)) hO dX7_driestOnPegs_2 (by decide) ?_
  refine hz_istore_n (ls1 := [(2, .int (3 : Int32)), (1, .int (-1 : Int32)), (0, .ref (hz_ad w 11))]) hO dX7_driestOnPegs_3 rfl (Nat.le_of_ble_eq_true rfl) rfl ?_
  refine hz_iconst (v := (0 : Int32)) hO dX7_driestOnPegs_4 (by decide) ?_
  refine hz_istore_n (ls1 := [(3, .int (0 : Int32)), (2, .int (3 : Int32)), (1, .int (-1 : Int32)), (0, .ref (hz_ad w 11))]) hO dX7_driestOnPegs_5 rfl (Nat.le_of_ble_eq_true rfl) rfl ?_
  exact hz_ls [3, 2, 1, 0] rfl (g_X7_driestOnPegs_L6 hN hO _ (-1 : Int32) (3 : Int32) (0 : Int32) M h)
def f_X7_freePeg_L2 : Nat → Int32 → hz_M → hz_O
  | 0, _, _ => none
  | n + 1, v1_1, M2 =>
    if (M2 1 5) ≤ v1_1 then
      some ((-1 : Int32), M2)
    else
      hz_gd (hz_in v1_1 16) <|
      if (M2 23 (Int32.toNatClampNeg v1_1)) = (-1 : Int32) then
        some (v1_1, M2)
      else
        hz_lt (v1_1 + (1 : Int32)) fun x6 =>
        f_X7_freePeg_L2 n x6 M2
def f_X7_freePeg (M : hz_M) : hz_O :=
  f_X7_freePeg_L2 hz_FU (0 : Int32) M
set_option maxRecDepth 100000 in
set_option maxHeartbeats 4000000 in
theorem g_X7_freePeg_L2 {p : Program} {l : Launch} {e : Env} {s : State} {m : MethodId} {args : Array Value} {below : List Frame} {meth : Method} {c : Code} {w : hz_C} {N : Nat} (hN : 178 ≤ N) {rE : Int32} {ME : hz_M} (hO : hz_Ok p s m args meth c w cX7_freePeg 2 RX7 (some .int)) : ∀ (n : Nat) (v1_1 : Int32) (M2 : hz_M), f_X7_freePeg_L2 n v1_1 M2 = some (rE, ME) → hz_G p l e 0 hz_z0 s m args below meth c w N 2 (MQ below (hz_Qi w N rE ME) args s 0 0 (hz_A w)) M2 2 [(0, .ref (hz_ad w 11)), (1, .int v1_1)] [] := by
  intro n
  induction n with
  | zero =>
    intro v1_1 M2 h
    rw [f_X7_freePeg_L2] at h
    cases h
  | succ n ih =>
    intro v1_1 M2 h
    rw [f_X7_freePeg_L2] at h
    refine hz_iload_n hO dX7_freePeg_2 rfl 1 rfl ?_
    refine hz_aload_n hO dX7_freePeg_3 rfl 0 rfl ?_
    refine hz_getR (k := 0) hO 1 hz_K_7 hz_sh_11 (hz_lt_11 hN) rfl (Nat.le_of_ble_eq_true rfl) tw_1_146 rfl dX7_freePeg_4 ?_
    refine hz_getI (k := 5) hO hz_K_4 hz_sh_1 (hz_lt_1 hN) rfl (Nat.le_of_ble_eq_true rfl) tw_1_60 rfl dX7_freePeg_7 ?_
    refine hz_icmp_ge (tgt := 31) hO dX7_freePeg_10 (by decide) (fun hc3 => ?_) (fun hc3 => ?_)
    · rw [if_pos hc3] at h
      refine hz_iconst (v := (-1 : Int32)) hO dX7_freePeg_31 (by decide) ?_
      exact hz_nameM (hz_some_e h).2.symm (hz_name (hz_some_e h).1.symm (hz_iret hO dX7_freePeg_32))
    · rw [if_neg hc3] at h
      refine hz_aload_n hO dX7_freePeg_13 rfl 0 rfl ?_
      refine hz_getR (k := 12) hO 23 hz_K_7 hz_sh_11 (hz_lt_11 hN) rfl (Nat.le_of_ble_eq_true rfl) tw_1_182 rfl dX7_freePeg_14 ?_
      refine hz_iload_n hO dX7_freePeg_17 rfl 1 rfl ?_
      obtain ⟨hg4, h⟩ := hz_gd_e h
      refine hz_iald hO hz_sh_23 (hz_lt_23 hN) hg4 dX7_freePeg_18 ?_
      refine hz_iconst (v := (-1 : Int32)) hO dX7_freePeg_19 (by decide) ?_
      refine hz_icmp_ne (tgt := 25) hO dX7_freePeg_20 (by decide) (fun hc5 => ?_) (fun hc5 => ?_)
      · rw [if_neg hc5] at h
        obtain ⟨x6, h_x6, h⟩ := hz_lt_e h
        refine hz_iinc (k := 1) (v := x6) (ls1 := [(1, .int x6), (0, .ref (hz_ad w 11))]) hO dX7_freePeg_25 rfl (by rw [h_x6]; rfl) (Nat.le_of_ble_eq_true rfl) rfl ?_
        refine hz_goto (tgt := 2) hO dX7_freePeg_28 (by decide) ?_
        exact hz_ls [1, 0] rfl (ih x6 M2 h)
      · rw [if_pos hc5] at h
        refine hz_iload_n hO dX7_freePeg_23 rfl 1 rfl ?_
        exact hz_nameM (hz_some_e h).2.symm (hz_name (hz_some_e h).1.symm (hz_iret hO dX7_freePeg_24))
set_option maxRecDepth 100000 in
set_option maxHeartbeats 4000000 in
theorem c_X7_freePeg (l : Launch) (w : hz_C) {N : Nat} (hN : 178 ≤ N) {M : hz_M} {rE : Int32} {ME : hz_M} (h : f_X7_freePeg M = some (rE, ME)) : hz_Ct l yX7_freePeg cX7_freePeg 2 (some .int) 0 w N [.ref (hz_ad w 11)] M (hz_Qi w N rE ME) := by
  refine hz_ofW (by decide) rfl (Nat.le_of_ble_eq_true rfl) tw_5_228 ?_
  intro p e s m args below meth c hO
  show hz_G p l e 0 hz_z0 s m args below meth c w N 2 _ M 0 [(0, .ref (hz_ad w 11))] []
  unfold f_X7_freePeg at h
  refine hz_iconst (v := (0 : Int32)) hO dX7_freePeg_0 (by decide) ?_
  refine hz_istore_n (ls1 := [(1, .int (0 : Int32)), (0, .ref (hz_ad w 11))]) hO dX7_freePeg_1 rfl (Nat.le_of_ble_eq_true rfl) rfl ?_
  exact hz_ls [1, 0] rfl (g_X7_freePeg_L2 hN hO _ (0 : Int32) M h)
def f_X7_putOnPeg (a1 : Int32) (a2 : Int32) (M : hz_M) : hz_O :=
  hz_gd (hz_in a2 16) <|
  hz_lm (hz_set M 23 (Int32.toNatClampNeg a2) a1) fun M2 =>
  hz_gd (hz_in a1 16) <|
  hz_lm (hz_set M2 21 (Int32.toNatClampNeg a1) a2) fun M4 =>
  hz_gd (hz_in a1 16) <|
  hz_lm (hz_set M4 22 (Int32.toNatClampNeg a1) (-1 : Int32)) fun M6 =>
  some (0, M6)
set_option maxRecDepth 100000 in
set_option maxHeartbeats 4000000 in
theorem c_X7_putOnPeg (l : Launch) (w : hz_C) {N : Nat} (hN : 178 ≤ N) (a1 : Int32) (a2 : Int32) {M : hz_M} {rE : Int32} {ME : hz_M} (h : f_X7_putOnPeg a1 a2 M = some (rE, ME)) : hz_Ct l yX7_putOnPeg cX7_putOnPeg 3 none 0 w N [.ref (hz_ad w 11), .int a1, .int a2] M (hz_Qv w N ME) := by
  refine hz_ofW (by decide) rfl (Nat.le_of_ble_eq_true rfl) tw_3_27 ?_
  intro p e s m args below meth c hO
  show hz_G p l e 0 hz_z0 s m args below meth c w N 3 _ M 0 [(0, .ref (hz_ad w 11)), (1, .int a1), (2, .int a2)] []
  unfold f_X7_putOnPeg at h
  refine hz_aload_n hO dX7_putOnPeg_0 rfl 0 rfl ?_
  refine hz_getR (k := 12) hO 23 hz_K_7 hz_sh_11 (hz_lt_11 hN) rfl (Nat.le_of_ble_eq_true rfl) tw_1_182 rfl dX7_putOnPeg_1 ?_
  refine hz_iload_n hO dX7_putOnPeg_4 rfl 2 rfl ?_
  refine hz_iload_n hO dX7_putOnPeg_5 rfl 1 rfl ?_
  obtain ⟨hg1, h⟩ := hz_gd_e h
  obtain ⟨M2, h_M2, h⟩ := hz_lm_e h
  refine hz_iast hO hz_sh_23 (hz_lt_23 hN) hg1 dX7_putOnPeg_6 ?_
  refine hz_nameM h_M2 ?_
  refine hz_aload_n hO dX7_putOnPeg_7 rfl 0 rfl ?_
  refine hz_getR (k := 10) hO 21 hz_K_7 hz_sh_11 (hz_lt_11 hN) rfl (Nat.le_of_ble_eq_true rfl) tw_1_177 rfl dX7_putOnPeg_8 ?_
  refine hz_iload_n hO dX7_putOnPeg_11 rfl 1 rfl ?_
  refine hz_iload_n hO dX7_putOnPeg_12 rfl 2 rfl ?_
  obtain ⟨hg3, h⟩ := hz_gd_e h
  obtain ⟨M4, h_M4, h⟩ := hz_lm_e h
  refine hz_iast hO hz_sh_21 (hz_lt_21 hN) hg3 dX7_putOnPeg_13 ?_
  refine hz_nameM h_M4 ?_
  refine hz_aload_n hO dX7_putOnPeg_14 rfl 0 rfl ?_
  refine hz_getR (k := 11) hO 22 hz_K_7 hz_sh_11 (hz_lt_11 hN) rfl (Nat.le_of_ble_eq_true rfl) tw_1_179 rfl dX7_putOnPeg_15 ?_
  refine hz_iload_n hO dX7_putOnPeg_18 rfl 1 rfl ?_
  refine hz_iconst (v := (-1 : Int32)) hO dX7_putOnPeg_19 (by decide) ?_
  obtain ⟨hg5, h⟩ := hz_gd_e h
  obtain ⟨M6, h_M6, h⟩ := hz_lm_e h
  refine hz_iast hO hz_sh_22 (hz_lt_22 hN) hg5 dX7_putOnPeg_20 ?_
  refine hz_nameM h_M6 ?_
  exact hz_nameM (hz_some_e h).2.symm (hz_vret hO dX7_putOnPeg_21)
def f_X7_giveToGuest (a1 : Int32) (a2 : Int32) (M : hz_M) : hz_O :=
  hz_gd (hz_in a1 16) <|
  hz_lt ((M 21 (Int32.toNatClampNeg a1))) fun x2 =>
  hz_ct (f_X3_isPeg x2 M) fun r3 M4 =>
  hz_jn (fun (v1_6 : Int32) (v2_7 : Int32) (M8 : hz_M) =>
    hz_gd (hz_in v1_6 16) <|
    hz_lm (hz_set M8 21 (Int32.toNatClampNeg v1_6) (-1 : Int32)) fun M10 =>
    hz_gd (hz_in v1_6 16) <|
    hz_lm (hz_set M10 22 (Int32.toNatClampNeg v1_6) v2_7) fun M12 =>
    hz_gd (hz_in v2_7 16) <|
    hz_lm (hz_set M12 15 (Int32.toNatClampNeg v2_7) v1_6) fun M14 =>
    some (0, M14)
    ) fun k15 =>
  if r3 = 0 then
    k15 a1 a2 M4
  else
    hz_gd (hz_in x2 16) <|
    hz_lm (hz_set M4 23 (Int32.toNatClampNeg x2) (-1 : Int32)) fun M18 =>
    k15 a1 a2 M18
set_option maxRecDepth 100000 in
set_option maxHeartbeats 4000000 in
theorem c_X7_giveToGuest (l : Launch) (w : hz_C) {N : Nat} (hN : 178 ≤ N) (a1 : Int32) (a2 : Int32) {M : hz_M} {rE : Int32} {ME : hz_M} (h : f_X7_giveToGuest a1 a2 M = some (rE, ME)) : hz_Ct l yX7_giveToGuest cX7_giveToGuest 4 none 1 w N [.ref (hz_ad w 11), .int a1, .int a2] M (hz_Qv w N ME) := by
  refine hz_ofW (by decide) rfl (Nat.le_of_ble_eq_true rfl) tw_5_190 ?_
  intro p e s m args below meth c hO
  show hz_G p l e 1 hz_z0 s m args below meth c w N 4 _ M 0 [(0, .ref (hz_ad w 11)), (1, .int a1), (2, .int a2)] []
  unfold f_X7_giveToGuest at h
  refine hz_aload_n hO dX7_giveToGuest_0 rfl 0 rfl ?_
  refine hz_getR (k := 10) hO 21 hz_K_7 hz_sh_11 (hz_lt_11 hN) rfl (Nat.le_of_ble_eq_true rfl) tw_1_177 rfl dX7_giveToGuest_1 ?_
  refine hz_iload_n hO dX7_giveToGuest_4 rfl 1 rfl ?_
  obtain ⟨hg1, h⟩ := hz_gd_e h
  refine hz_iald hO hz_sh_21 (hz_lt_21 hN) hg1 dX7_giveToGuest_5 ?_
  obtain ⟨x2, h_x2, h⟩ := hz_lt_e h
  refine hz_name h_x2 ?_
  refine hz_istore_n (ls1 := [(3, .int x2), (0, .ref (hz_ad w 11)), (1, .int a1), (2, .int a2)]) hO dX7_giveToGuest_6 rfl (Nat.le_of_ble_eq_true rfl) rfl ?_
  refine hz_aload_n hO dX7_giveToGuest_7 rfl 1 rfl ?_
  refine hz_getR (k := 0) hO 1 hz_K_7 hz_sh_11 (hz_lt_11 hN) rfl (Nat.le_of_ble_eq_true rfl) tw_1_146 rfl dX7_giveToGuest_8 ?_
  refine hz_iload_n hO dX7_giveToGuest_11 rfl 0 rfl ?_
  obtain ⟨r3, M4, hq5, h⟩ := hz_ct_e h
  refine hz_callVi (as := [.int x2]) (rest := []) hO (c_X3_isPeg l w hN x2 hq5) hz_cal_X3_isPeg hz_K_4 hz_sh_1 (hz_lt_1 hN) tw_5_191 (Nat.le_of_ble_eq_true rfl) rfl rfl (Nat.le_of_ble_eq_true rfl) dX7_giveToGuest_12 ?_
  obtain ⟨k15, hk15, h⟩ := hz_jn_e h
  have gk15 : ∀ (v1_6 : Int32) (v2_7 : Int32) (M8 : hz_M), k15 v1_6 v2_7 M8 = some (rE, ME) → hz_G p l e 1 hz_z0 s m args below meth c w N 4 (MQ below (hz_Qv w N ME) args s 0 0 (hz_A w)) M8 25 [(0, .ref (hz_ad w 11)), (1, .int v1_6), (2, .int v2_7)] [] := by
    intro v1_6 v2_7 M8 h
    rw [hk15] at h
    dsimp only at h
    refine hz_aload_n hO dX7_giveToGuest_25 rfl 0 rfl ?_
    refine hz_getR (k := 10) hO 21 hz_K_7 hz_sh_11 (hz_lt_11 hN) rfl (Nat.le_of_ble_eq_true rfl) tw_1_177 rfl dX7_giveToGuest_26 ?_
    refine hz_iload_n hO dX7_giveToGuest_29 rfl 1 rfl ?_
    refine hz_iconst (v := (-1 : Int32)) hO dX7_giveToGuest_30 (by decide) ?_
    obtain ⟨hg9, h⟩ := hz_gd_e h
    obtain ⟨M10, h_M10, h⟩ := hz_lm_e h
    refine hz_iast hO hz_sh_21 (hz_lt_21 hN) hg9 dX7_giveToGuest_31 ?_
    refine hz_nameM h_M10 ?_
    refine hz_aload_n hO dX7_giveToGuest_32 rfl 0 rfl ?_
    refine hz_getR (k := 11) hO 22 hz_K_7 hz_sh_11 (hz_lt_11 hN) rfl (Nat.le_of_ble_eq_true rfl) tw_1_179 rfl dX7_giveToGuest_33 ?_
    refine hz_iload_n hO dX7_giveToGuest_36 rfl 1 rfl ?_
    refine hz_iload_n hO dX7_giveToGuest_37 rfl 2 rfl ?_
    obtain ⟨hg11, h⟩ := hz_gd_e h
    obtain ⟨M12, h_M12, h⟩ := hz_lm_e h
    refine hz_iast hO hz_sh_22 (hz_lt_22 hN) hg11 dX7_giveToGuest_38 ?_
    refine hz_nameM h_M12 ?_
    refine hz_aload_n hO dX7_giveToGuest_39 rfl 0 rfl ?_
    refine hz_getR (k := 4) hO 15 hz_K_7 hz_sh_11 (hz_lt_11 hN) rfl (Nat.le_of_ble_eq_true rfl) tw_1_157 rfl dX7_giveToGuest_40 ?_
    refine hz_iload_n hO dX7_giveToGuest_43 rfl 2 rfl ?_
    refine hz_iload_n hO dX7_giveToGuest_44 rfl 1 rfl ?_
    obtain ⟨hg13, h⟩ := hz_gd_e h
    obtain ⟨M14, h_M14, h⟩ := hz_lm_e h
    refine hz_iast hO hz_sh_15 (hz_lt_15 hN) hg13 dX7_giveToGuest_45 ?_
    refine hz_nameM h_M14 ?_
    exact hz_nameM (hz_some_e h).2.symm (hz_vret hO dX7_giveToGuest_46)
  clear hk15
  refine hz_if_eq (tgt := 25) hO dX7_giveToGuest_15 (by decide) (fun hc16 => ?_) (fun hc16 => ?_)
  · rw [if_pos hc16] at h
    exact hz_ls [1, 2, 3] rfl (gk15 a1 a2 M4 h)
  · rw [if_neg hc16] at h
    refine hz_aload_n hO dX7_giveToGuest_18 rfl 1 rfl ?_
    refine hz_getR (k := 12) hO 23 hz_K_7 hz_sh_11 (hz_lt_11 hN) rfl (Nat.le_of_ble_eq_true rfl) tw_1_182 rfl dX7_giveToGuest_19 ?_
    refine hz_iload_n hO dX7_giveToGuest_22 rfl 0 rfl ?_
    refine hz_iconst (v := (-1 : Int32)) hO dX7_giveToGuest_23 (by decide) ?_
    obtain ⟨hg17, h⟩ := hz_gd_e h
    obtain ⟨M18, h_M18, h⟩ := hz_lm_e h
    refine hz_iast hO hz_sh_23 (hz_lt_23 hN) hg17 dX7_giveToGuest_24 ?_
    refine hz_nameM h_M18 ?_
    exact hz_ls [1, 2, 3] rfl (gk15 a1 a2 M18 h)
def f_X7_day (M : hz_M) : hz_O :=
  some (((M 11 14) / (600 : Int32)), M)
set_option maxRecDepth 100000 in
set_option maxHeartbeats 4000000 in
theorem c_X7_day (l : Launch) (w : hz_C) {N : Nat} (hN : 178 ≤ N) {M : hz_M} {rE : Int32} {ME : hz_M} (h : f_X7_day M = some (rE, ME)) : hz_Ct l yX7_day cX7_day 1 (some .int) 0 w N [.ref (hz_ad w 11)] M (hz_Qi w N rE ME) := by
  refine hz_ofW (by decide) rfl (Nat.le_of_ble_eq_true rfl) tw_4_88 ?_
  intro p e s m args below meth c hO
  show hz_G p l e 0 hz_z0 s m args below meth c w N 1 _ M 0 [(0, .ref (hz_ad w 11))] []
  unfold f_X7_day at h
  refine hz_aload_n hO dX7_day_0 rfl 0 rfl ?_
  refine hz_getI (k := 14) hO hz_K_7 hz_sh_11 (hz_lt_11 hN) rfl (Nat.le_of_ble_eq_true rfl) tw_1_189 rfl dX7_day_1 ?_
  refine hz_sipush (v := (600 : Int32)) hO dX7_day_4 (by decide) ?_
  refine hz_idiv hO dX7_day_7 (by decide) ?_
  exact hz_nameM (hz_some_e h).2.symm (hz_name (hz_some_e h).1.symm (hz_iret hO dX7_day_8))
def f_X7_minutesLeftToday (M : hz_M) : hz_O :=
  some (((600 : Int32) - ((M 11 14) - (M 11 14) / (600 : Int32) * (600 : Int32))), M)
set_option maxRecDepth 100000 in
set_option maxHeartbeats 4000000 in
theorem c_X7_minutesLeftToday (l : Launch) (w : hz_C) {N : Nat} (hN : 178 ≤ N) {M : hz_M} {rE : Int32} {ME : hz_M} (h : f_X7_minutesLeftToday M = some (rE, ME)) : hz_Ct l yX7_minutesLeftToday cX7_minutesLeftToday 1 (some .int) 0 w N [.ref (hz_ad w 11)] M (hz_Qi w N rE ME) := by
  refine hz_ofW (by decide) rfl (Nat.le_of_ble_eq_true rfl) tw_4_121 ?_
  intro p e s m args below meth c hO
  show hz_G p l e 0 hz_z0 s m args below meth c w N 1 _ M 0 [(0, .ref (hz_ad w 11))] []
  unfold f_X7_minutesLeftToday at h
  refine hz_sipush (v := (600 : Int32)) hO dX7_minutesLeftToday_0 (by decide) ?_
  refine hz_aload_n hO dX7_minutesLeftToday_3 rfl 0 rfl ?_
  refine hz_getI (k := 14) hO hz_K_7 hz_sh_11 (hz_lt_11 hN) rfl (Nat.le_of_ble_eq_true rfl) tw_1_189 rfl dX7_minutesLeftToday_4 ?_
  refine hz_sipush (v := (600 : Int32)) hO dX7_minutesLeftToday_7 (by decide) ?_
  refine hz_irem hO dX7_minutesLeftToday_10 (by decide) ?_
  refine hz_isub hO dX7_minutesLeftToday_11 ?_
  exact hz_nameM (hz_some_e h).2.symm (hz_name (hz_some_e h).1.symm (hz_iret hO dX7_minutesLeftToday_12))
def f_X7_isSilence (M : hz_M) : hz_O :=
  if (M 11 16) = (-1 : Int32) then
    some ((0 : Int32), M)
  else
    if ((M 11 16) + (M 11 19)) ≤ (M 11 14) then
      some ((0 : Int32), M)
    else
      some ((1 : Int32), M)
set_option maxRecDepth 100000 in
set_option maxHeartbeats 4000000 in
theorem c_X7_isSilence (l : Launch) (w : hz_C) {N : Nat} (hN : 178 ≤ N) {M : hz_M} {rE : Int32} {ME : hz_M} (h : f_X7_isSilence M = some (rE, ME)) : hz_Ct l yX7_isSilence cX7_isSilence 1 (some .boolean) 0 w N [.ref (hz_ad w 11)] M (hz_Qi w N rE ME) := by
  refine hz_ofW (by decide) rfl (Nat.le_of_ble_eq_true rfl) tw_3_87 ?_
  intro p e s m args below meth c hO
  show hz_G p l e 0 hz_z0 s m args below meth c w N 1 _ M 0 [(0, .ref (hz_ad w 11))] []
  unfold f_X7_isSilence at h
  refine hz_aload_n hO dX7_isSilence_0 rfl 0 rfl ?_
  refine hz_getI (k := 16) hO hz_K_7 hz_sh_11 (hz_lt_11 hN) rfl (Nat.le_of_ble_eq_true rfl) tw_1_194 rfl dX7_isSilence_1 ?_
  refine hz_iconst (v := (-1 : Int32)) hO dX7_isSilence_4 (by decide) ?_
  refine hz_icmp_eq (tgt := 28) hO dX7_isSilence_5 (by decide) (fun hc1 => ?_) (fun hc1 => ?_)
  · rw [if_pos hc1] at h
    refine hz_iconst (v := (0 : Int32)) hO dX7_isSilence_28 (by decide) ?_
    exact hz_nameM (hz_some_e h).2.symm (hz_name (hz_some_e h).1.symm (hz_zret hO (by rw [← (hz_some_e h).1]; decide) dX7_isSilence_29))
  · rw [if_neg hc1] at h
    refine hz_aload_n hO dX7_isSilence_8 rfl 0 rfl ?_
    refine hz_getI (k := 14) hO hz_K_7 hz_sh_11 (hz_lt_11 hN) rfl (Nat.le_of_ble_eq_true rfl) tw_1_189 rfl dX7_isSilence_9 ?_
    refine hz_aload_n hO dX7_isSilence_12 rfl 0 rfl ?_
    refine hz_getI (k := 16) hO hz_K_7 hz_sh_11 (hz_lt_11 hN) rfl (Nat.le_of_ble_eq_true rfl) tw_1_194 rfl dX7_isSilence_13 ?_
    refine hz_aload_n hO dX7_isSilence_16 rfl 0 rfl ?_
    refine hz_getI (k := 19) hO hz_K_7 hz_sh_11 (hz_lt_11 hN) rfl (Nat.le_of_ble_eq_true rfl) tw_1_200 rfl dX7_isSilence_17 ?_
    refine hz_iadd hO dX7_isSilence_20 ?_
    refine hz_icmp_ge (tgt := 28) hO dX7_isSilence_21 (by decide) (fun hc2 => ?_) (fun hc2 => ?_)
    · rw [if_pos hc2] at h
      refine hz_iconst (v := (0 : Int32)) hO dX7_isSilence_28 (by decide) ?_
      exact hz_nameM (hz_some_e h).2.symm (hz_name (hz_some_e h).1.symm (hz_zret hO (by rw [← (hz_some_e h).1]; decide) dX7_isSilence_29))
    · rw [if_neg hc2] at h
      refine hz_iconst (v := (1 : Int32)) hO dX7_isSilence_24 (by decide) ?_
      refine hz_goto (tgt := 29) hO dX7_isSilence_25 (by decide) ?_
      exact hz_nameM (hz_some_e h).2.symm (hz_name (hz_some_e h).1.symm (hz_zret hO (by rw [← (hz_some_e h).1]; decide) dX7_isSilence_29))
def f_X7_minutesToGong (M : hz_M) : hz_O :=
  if (M 11 18) ≤ 0 then
    some ((-1 : Int32), M)
  else
    hz_gd (hz_nz (M 11 18)) <|
    some (((M 11 18) - ((M 11 14) - (M 11 14) / (M 11 18) * (M 11 18))), M)
set_option maxRecDepth 100000 in
set_option maxHeartbeats 4000000 in
theorem c_X7_minutesToGong (l : Launch) (w : hz_C) {N : Nat} (hN : 178 ≤ N) {M : hz_M} {rE : Int32} {ME : hz_M} (h : f_X7_minutesToGong M = some (rE, ME)) : hz_Ct l yX7_minutesToGong cX7_minutesToGong 1 (some .int) 0 w N [.ref (hz_ad w 11)] M (hz_Qi w N rE ME) := by
  refine hz_ofW (by decide) rfl (Nat.le_of_ble_eq_true rfl) tw_5_129 ?_
  intro p e s m args below meth c hO
  show hz_G p l e 0 hz_z0 s m args below meth c w N 1 _ M 0 [(0, .ref (hz_ad w 11))] []
  unfold f_X7_minutesToGong at h
  refine hz_aload_n hO dX7_minutesToGong_0 rfl 0 rfl ?_
  refine hz_getI (k := 18) hO hz_K_7 hz_sh_11 (hz_lt_11 hN) rfl (Nat.le_of_ble_eq_true rfl) tw_1_198 rfl dX7_minutesToGong_1 ?_
  refine hz_if_le (tgt := 24) hO dX7_minutesToGong_4 (by decide) (fun hc1 => ?_) (fun hc1 => ?_)
  · rw [if_pos hc1] at h
    refine hz_iconst (v := (-1 : Int32)) hO dX7_minutesToGong_24 (by decide) ?_
    exact hz_nameM (hz_some_e h).2.symm (hz_name (hz_some_e h).1.symm (hz_iret hO dX7_minutesToGong_25))
  · rw [if_neg hc1] at h
    refine hz_aload_n hO dX7_minutesToGong_7 rfl 0 rfl ?_
    refine hz_getI (k := 18) hO hz_K_7 hz_sh_11 (hz_lt_11 hN) rfl (Nat.le_of_ble_eq_true rfl) tw_1_198 rfl dX7_minutesToGong_8 ?_
    refine hz_aload_n hO dX7_minutesToGong_11 rfl 0 rfl ?_
    refine hz_getI (k := 14) hO hz_K_7 hz_sh_11 (hz_lt_11 hN) rfl (Nat.le_of_ble_eq_true rfl) tw_1_189 rfl dX7_minutesToGong_12 ?_
    refine hz_aload_n hO dX7_minutesToGong_15 rfl 0 rfl ?_
    refine hz_getI (k := 18) hO hz_K_7 hz_sh_11 (hz_lt_11 hN) rfl (Nat.le_of_ble_eq_true rfl) tw_1_198 rfl dX7_minutesToGong_16 ?_
    obtain ⟨hg2, h⟩ := hz_gd_e h
    refine hz_irem hO dX7_minutesToGong_19 (hz_nz_e hg2) ?_
    refine hz_isub hO dX7_minutesToGong_20 ?_
    refine hz_goto (tgt := 25) hO dX7_minutesToGong_21 (by decide) ?_
    exact hz_nameM (hz_some_e h).2.symm (hz_name (hz_some_e h).1.symm (hz_iret hO dX7_minutesToGong_25))
def f_X7_steam_L4 : Nat → Int32 → Int32 → hz_M → hz_O
  | 0, _, _, _ => none
  | n + 1, v1_1, v2_2, M3 =>
    if (M3 1 7) ≤ v2_2 then
      some (v1_1, M3)
    else
      hz_gd (hz_in v2_2 4) <|
      hz_lt ((v1_1 + (M3 12 (Int32.toNatClampNeg v2_2)))) fun x6 =>
      hz_lt (v2_2 + (1 : Int32)) fun x7 =>
      f_X7_steam_L4 n x6 x7 M3
def f_X7_steam (M : hz_M) : hz_O :=
  f_X7_steam_L4 hz_FU (0 : Int32) (0 : Int32) M
set_option maxRecDepth 100000 in
set_option maxHeartbeats 4000000 in
theorem g_X7_steam_L4 {p : Program} {l : Launch} {e : Env} {s : State} {m : MethodId} {args : Array Value} {below : List Frame} {meth : Method} {c : Code} {w : hz_C} {N : Nat} (hN : 178 ≤ N) {rE : Int32} {ME : hz_M} (hO : hz_Ok p s m args meth c w cX7_steam 3 RX7 (some .int)) : ∀ (n : Nat) (v1_1 : Int32) (v2_2 : Int32) (M3 : hz_M), f_X7_steam_L4 n v1_1 v2_2 M3 = some (rE, ME) → hz_G p l e 0 hz_z0 s m args below meth c w N 3 (MQ below (hz_Qi w N rE ME) args s 0 0 (hz_A w)) M3 4 [(0, .ref (hz_ad w 11)), (1, .int v1_1), (2, .int v2_2)] [] := by
  intro n
  induction n with
  | zero =>
    intro v1_1 v2_2 M3 h
    rw [f_X7_steam_L4] at h
    cases h
  | succ n ih =>
    intro v1_1 v2_2 M3 h
    rw [f_X7_steam_L4] at h
    refine hz_iload_n hO dX7_steam_4 rfl 2 rfl ?_
    refine hz_aload_n hO dX7_steam_5 rfl 0 rfl ?_
    refine hz_getR (k := 0) hO 1 hz_K_7 hz_sh_11 (hz_lt_11 hN) rfl (Nat.le_of_ble_eq_true rfl) tw_1_146 rfl dX7_steam_6 ?_
    refine hz_getI (k := 7) hO hz_K_4 hz_sh_1 (hz_lt_1 hN) rfl (Nat.le_of_ble_eq_true rfl) tw_1_67 rfl dX7_steam_9 ?_
    refine hz_icmp_ge (tgt := 30) hO dX7_steam_12 (by decide) (fun hc4 => ?_) (fun hc4 => ?_)
    · rw [if_pos hc4] at h
      refine hz_iload_n hO dX7_steam_30 rfl 1 rfl ?_
      exact hz_nameM (hz_some_e h).2.symm (hz_name (hz_some_e h).1.symm (hz_iret hO dX7_steam_31))
    · rw [if_neg hc4] at h
      refine hz_iload_n hO dX7_steam_15 rfl 1 rfl ?_
      refine hz_aload_n hO dX7_steam_16 rfl 0 rfl ?_
      refine hz_getR (k := 1) hO 12 hz_K_7 hz_sh_11 (hz_lt_11 hN) rfl (Nat.le_of_ble_eq_true rfl) tw_1_147 rfl dX7_steam_17 ?_
      refine hz_iload_n hO dX7_steam_20 rfl 2 rfl ?_
      obtain ⟨hg5, h⟩ := hz_gd_e h
      refine hz_iald hO hz_sh_12 (hz_lt_12 hN) hg5 dX7_steam_21 ?_
      refine hz_iadd hO dX7_steam_22 ?_
      obtain ⟨x6, h_x6, h⟩ := hz_lt_e h
      refine hz_name h_x6 ?_
      refine hz_istore_n (ls1 := [(1, .int x6), (0, .ref (hz_ad w 11)), (2, .int v2_2)]) hO dX7_steam_23 rfl (Nat.le_of_ble_eq_true rfl) rfl ?_
      obtain ⟨x7, h_x7, h⟩ := hz_lt_e h
      refine hz_iinc (k := 2) (v := x7) (ls1 := [(2, .int x7), (1, .int x6), (0, .ref (hz_ad w 11))]) hO dX7_steam_24 rfl (by rw [h_x7]; rfl) (Nat.le_of_ble_eq_true rfl) rfl ?_
      refine hz_goto (tgt := 4) hO dX7_steam_27 (by decide) ?_
      exact hz_ls [2, 1, 0] rfl (ih x6 x7 M3 h)
set_option maxRecDepth 100000 in
set_option maxHeartbeats 4000000 in
theorem c_X7_steam (l : Launch) (w : hz_C) {N : Nat} (hN : 178 ≤ N) {M : hz_M} {rE : Int32} {ME : hz_M} (h : f_X7_steam M = some (rE, ME)) : hz_Ct l yX7_steam cX7_steam 3 (some .int) 0 w N [.ref (hz_ad w 11)] M (hz_Qi w N rE ME) := by
  refine hz_ofW (by decide) rfl (Nat.le_of_ble_eq_true rfl) tw_5_90 ?_
  intro p e s m args below meth c hO
  show hz_G p l e 0 hz_z0 s m args below meth c w N 3 _ M 0 [(0, .ref (hz_ad w 11))] []
  unfold f_X7_steam at h
  refine hz_iconst (v := (0 : Int32)) hO dX7_steam_0 (by decide) ?_
  refine hz_istore_n (ls1 := [(1, .int (0 : Int32)), (0, .ref (hz_ad w 11))]) hO dX7_steam_1 rfl (Nat.le_of_ble_eq_true rfl) rfl ?_
  refine hz_iconst (v := (0 : Int32)) hO dX7_steam_2 (by decide) ?_
  refine hz_istore_n (ls1 := [(2, .int (0 : Int32)), (1, .int (0 : Int32)), (0, .ref (hz_ad w 11))]) hO dX7_steam_3 rfl (Nat.le_of_ble_eq_true rfl) rfl ?_
  exact hz_ls [2, 1, 0] rfl (g_X7_steam_L4 hN hO _ (0 : Int32) (0 : Int32) M h)
def f_X7_heatBehind (a0 : Int32) (a1 : Int32) (M : hz_M) : hz_O :=
  hz_lt (((a0 + a1) - ((3 : Int32) + (a0 / (20 : Int32))))) fun x1 =>
  some ((if (0 : Int32) < (if x1 < (100 : Int32) then x1 else (100 : Int32)) then (if x1 < (100 : Int32) then x1 else (100 : Int32)) else (0 : Int32)), M)
set_option maxRecDepth 100000 in
set_option maxHeartbeats 4000000 in
theorem c_X7_heatBehind (l : Launch) (w : hz_C) {N : Nat} (hN : 178 ≤ N) (a0 : Int32) (a1 : Int32) {M : hz_M} {rE : Int32} {ME : hz_M} (h : f_X7_heatBehind a0 a1 M = some (rE, ME)) : hz_Ct l yX7_heatBehind cX7_heatBehind 3 (some .int) 1 w N [.int a0, .int a1] M (hz_Qi w N rE ME) := by
  refine hz_ofW (by decide) rfl (Nat.le_of_ble_eq_true rfl) tw_5_93 ?_
  intro p e s m args below meth c hO
  show hz_G p l e 1 hz_z0 s m args below meth c w N 3 _ M 0 [(0, .int a0), (1, .int a1)] []
  unfold f_X7_heatBehind at h
  refine hz_iload_n hO dX7_heatBehind_0 rfl 0 rfl ?_
  refine hz_iload_n hO dX7_heatBehind_1 rfl 1 rfl ?_
  refine hz_iadd hO dX7_heatBehind_2 ?_
  refine hz_iconst (v := (3 : Int32)) hO dX7_heatBehind_3 (by decide) ?_
  refine hz_iload_n hO dX7_heatBehind_4 rfl 0 rfl ?_
  refine hz_bipush (v := (20 : Int32)) hO dX7_heatBehind_5 (by decide) ?_
  refine hz_idiv hO dX7_heatBehind_7 (by decide) ?_
  refine hz_iadd hO dX7_heatBehind_8 ?_
  refine hz_isub hO dX7_heatBehind_9 ?_
  obtain ⟨x1, h_x1, h⟩ := hz_lt_e h
  refine hz_name h_x1 ?_
  refine hz_istore_n (ls1 := [(2, .int x1), (0, .int a0), (1, .int a1)]) hO dX7_heatBehind_10 rfl (Nat.le_of_ble_eq_true rfl) rfl ?_
  refine hz_iconst (v := (0 : Int32)) hO dX7_heatBehind_11 (by decide) ?_
  refine hz_bipush (v := (100 : Int32)) hO dX7_heatBehind_12 (by decide) ?_
  refine hz_iload_n hO dX7_heatBehind_14 rfl 0 rfl ?_
  refine hz_mmin hO tw_3_168 (Nat.le_of_ble_eq_true rfl) (Nat.le_of_ble_eq_true rfl) dX7_heatBehind_15 ?_
  refine hz_mmax hO tw_5_94 (Nat.le_of_ble_eq_true rfl) (Nat.le_of_ble_eq_true rfl) dX7_heatBehind_18 ?_
  exact hz_nameM (hz_some_e h).2.symm (hz_name (hz_some_e h).1.symm (hz_iret hO dX7_heatBehind_21))
def f_X7_wetOnPegBehind (a0 : Int32) (a1 : Int32) (M : hz_M) : hz_O :=
  if (60 : Int32) ≤ a1 then
    some (a0, M)
  else
    some ((if (0 : Int32) < (a0 - (1 : Int32)) then (a0 - (1 : Int32)) else (0 : Int32)), M)
set_option maxRecDepth 100000 in
set_option maxHeartbeats 4000000 in
theorem c_X7_wetOnPegBehind (l : Launch) (w : hz_C) {N : Nat} (hN : 178 ≤ N) (a0 : Int32) (a1 : Int32) {M : hz_M} {rE : Int32} {ME : hz_M} (h : f_X7_wetOnPegBehind a0 a1 M = some (rE, ME)) : hz_Ct l yX7_wetOnPegBehind cX7_wetOnPegBehind 2 (some .int) 1 w N [.int a0, .int a1] M (hz_Qi w N rE ME) := by
  refine hz_ofW (by decide) rfl (Nat.le_of_ble_eq_true rfl) tw_5_121 ?_
  intro p e s m args below meth c hO
  show hz_G p l e 1 hz_z0 s m args below meth c w N 2 _ M 0 [(0, .int a0), (1, .int a1)] []
  unfold f_X7_wetOnPegBehind at h
  refine hz_iload_n hO dX7_wetOnPegBehind_0 rfl 1 rfl ?_
  refine hz_bipush (v := (60 : Int32)) hO dX7_wetOnPegBehind_1 (by decide) ?_
  refine hz_icmp_ge (tgt := 16) hO dX7_wetOnPegBehind_3 (by decide) (fun hc1 => ?_) (fun hc1 => ?_)
  · rw [if_pos hc1] at h
    refine hz_iload_n hO dX7_wetOnPegBehind_16 rfl 0 rfl ?_
    exact hz_nameM (hz_some_e h).2.symm (hz_name (hz_some_e h).1.symm (hz_iret hO dX7_wetOnPegBehind_17))
  · rw [if_neg hc1] at h
    refine hz_iconst (v := (0 : Int32)) hO dX7_wetOnPegBehind_6 (by decide) ?_
    refine hz_iload_n hO dX7_wetOnPegBehind_7 rfl 0 rfl ?_
    refine hz_iconst (v := (1 : Int32)) hO dX7_wetOnPegBehind_8 (by decide) ?_
    refine hz_isub hO dX7_wetOnPegBehind_9 ?_
    refine hz_mmax hO tw_5_94 (Nat.le_of_ble_eq_true rfl) (Nat.le_of_ble_eq_true rfl) dX7_wetOnPegBehind_10 ?_
    refine hz_goto (tgt := 17) hO dX7_wetOnPegBehind_13 (by decide) ?_
    exact hz_nameM (hz_some_e h).2.symm (hz_name (hz_some_e h).1.symm (hz_iret hO dX7_wetOnPegBehind_17))
def f_X7_strainBehind (a0 : Int32) (a1 : Int32) (M : hz_M) : hz_O :=
  if a1 ≤ 0 then
    some ((if (0 : Int32) < (a0 - (1 : Int32)) then (a0 - (1 : Int32)) else (0 : Int32)), M)
  else
    some (((a0 + (a1 / (5 : Int32))) + (1 : Int32)), M)
set_option maxRecDepth 100000 in
set_option maxHeartbeats 4000000 in
theorem c_X7_strainBehind (l : Launch) (w : hz_C) {N : Nat} (hN : 178 ≤ N) (a0 : Int32) (a1 : Int32) {M : hz_M} {rE : Int32} {ME : hz_M} (h : f_X7_strainBehind a0 a1 M = some (rE, ME)) : hz_Ct l yX7_strainBehind cX7_strainBehind 2 (some .int) 1 w N [.int a0, .int a1] M (hz_Qi w N rE ME) := by
  refine hz_ofW (by decide) rfl (Nat.le_of_ble_eq_true rfl) tw_5_114 ?_
  intro p e s m args below meth c hO
  show hz_G p l e 1 hz_z0 s m args below meth c w N 2 _ M 0 [(0, .int a0), (1, .int a1)] []
  unfold f_X7_strainBehind at h
  refine hz_iload_n hO dX7_strainBehind_0 rfl 1 rfl ?_
  refine hz_if_le (tgt := 14) hO dX7_strainBehind_1 (by decide) (fun hc1 => ?_) (fun hc1 => ?_)
  · rw [if_pos hc1] at h
    refine hz_iconst (v := (0 : Int32)) hO dX7_strainBehind_14 (by decide) ?_
    refine hz_iload_n hO dX7_strainBehind_15 rfl 0 rfl ?_
    refine hz_iconst (v := (1 : Int32)) hO dX7_strainBehind_16 (by decide) ?_
    refine hz_isub hO dX7_strainBehind_17 ?_
    refine hz_mmax hO tw_5_94 (Nat.le_of_ble_eq_true rfl) (Nat.le_of_ble_eq_true rfl) dX7_strainBehind_18 ?_
    exact hz_nameM (hz_some_e h).2.symm (hz_name (hz_some_e h).1.symm (hz_iret hO dX7_strainBehind_21))
  · rw [if_neg hc1] at h
    refine hz_iload_n hO dX7_strainBehind_4 rfl 0 rfl ?_
    refine hz_iload_n hO dX7_strainBehind_5 rfl 1 rfl ?_
    refine hz_iconst (v := (5 : Int32)) hO dX7_strainBehind_6 (by decide) ?_
    refine hz_idiv hO dX7_strainBehind_7 (by decide) ?_
    refine hz_iadd hO dX7_strainBehind_8 ?_
    refine hz_iconst (v := (1 : Int32)) hO dX7_strainBehind_9 (by decide) ?_
    refine hz_iadd hO dX7_strainBehind_10 ?_
    refine hz_goto (tgt := 21) hO dX7_strainBehind_11 (by decide) ?_
    exact hz_nameM (hz_some_e h).2.symm (hz_name (hz_some_e h).1.symm (hz_iret hO dX7_strainBehind_21))
def f_X7_soundGong (M : hz_M) : hz_O :=
  if (M 11 18) ≤ 0 then
    some (0, M)
  else
    hz_gd (hz_nz (M 11 18)) <|
    if ((M 11 14) - (M 11 14) / (M 11 18) * (M 11 18)) = 0 then
      hz_lm (hz_set M 11 16 (M 11 14)) fun M4 =>
      hz_lm (hz_set M4 24 (Int32.toNatClampNeg (7 : Int32)) ((M4 24 (Int32.toNatClampNeg (7 : Int32))) + (1 : Int32))) fun M5 =>
      some (0, M5)
    else
      some (0, M)
set_option maxRecDepth 100000 in
set_option maxHeartbeats 4000000 in
theorem c_X7_soundGong (l : Launch) (w : hz_C) {N : Nat} (hN : 178 ≤ N) {M : hz_M} {rE : Int32} {ME : hz_M} (h : f_X7_soundGong M = some (rE, ME)) : hz_Ct l yX7_soundGong cX7_soundGong 1 none 0 w N [.ref (hz_ad w 11)] M (hz_Qv w N ME) := by
  refine hz_ofW (by decide) rfl (Nat.le_of_ble_eq_true rfl) tw_6_1 ?_
  intro p e s m args below meth c hO
  show hz_G p l e 0 hz_z0 s m args below meth c w N 1 _ M 0 [(0, .ref (hz_ad w 11))] []
  unfold f_X7_soundGong at h
  refine hz_aload_n hO dX7_soundGong_0 rfl 0 rfl ?_
  refine hz_getI (k := 18) hO hz_K_7 hz_sh_11 (hz_lt_11 hN) rfl (Nat.le_of_ble_eq_true rfl) tw_1_198 rfl dX7_soundGong_1 ?_
  refine hz_if_le (tgt := 38) hO dX7_soundGong_4 (by decide) (fun hc1 => ?_) (fun hc1 => ?_)
  · rw [if_pos hc1] at h
    exact hz_nameM (hz_some_e h).2.symm (hz_vret hO dX7_soundGong_38)
  · rw [if_neg hc1] at h
    refine hz_aload_n hO dX7_soundGong_7 rfl 0 rfl ?_
    refine hz_getI (k := 14) hO hz_K_7 hz_sh_11 (hz_lt_11 hN) rfl (Nat.le_of_ble_eq_true rfl) tw_1_189 rfl dX7_soundGong_8 ?_
    refine hz_aload_n hO dX7_soundGong_11 rfl 0 rfl ?_
    refine hz_getI (k := 18) hO hz_K_7 hz_sh_11 (hz_lt_11 hN) rfl (Nat.le_of_ble_eq_true rfl) tw_1_198 rfl dX7_soundGong_12 ?_
    obtain ⟨hg2, h⟩ := hz_gd_e h
    refine hz_irem hO dX7_soundGong_15 (hz_nz_e hg2) ?_
    refine hz_if_ne (tgt := 38) hO dX7_soundGong_16 (by decide) (fun hc3 => ?_) (fun hc3 => ?_)
    · rw [if_neg hc3] at h
      exact hz_nameM (hz_some_e h).2.symm (hz_vret hO dX7_soundGong_38)
    · rw [if_pos hc3] at h
      refine hz_aload_n hO dX7_soundGong_19 rfl 0 rfl ?_
      refine hz_aload_n hO dX7_soundGong_20 rfl 0 rfl ?_
      refine hz_getI (k := 14) hO hz_K_7 hz_sh_11 (hz_lt_11 hN) rfl (Nat.le_of_ble_eq_true rfl) tw_1_189 rfl dX7_soundGong_21 ?_
      obtain ⟨M4, h_M4, h⟩ := hz_lm_e h
      refine hz_putI (k := 16) (ty := .int) hO hz_K_7 tyX7_ok nmX7 hz_sh_11 (hz_lt_11 hN) rfl (Nat.le_of_ble_eq_true rfl) tw_1_194 rfl rfl rfl rfl rfl dX7_soundGong_24 ?_
      refine hz_nameM h_M4 ?_
      refine hz_aload_n hO dX7_soundGong_27 rfl 0 rfl ?_
      refine hz_getR (k := 13) hO 24 hz_K_7 hz_sh_11 (hz_lt_11 hN) rfl (Nat.le_of_ble_eq_true rfl) tw_1_186 rfl dX7_soundGong_28 ?_
      refine hz_bipush (v := (7 : Int32)) hO dX7_soundGong_31 (by decide) ?_
      refine hz_dup2 hO dX7_soundGong_33 rfl rfl ?_
      refine hz_iald hO hz_sh_24 (hz_lt_24 hN) (by decide) dX7_soundGong_34 ?_
      refine hz_iconst (v := (1 : Int32)) hO dX7_soundGong_35 (by decide) ?_
      refine hz_iadd hO dX7_soundGong_36 ?_
      obtain ⟨M5, h_M5, h⟩ := hz_lm_e h
      refine hz_iast hO hz_sh_24 (hz_lt_24 hN) (by decide) dX7_soundGong_37 ?_
      refine hz_nameM h_M5 ?_
      exact hz_nameM (hz_some_e h).2.symm (hz_vret hO dX7_soundGong_38)
def f_X7_changeTowels_L2 : Nat → Int32 → hz_M → hz_O
  | 0, _, _ => none
  | n + 1, v1_1, M2 =>
    if (M2 1 6) ≤ v1_1 then
      some (0, M2)
    else
      hz_gd (hz_in v1_1 16) <|
      hz_lt ((M2 22 (Int32.toNatClampNeg v1_1))) fun x5 =>
      hz_ct (f_X3_isGuest x5 M2) fun r6 M7 =>
      hz_jn (fun (v1_9 : Int32) (M10 : hz_M) =>
        hz_lt (v1_9 + (1 : Int32)) fun x11 =>
        f_X7_changeTowels_L2 n x11 M10
        ) fun k12 =>
      if r6 = 0 then
        hz_gd (hz_in v1_1 16) <|
        if (M7 21 (Int32.toNatClampNeg v1_1)) = (-1 : Int32) then
          k12 v1_1 M7
        else
          hz_gd (hz_in v1_1 16) <|
          hz_ct (f_X7_wetOnPegBehind (M7 20 (Int32.toNatClampNeg v1_1)) (M7 11 15) M7) fun r17 M18 =>
          hz_gd (hz_in v1_1 16) <|
          hz_lm (hz_set M18 20 (Int32.toNatClampNeg v1_1) r17) fun M21 =>
          k12 v1_1 M21
      else
        hz_gd (hz_in x5 16) <|
        if (M7 13 (Int32.toNatClampNeg x5)) ≤ 0 then
          k12 v1_1 M7
        else
          hz_gd (hz_in v1_1 16) <|
          if (9 : Int32) ≤ (M7 20 (Int32.toNatClampNeg v1_1)) then
            k12 v1_1 M7
          else
            hz_gd (hz_in v1_1 16) <|
            hz_gd (hz_in v1_1 16) <|
            hz_lm (hz_set M7 20 (Int32.toNatClampNeg v1_1) ((M7 20 (Int32.toNatClampNeg v1_1)) + (1 : Int32))) fun M28 =>
            hz_lm (hz_set M28 24 (Int32.toNatClampNeg (6 : Int32)) ((M28 24 (Int32.toNatClampNeg (6 : Int32))) + (1 : Int32))) fun M29 =>
            k12 v1_1 M29
def f_X7_changeTowels (M : hz_M) : hz_O :=
  f_X7_changeTowels_L2 hz_FU (0 : Int32) M
set_option maxRecDepth 100000 in
set_option maxHeartbeats 4000000 in
theorem g_X7_changeTowels_L2 {p : Program} {l : Launch} {e : Env} {s : State} {m : MethodId} {args : Array Value} {below : List Frame} {meth : Method} {c : Code} {w : hz_C} {N : Nat} (hN : 178 ≤ N) {rE : Int32} {ME : hz_M} (hO : hz_Ok p s m args meth c w cX7_changeTowels 3 RX7 none) : ∀ (n : Nat) (v1_1 : Int32) (M2 : hz_M), f_X7_changeTowels_L2 n v1_1 M2 = some (rE, ME) → hz_G p l e 2 hz_z0 s m args below meth c w N 3 (MQ below (hz_Qv w N ME) args s 0 0 (hz_A w)) M2 2 [(0, .ref (hz_ad w 11)), (1, .int v1_1)] [] := by
  intro n
  induction n with
  | zero =>
    intro v1_1 M2 h
    rw [f_X7_changeTowels_L2] at h
    cases h
  | succ n ih =>
    intro v1_1 M2 h
    rw [f_X7_changeTowels_L2] at h
    refine hz_iload_n hO dX7_changeTowels_2 rfl 1 rfl ?_
    refine hz_aload_n hO dX7_changeTowels_3 rfl 0 rfl ?_
    refine hz_getR (k := 0) hO 1 hz_K_7 hz_sh_11 (hz_lt_11 hN) rfl (Nat.le_of_ble_eq_true rfl) tw_1_146 rfl dX7_changeTowels_4 ?_
    refine hz_getI (k := 6) hO hz_K_4 hz_sh_1 (hz_lt_1 hN) rfl (Nat.le_of_ble_eq_true rfl) tw_1_62 rfl dX7_changeTowels_7 ?_
    refine hz_icmp_ge (tgt := 110) hO dX7_changeTowels_10 (by decide) (fun hc3 => ?_) (fun hc3 => ?_)
    · rw [if_pos hc3] at h
      exact hz_nameM (hz_some_e h).2.symm (hz_vret hO dX7_changeTowels_110)
    · rw [if_neg hc3] at h
      refine hz_aload_n hO dX7_changeTowels_13 rfl 0 rfl ?_
      refine hz_getR (k := 11) hO 22 hz_K_7 hz_sh_11 (hz_lt_11 hN) rfl (Nat.le_of_ble_eq_true rfl) tw_1_179 rfl dX7_changeTowels_14 ?_
      refine hz_iload_n hO dX7_changeTowels_17 rfl 1 rfl ?_
      obtain ⟨hg4, h⟩ := hz_gd_e h
      refine hz_iald hO hz_sh_22 (hz_lt_22 hN) hg4 dX7_changeTowels_18 ?_
      obtain ⟨x5, h_x5, h⟩ := hz_lt_e h
      refine hz_name h_x5 ?_
      refine hz_istore_n (ls1 := [(2, .int x5), (0, .ref (hz_ad w 11)), (1, .int v1_1)]) hO dX7_changeTowels_19 rfl (Nat.le_of_ble_eq_true rfl) rfl ?_
      refine hz_aload_n hO dX7_changeTowels_20 rfl 1 rfl ?_
      refine hz_getR (k := 0) hO 1 hz_K_7 hz_sh_11 (hz_lt_11 hN) rfl (Nat.le_of_ble_eq_true rfl) tw_1_146 rfl dX7_changeTowels_21 ?_
      refine hz_iload_n hO dX7_changeTowels_24 rfl 0 rfl ?_
      obtain ⟨r6, M7, hq8, h⟩ := hz_ct_e h
      refine hz_callVi (as := [.int x5]) (rest := []) hO (c_X3_isGuest l w hN x5 hq8) hz_cal_X3_isGuest hz_K_4 hz_sh_1 (hz_lt_1 hN) tw_4_203 (Nat.le_of_ble_eq_true rfl) rfl rfl (Nat.le_of_ble_eq_true rfl) dX7_changeTowels_25 ?_
      obtain ⟨k12, hk12, h⟩ := hz_jn_e h
      have gk12 : ∀ (v1_9 : Int32) (M10 : hz_M), k12 v1_9 M10 = some (rE, ME) → hz_G p l e 2 hz_z0 s m args below meth c w N 3 (MQ below (hz_Qv w N ME) args s 0 0 (hz_A w)) M10 104 [(0, .ref (hz_ad w 11)), (1, .int v1_9)] [] := by
        intro v1_9 M10 h
        rw [hk12] at h
        dsimp only at h
        obtain ⟨x11, h_x11, h⟩ := hz_lt_e h
        refine hz_iinc (k := 1) (v := x11) (ls1 := [(1, .int x11), (0, .ref (hz_ad w 11))]) hO dX7_changeTowels_104 rfl (by rw [h_x11]; rfl) (Nat.le_of_ble_eq_true rfl) rfl ?_
        refine hz_goto (tgt := 2) hO dX7_changeTowels_107 (by decide) ?_
        exact hz_ls [1, 0] rfl (ih x11 M10 h)
      clear hk12
      refine hz_if_eq (tgt := 75) hO dX7_changeTowels_28 (by decide) (fun hc13 => ?_) (fun hc13 => ?_)
      · rw [if_pos hc13] at h
        refine hz_aload_n hO dX7_changeTowels_75 rfl 1 rfl ?_
        refine hz_getR (k := 10) hO 21 hz_K_7 hz_sh_11 (hz_lt_11 hN) rfl (Nat.le_of_ble_eq_true rfl) tw_1_177 rfl dX7_changeTowels_76 ?_
        refine hz_iload_n hO dX7_changeTowels_79 rfl 2 rfl ?_
        obtain ⟨hg14, h⟩ := hz_gd_e h
        refine hz_iald hO hz_sh_21 (hz_lt_21 hN) hg14 dX7_changeTowels_80 ?_
        refine hz_iconst (v := (-1 : Int32)) hO dX7_changeTowels_81 (by decide) ?_
        refine hz_icmp_eq (tgt := 104) hO dX7_changeTowels_82 (by decide) (fun hc15 => ?_) (fun hc15 => ?_)
        · rw [if_pos hc15] at h
          exact hz_ls [1, 2] rfl (gk12 v1_1 M7 h)
        · rw [if_neg hc15] at h
          refine hz_aload_n hO dX7_changeTowels_85 rfl 1 rfl ?_
          refine hz_getR (k := 9) hO 20 hz_K_7 hz_sh_11 (hz_lt_11 hN) rfl (Nat.le_of_ble_eq_true rfl) tw_1_174 rfl dX7_changeTowels_86 ?_
          refine hz_iload_n hO dX7_changeTowels_89 rfl 2 rfl ?_
          refine hz_aload_n hO dX7_changeTowels_90 rfl 1 rfl ?_
          refine hz_getR (k := 9) hO 20 hz_K_7 hz_sh_11 (hz_lt_11 hN) rfl (Nat.le_of_ble_eq_true rfl) tw_1_174 rfl dX7_changeTowels_91 ?_
          refine hz_iload_n hO dX7_changeTowels_94 rfl 2 rfl ?_
          obtain ⟨hg16, h⟩ := hz_gd_e h
          refine hz_iald hO hz_sh_20 (hz_lt_20 hN) hg16 dX7_changeTowels_95 ?_
          refine hz_aload_n hO dX7_changeTowels_96 rfl 1 rfl ?_
          refine hz_getI (k := 15) hO hz_K_7 hz_sh_11 (hz_lt_11 hN) rfl (Nat.le_of_ble_eq_true rfl) tw_1_192 rfl dX7_changeTowels_97 ?_
          obtain ⟨r17, M18, hq19, h⟩ := hz_ct_e h
          refine hz_callSi (as := [.int (M7 20 (Int32.toNatClampNeg v1_1)), .int (M7 11 15)]) (rest := [.int v1_1, .ref (hz_ad w 20)]) hO (c_X7_wetOnPegBehind l w hN (M7 20 (Int32.toNatClampNeg v1_1)) (M7 11 15) hq19) hz_cal_X7_wetOnPegBehind tw_6_8 (Nat.le_of_ble_eq_true rfl) rfl rfl (Nat.le_of_ble_eq_true rfl) dX7_changeTowels_100 ?_
          obtain ⟨hg20, h⟩ := hz_gd_e h
          obtain ⟨M21, h_M21, h⟩ := hz_lm_e h
          refine hz_iast hO hz_sh_20 (hz_lt_20 hN) hg20 dX7_changeTowels_103 ?_
          refine hz_nameM h_M21 ?_
          exact hz_ls [1, 2] rfl (gk12 v1_1 M21 h)
      · rw [if_neg hc13] at h
        refine hz_aload_n hO dX7_changeTowels_31 rfl 1 rfl ?_
        refine hz_getR (k := 2) hO 13 hz_K_7 hz_sh_11 (hz_lt_11 hN) rfl (Nat.le_of_ble_eq_true rfl) tw_1_150 rfl dX7_changeTowels_32 ?_
        refine hz_iload_n hO dX7_changeTowels_35 rfl 0 rfl ?_
        obtain ⟨hg22, h⟩ := hz_gd_e h
        refine hz_iald hO hz_sh_13 (hz_lt_13 hN) hg22 dX7_changeTowels_36 ?_
        refine hz_if_le (tgt := 104) hO dX7_changeTowels_37 (by decide) (fun hc23 => ?_) (fun hc23 => ?_)
        · rw [if_pos hc23] at h
          exact hz_ls [1, 2] rfl (gk12 v1_1 M7 h)
        · rw [if_neg hc23] at h
          refine hz_aload_n hO dX7_changeTowels_40 rfl 1 rfl ?_
          refine hz_getR (k := 9) hO 20 hz_K_7 hz_sh_11 (hz_lt_11 hN) rfl (Nat.le_of_ble_eq_true rfl) tw_1_174 rfl dX7_changeTowels_41 ?_
          refine hz_iload_n hO dX7_changeTowels_44 rfl 2 rfl ?_
          obtain ⟨hg24, h⟩ := hz_gd_e h
          refine hz_iald hO hz_sh_20 (hz_lt_20 hN) hg24 dX7_changeTowels_45 ?_
          refine hz_bipush (v := (9 : Int32)) hO dX7_changeTowels_46 (by decide) ?_
          refine hz_icmp_ge (tgt := 104) hO dX7_changeTowels_48 (by decide) (fun hc25 => ?_) (fun hc25 => ?_)
          · rw [if_pos hc25] at h
            exact hz_ls [1, 2] rfl (gk12 v1_1 M7 h)
          · rw [if_neg hc25] at h
            refine hz_aload_n hO dX7_changeTowels_51 rfl 1 rfl ?_
            refine hz_getR (k := 9) hO 20 hz_K_7 hz_sh_11 (hz_lt_11 hN) rfl (Nat.le_of_ble_eq_true rfl) tw_1_174 rfl dX7_changeTowels_52 ?_
            refine hz_iload_n hO dX7_changeTowels_55 rfl 2 rfl ?_
            refine hz_dup2 hO dX7_changeTowels_56 rfl rfl ?_
            obtain ⟨hg26, h⟩ := hz_gd_e h
            refine hz_iald hO hz_sh_20 (hz_lt_20 hN) hg26 dX7_changeTowels_57 ?_
            refine hz_iconst (v := (1 : Int32)) hO dX7_changeTowels_58 (by decide) ?_
            refine hz_iadd hO dX7_changeTowels_59 ?_
            obtain ⟨hg27, h⟩ := hz_gd_e h
            obtain ⟨M28, h_M28, h⟩ := hz_lm_e h
            refine hz_iast hO hz_sh_20 (hz_lt_20 hN) hg27 dX7_changeTowels_60 ?_
            refine hz_nameM h_M28 ?_
            refine hz_aload_n hO dX7_changeTowels_61 rfl 1 rfl ?_
            refine hz_getR (k := 13) hO 24 hz_K_7 hz_sh_11 (hz_lt_11 hN) rfl (Nat.le_of_ble_eq_true rfl) tw_1_186 rfl dX7_changeTowels_62 ?_
            refine hz_bipush (v := (6 : Int32)) hO dX7_changeTowels_65 (by decide) ?_
            refine hz_dup2 hO dX7_changeTowels_67 rfl rfl ?_
            refine hz_iald hO hz_sh_24 (hz_lt_24 hN) (by decide) dX7_changeTowels_68 ?_
            refine hz_iconst (v := (1 : Int32)) hO dX7_changeTowels_69 (by decide) ?_
            refine hz_iadd hO dX7_changeTowels_70 ?_
            obtain ⟨M29, h_M29, h⟩ := hz_lm_e h
            refine hz_iast hO hz_sh_24 (hz_lt_24 hN) (by decide) dX7_changeTowels_71 ?_
            refine hz_nameM h_M29 ?_
            refine hz_goto (tgt := 104) hO dX7_changeTowels_72 (by decide) ?_
            exact hz_ls [1, 2] rfl (gk12 v1_1 M29 h)
set_option maxRecDepth 100000 in
set_option maxHeartbeats 4000000 in
theorem c_X7_changeTowels (l : Launch) (w : hz_C) {N : Nat} (hN : 178 ≤ N) {M : hz_M} {rE : Int32} {ME : hz_M} (h : f_X7_changeTowels M = some (rE, ME)) : hz_Ct l yX7_changeTowels cX7_changeTowels 3 none 2 w N [.ref (hz_ad w 11)] M (hz_Qv w N ME) := by
  refine hz_ofW (by decide) rfl (Nat.le_of_ble_eq_true rfl) tw_6_7 ?_
  intro p e s m args below meth c hO
  show hz_G p l e 2 hz_z0 s m args below meth c w N 3 _ M 0 [(0, .ref (hz_ad w 11))] []
  unfold f_X7_changeTowels at h
  refine hz_iconst (v := (0 : Int32)) hO dX7_changeTowels_0 (by decide) ?_
  refine hz_istore_n (ls1 := [(1, .int (0 : Int32)), (0, .ref (hz_ad w 11))]) hO dX7_changeTowels_1 rfl (Nat.le_of_ble_eq_true rfl) rfl ?_
  exact hz_ls [1, 0] rfl (g_X7_changeTowels_L2 hN hO _ (0 : Int32) M h)
def f_X7_strainGuest (a1 : Int32) (M : hz_M) : hz_O :=
  hz_gd (hz_in a1 16) <|
  hz_lt ((M 13 (Int32.toNatClampNeg a1))) fun x2 =>
  if x2 = 0 then
    hz_gd (hz_in a1 16) <|
    hz_gd (hz_in a1 16) <|
    hz_lm (hz_set M 16 (Int32.toNatClampNeg a1) (if (0 : Int32) < ((M 16 (Int32.toNatClampNeg a1)) - (1 : Int32)) then ((M 16 (Int32.toNatClampNeg a1)) - (1 : Int32)) else (0 : Int32))) fun M19 =>
    some (0, M19)
  else
    if x2 ≤ 0 then
      some (0, M)
    else
      hz_gd (hz_in a1 16) <|
      hz_ct (f_X7_temperature x2 M) fun r6 M7 =>
      hz_ct (f_X3_bears a1 M7) fun r9 M10 =>
      hz_ct (f_X7_strainBehind (M 16 (Int32.toNatClampNeg a1)) (r6 - r9) M10) fun r12 M13 =>
      hz_gd (hz_in a1 16) <|
      hz_lm (hz_set M13 16 (Int32.toNatClampNeg a1) r12) fun M16 =>
      some (0, M16)
set_option maxRecDepth 100000 in
set_option maxHeartbeats 4000000 in
theorem c_X7_strainGuest (l : Launch) (w : hz_C) {N : Nat} (hN : 178 ≤ N) (a1 : Int32) {M : hz_M} {rE : Int32} {ME : hz_M} (h : f_X7_strainGuest a1 M = some (rE, ME)) : hz_Ct l yX7_strainGuest cX7_strainGuest 3 none 2 w N [.ref (hz_ad w 11), .int a1] M (hz_Qv w N ME) := by
  refine hz_ofW (by decide) rfl (Nat.le_of_ble_eq_true rfl) tw_6_12 ?_
  intro p e s m args below meth c hO
  show hz_G p l e 2 hz_z0 s m args below meth c w N 3 _ M 0 [(0, .ref (hz_ad w 11)), (1, .int a1)] []
  unfold f_X7_strainGuest at h
  refine hz_aload_n hO dX7_strainGuest_0 rfl 0 rfl ?_
  refine hz_getR (k := 2) hO 13 hz_K_7 hz_sh_11 (hz_lt_11 hN) rfl (Nat.le_of_ble_eq_true rfl) tw_1_150 rfl dX7_strainGuest_1 ?_
  refine hz_iload_n hO dX7_strainGuest_4 rfl 1 rfl ?_
  obtain ⟨hg1, h⟩ := hz_gd_e h
  refine hz_iald hO hz_sh_13 (hz_lt_13 hN) hg1 dX7_strainGuest_5 ?_
  obtain ⟨x2, h_x2, h⟩ := hz_lt_e h
  refine hz_name h_x2 ?_
  refine hz_istore_n (ls1 := [(2, .int x2), (0, .ref (hz_ad w 11)), (1, .int a1)]) hO dX7_strainGuest_6 rfl (Nat.le_of_ble_eq_true rfl) rfl ?_
  refine hz_iload_n hO dX7_strainGuest_7 rfl 0 rfl ?_
  refine hz_if_ne (tgt := 32) hO dX7_strainGuest_8 (by decide) (fun hc3 => ?_) (fun hc3 => ?_)
  · rw [if_neg hc3] at h
    refine hz_iload_n hO dX7_strainGuest_32 rfl 0 rfl ?_
    refine hz_if_le (tgt := 65) hO dX7_strainGuest_33 (by decide) (fun hc4 => ?_) (fun hc4 => ?_)
    · rw [if_pos hc4] at h
      exact hz_nameM (hz_some_e h).2.symm (hz_vret hO dX7_strainGuest_65)
    · rw [if_neg hc4] at h
      refine hz_aload_n hO dX7_strainGuest_36 rfl 1 rfl ?_
      refine hz_getR (k := 5) hO 16 hz_K_7 hz_sh_11 (hz_lt_11 hN) rfl (Nat.le_of_ble_eq_true rfl) tw_1_161 rfl dX7_strainGuest_37 ?_
      refine hz_iload_n hO dX7_strainGuest_40 rfl 2 rfl ?_
      refine hz_aload_n hO dX7_strainGuest_41 rfl 1 rfl ?_
      refine hz_getR (k := 5) hO 16 hz_K_7 hz_sh_11 (hz_lt_11 hN) rfl (Nat.le_of_ble_eq_true rfl) tw_1_161 rfl dX7_strainGuest_42 ?_
      refine hz_iload_n hO dX7_strainGuest_45 rfl 2 rfl ?_
      obtain ⟨hg5, h⟩ := hz_gd_e h
      refine hz_iald hO hz_sh_16 (hz_lt_16 hN) hg5 dX7_strainGuest_46 ?_
      refine hz_aload_n hO dX7_strainGuest_47 rfl 1 rfl ?_
      refine hz_iload_n hO dX7_strainGuest_48 rfl 0 rfl ?_
      obtain ⟨r6, M7, hq8, h⟩ := hz_ct_e h
      refine hz_callVi (as := [.int x2]) (rest := [.int (M 16 (Int32.toNatClampNeg a1)), .int a1, .ref (hz_ad w 16)]) hO (c_X7_temperature l w hN x2 hq8) hz_cal_X7_temperature hz_K_7 hz_sh_11 (hz_lt_11 hN) tw_4_208 (Nat.le_of_ble_eq_true rfl) rfl rfl (Nat.le_of_ble_eq_true rfl) dX7_strainGuest_49 ?_
      refine hz_aload_n hO dX7_strainGuest_52 rfl 1 rfl ?_
      refine hz_getR (k := 0) hO 1 hz_K_7 hz_sh_11 (hz_lt_11 hN) rfl (Nat.le_of_ble_eq_true rfl) tw_1_146 rfl dX7_strainGuest_53 ?_
      refine hz_iload_n hO dX7_strainGuest_56 rfl 2 rfl ?_
      obtain ⟨r9, M10, hq11, h⟩ := hz_ct_e h
      refine hz_callVi (as := [.int a1]) (rest := [.int r6, .int (M 16 (Int32.toNatClampNeg a1)), .int a1, .ref (hz_ad w 16)]) hO (c_X3_bears l w hN a1 hq11) hz_cal_X3_bears hz_K_4 hz_sh_1 (hz_lt_1 hN) tw_4_209 (Nat.le_of_ble_eq_true rfl) rfl rfl (Nat.le_of_ble_eq_true rfl) dX7_strainGuest_57 ?_
      refine hz_isub hO dX7_strainGuest_60 ?_
      obtain ⟨r12, M13, hq14, h⟩ := hz_ct_e h
      refine hz_callSi (as := [.int (M 16 (Int32.toNatClampNeg a1)), .int (r6 - r9)]) (rest := [.int a1, .ref (hz_ad w 16)]) hO (c_X7_strainBehind l w hN (M 16 (Int32.toNatClampNeg a1)) (r6 - r9) hq14) hz_cal_X7_strainBehind tw_6_13 (Nat.le_of_ble_eq_true rfl) rfl rfl (Nat.le_of_ble_eq_true rfl) dX7_strainGuest_61 ?_
      obtain ⟨hg15, h⟩ := hz_gd_e h
      obtain ⟨M16, h_M16, h⟩ := hz_lm_e h
      refine hz_iast hO hz_sh_16 (hz_lt_16 hN) hg15 dX7_strainGuest_64 ?_
      refine hz_nameM h_M16 ?_
      exact hz_nameM (hz_some_e h).2.symm (hz_vret hO dX7_strainGuest_65)
  · rw [if_pos hc3] at h
    refine hz_aload_n hO dX7_strainGuest_11 rfl 1 rfl ?_
    refine hz_getR (k := 5) hO 16 hz_K_7 hz_sh_11 (hz_lt_11 hN) rfl (Nat.le_of_ble_eq_true rfl) tw_1_161 rfl dX7_strainGuest_12 ?_
    refine hz_iload_n hO dX7_strainGuest_15 rfl 2 rfl ?_
    refine hz_iconst (v := (0 : Int32)) hO dX7_strainGuest_16 (by decide) ?_
    refine hz_aload_n hO dX7_strainGuest_17 rfl 1 rfl ?_
    refine hz_getR (k := 5) hO 16 hz_K_7 hz_sh_11 (hz_lt_11 hN) rfl (Nat.le_of_ble_eq_true rfl) tw_1_161 rfl dX7_strainGuest_18 ?_
    refine hz_iload_n hO dX7_strainGuest_21 rfl 2 rfl ?_
    obtain ⟨hg17, h⟩ := hz_gd_e h
    refine hz_iald hO hz_sh_16 (hz_lt_16 hN) hg17 dX7_strainGuest_22 ?_
    refine hz_iconst (v := (1 : Int32)) hO dX7_strainGuest_23 (by decide) ?_
    refine hz_isub hO dX7_strainGuest_24 ?_
    refine hz_mmax hO tw_5_94 (Nat.le_of_ble_eq_true rfl) (Nat.le_of_ble_eq_true rfl) dX7_strainGuest_25 ?_
    obtain ⟨hg18, h⟩ := hz_gd_e h
    obtain ⟨M19, h_M19, h⟩ := hz_lm_e h
    refine hz_iast hO hz_sh_16 (hz_lt_16 hN) hg18 dX7_strainGuest_28 ?_
    refine hz_nameM h_M19 ?_
    refine hz_goto (tgt := 65) hO dX7_strainGuest_29 (by decide) ?_
    exact hz_nameM (hz_some_e h).2.symm (hz_vret hO dX7_strainGuest_65)
def f_X7_comeDown_L9 (kk31 : Int32 → Int32 → hz_M → hz_O) : Nat → Int32 → Int32 → hz_M → hz_O
  | 0, _, _, _ => none
  | n + 1, v1_12, v2_13, M14 =>
    if v2_13 ≤ 0 then
      kk31 v1_12 v2_13 M14
    else
      hz_ct (f_X7_guestsAt v2_13 M14) fun r16 M17 =>
      if r16 < (M17 11 17) then
        kk31 v1_12 v2_13 M17
      else
        hz_lt (v2_13 + (-1 : Int32)) fun x20 =>
        f_X7_comeDown_L9 kk31 n v1_12 x20 M17
def f_X7_comeDown (a1 : Int32) (M : hz_M) : hz_O :=
  hz_gd (hz_in a1 16) <|
  hz_lt (((M 13 (Int32.toNatClampNeg a1)) - (1 : Int32))) fun x2 =>
  hz_jn (fun (v1_3 : Int32) (v2_4 : Int32) (M5 : hz_M) =>
    hz_gd (hz_in v1_3 16) <|
    hz_lm (hz_set M5 13 (Int32.toNatClampNeg v1_3) v2_4) fun M7 =>
    hz_gd (hz_in v1_3 16) <|
    hz_lm (hz_set M7 16 (Int32.toNatClampNeg v1_3) (5 : Int32)) fun M9 =>
    hz_lm (hz_set M9 24 (Int32.toNatClampNeg (4 : Int32)) ((M9 24 (Int32.toNatClampNeg (4 : Int32))) + (1 : Int32))) fun M10 =>
    some (0, M10)
    ) fun k11 =>
  f_X7_comeDown_L9 k11 hz_FU a1 x2 M
set_option maxRecDepth 100000 in
set_option maxHeartbeats 4000000 in
theorem g_X7_comeDown_L9 {p : Program} {l : Launch} {e : Env} {s : State} {m : MethodId} {args : Array Value} {below : List Frame} {meth : Method} {c : Code} {w : hz_C} {N : Nat} (hN : 178 ≤ N) {rE : Int32} {ME : hz_M} (hO : hz_Ok p s m args meth c w cX7_comeDown 3 RX7 none) (kk31 : Int32 → Int32 → hz_M → hz_O) (gkk31 : ∀ (v1_3 : Int32) (v2_4 : Int32) (M : hz_M), kk31 v1_3 v2_4 M = some (rE, ME) → hz_G p l e 1 hz_z0 s m args below meth c w N 3 (MQ below (hz_Qv w N ME) args s 0 0 (hz_A w)) M 31 [(0, .ref (hz_ad w 11)), (1, .int v1_3), (2, .int v2_4)] []) : ∀ (n : Nat) (v1_12 : Int32) (v2_13 : Int32) (M14 : hz_M), f_X7_comeDown_L9 kk31 n v1_12 v2_13 M14 = some (rE, ME) → hz_G p l e 1 hz_z0 s m args below meth c w N 3 (MQ below (hz_Qv w N ME) args s 0 0 (hz_A w)) M14 9 [(0, .ref (hz_ad w 11)), (1, .int v1_12), (2, .int v2_13)] [] := by
  intro n
  induction n with
  | zero =>
    intro v1_12 v2_13 M14 h
    rw [f_X7_comeDown_L9] at h
    cases h
  | succ n ih =>
    intro v1_12 v2_13 M14 h
    rw [f_X7_comeDown_L9] at h
    refine hz_iload_n hO dX7_comeDown_9 rfl 2 rfl ?_
    refine hz_if_le (tgt := 31) hO dX7_comeDown_10 (by decide) (fun hc15 => ?_) (fun hc15 => ?_)
    · rw [if_pos hc15] at h
      exact hz_ls [0, 1, 2] rfl (gkk31 v1_12 v2_13 M14 h)
    · rw [if_neg hc15] at h
      refine hz_aload_n hO dX7_comeDown_13 rfl 0 rfl ?_
      refine hz_iload_n hO dX7_comeDown_14 rfl 2 rfl ?_
      obtain ⟨r16, M17, hq18, h⟩ := hz_ct_e h
      refine hz_callVi (as := [.int v2_13]) (rest := []) hO (c_X7_guestsAt l w hN v2_13 hq18) hz_cal_X7_guestsAt hz_K_7 hz_sh_11 (hz_lt_11 hN) tw_6_18 (Nat.le_of_ble_eq_true rfl) rfl rfl (Nat.le_of_ble_eq_true rfl) dX7_comeDown_15 ?_
      refine hz_aload_n hO dX7_comeDown_18 rfl 0 rfl ?_
      refine hz_getI (k := 17) hO hz_K_7 hz_sh_11 (hz_lt_11 hN) rfl (Nat.le_of_ble_eq_true rfl) tw_1_195 rfl dX7_comeDown_19 ?_
      refine hz_icmp_lt (tgt := 31) hO dX7_comeDown_22 (by decide) (fun hc19 => ?_) (fun hc19 => ?_)
      · rw [if_pos hc19] at h
        exact hz_ls [0, 1, 2] rfl (gkk31 v1_12 v2_13 M17 h)
      · rw [if_neg hc19] at h
        obtain ⟨x20, h_x20, h⟩ := hz_lt_e h
        refine hz_iinc (k := 2) (v := x20) (ls1 := [(2, .int x20), (0, .ref (hz_ad w 11)), (1, .int v1_12)]) hO dX7_comeDown_25 rfl (by rw [h_x20]; rfl) (Nat.le_of_ble_eq_true rfl) rfl ?_
        refine hz_goto (tgt := 9) hO dX7_comeDown_28 (by decide) ?_
        exact hz_ls [1, 2, 0] rfl (ih v1_12 x20 M17 h)
set_option maxRecDepth 100000 in
set_option maxHeartbeats 4000000 in
theorem c_X7_comeDown (l : Launch) (w : hz_C) {N : Nat} (hN : 178 ≤ N) (a1 : Int32) {M : hz_M} {rE : Int32} {ME : hz_M} (h : f_X7_comeDown a1 M = some (rE, ME)) : hz_Ct l yX7_comeDown cX7_comeDown 3 none 1 w N [.ref (hz_ad w 11), .int a1] M (hz_Qv w N ME) := by
  refine hz_ofW (by decide) rfl (Nat.le_of_ble_eq_true rfl) tw_6_17 ?_
  intro p e s m args below meth c hO
  show hz_G p l e 1 hz_z0 s m args below meth c w N 3 _ M 0 [(0, .ref (hz_ad w 11)), (1, .int a1)] []
  unfold f_X7_comeDown at h
  refine hz_aload_n hO dX7_comeDown_0 rfl 0 rfl ?_
  refine hz_getR (k := 2) hO 13 hz_K_7 hz_sh_11 (hz_lt_11 hN) rfl (Nat.le_of_ble_eq_true rfl) tw_1_150 rfl dX7_comeDown_1 ?_
  refine hz_iload_n hO dX7_comeDown_4 rfl 1 rfl ?_
  obtain ⟨hg1, h⟩ := hz_gd_e h
  refine hz_iald hO hz_sh_13 (hz_lt_13 hN) hg1 dX7_comeDown_5 ?_
  refine hz_iconst (v := (1 : Int32)) hO dX7_comeDown_6 (by decide) ?_
  refine hz_isub hO dX7_comeDown_7 ?_
  obtain ⟨x2, h_x2, h⟩ := hz_lt_e h
  refine hz_name h_x2 ?_
  refine hz_istore_n (ls1 := [(2, .int x2), (0, .ref (hz_ad w 11)), (1, .int a1)]) hO dX7_comeDown_8 rfl (Nat.le_of_ble_eq_true rfl) rfl ?_
  obtain ⟨k11, hk11, h⟩ := hz_jn_e h
  have gk11 : ∀ (v1_3 : Int32) (v2_4 : Int32) (M5 : hz_M), k11 v1_3 v2_4 M5 = some (rE, ME) → hz_G p l e 1 hz_z0 s m args below meth c w N 3 (MQ below (hz_Qv w N ME) args s 0 0 (hz_A w)) M5 31 [(0, .ref (hz_ad w 11)), (1, .int v1_3), (2, .int v2_4)] [] := by
    intro v1_3 v2_4 M5 h
    rw [hk11] at h
    dsimp only at h
    refine hz_aload_n hO dX7_comeDown_31 rfl 0 rfl ?_
    refine hz_getR (k := 2) hO 13 hz_K_7 hz_sh_11 (hz_lt_11 hN) rfl (Nat.le_of_ble_eq_true rfl) tw_1_150 rfl dX7_comeDown_32 ?_
    refine hz_iload_n hO dX7_comeDown_35 rfl 1 rfl ?_
    refine hz_iload_n hO dX7_comeDown_36 rfl 2 rfl ?_
    obtain ⟨hg6, h⟩ := hz_gd_e h
    obtain ⟨M7, h_M7, h⟩ := hz_lm_e h
    refine hz_iast hO hz_sh_13 (hz_lt_13 hN) hg6 dX7_comeDown_37 ?_
    refine hz_nameM h_M7 ?_
    refine hz_aload_n hO dX7_comeDown_38 rfl 0 rfl ?_
    refine hz_getR (k := 5) hO 16 hz_K_7 hz_sh_11 (hz_lt_11 hN) rfl (Nat.le_of_ble_eq_true rfl) tw_1_161 rfl dX7_comeDown_39 ?_
    refine hz_iload_n hO dX7_comeDown_42 rfl 1 rfl ?_
    refine hz_iconst (v := (5 : Int32)) hO dX7_comeDown_43 (by decide) ?_
    obtain ⟨hg8, h⟩ := hz_gd_e h
    obtain ⟨M9, h_M9, h⟩ := hz_lm_e h
    refine hz_iast hO hz_sh_16 (hz_lt_16 hN) hg8 dX7_comeDown_44 ?_
    refine hz_nameM h_M9 ?_
    refine hz_aload_n hO dX7_comeDown_45 rfl 0 rfl ?_
    refine hz_getR (k := 13) hO 24 hz_K_7 hz_sh_11 (hz_lt_11 hN) rfl (Nat.le_of_ble_eq_true rfl) tw_1_186 rfl dX7_comeDown_46 ?_
    refine hz_iconst (v := (4 : Int32)) hO dX7_comeDown_49 (by decide) ?_
    refine hz_dup2 hO dX7_comeDown_50 rfl rfl ?_
    refine hz_iald hO hz_sh_24 (hz_lt_24 hN) (by decide) dX7_comeDown_51 ?_
    refine hz_iconst (v := (1 : Int32)) hO dX7_comeDown_52 (by decide) ?_
    refine hz_iadd hO dX7_comeDown_53 ?_
    obtain ⟨M10, h_M10, h⟩ := hz_lm_e h
    refine hz_iast hO hz_sh_24 (hz_lt_24 hN) (by decide) dX7_comeDown_54 ?_
    refine hz_nameM h_M10 ?_
    exact hz_nameM (hz_some_e h).2.symm (hz_vret hO dX7_comeDown_55)
  clear hk11
  exact hz_ls [1, 2, 0] rfl (g_X7_comeDown_L9 hN hO _ gk11 _ a1 x2 M h)
