-- X1_seatInHall X1_turn X2_forgetAll X2_isSlot X6_clear X9_isDeed X9_reasonToStayOut X9_reasonNotToSit X9_reasonNotToHang X9_reasonNotToTake X1_letIn X1_seat X1_hangUp X1_takeDown X1_letGo X1_hear X1_washBasket X9_reason X9_cause
def f_X1_seatInHall (a1 : Int32) (M : hz_M) : hz_O :=
  hz_gd (hz_in a1 16) <|
  hz_lt ((M 13 (Int32.toNatClampNeg a1))) fun x2 =>
  hz_gd (hz_in a1 16) <|
  hz_lm (hz_set M 13 (Int32.toNatClampNeg a1) (0 : Int32)) fun M4 =>
  some (x2, M4)
set_option maxRecDepth 100000 in
set_option maxHeartbeats 4000000 in
theorem c_X1_seatInHall (l : Launch) (w : hz_C) {N : Nat} (hN : 178 ≤ N) (a1 : Int32) {M : hz_M} {rE : Int32} {ME : hz_M} (h : f_X1_seatInHall a1 M = some (rE, ME)) : hz_Ct l yX1_seatInHall cX1_seatInHall 3 (some .int) 0 w N [.ref (hz_ad w 26), .int a1] M (hz_Qi w N rE ME) := by
  refine hz_ofW (by decide) rfl (Nat.le_of_ble_eq_true rfl) tw_4_52 ?_
  intro p e s m args below meth c hO
  show hz_G p l e 0 hz_z0 s m args below meth c w N 3 _ M 0 [(0, .ref (hz_ad w 26)), (1, .int a1)] []
  unfold f_X1_seatInHall at h
  refine hz_aload_n hO dX1_seatInHall_0 rfl 0 rfl ?_
  refine hz_getR (k := 1) hO 11 hz_K_0 hz_sh_26 (hz_lt_26 hN) rfl (Nat.le_of_ble_eq_true rfl) tw_2_30 rfl dX1_seatInHall_1 ?_
  refine hz_getR (k := 2) hO 13 hz_K_5 hz_sh_11 (hz_lt_11 hN) rfl (Nat.le_of_ble_eq_true rfl) tw_1_158 rfl dX1_seatInHall_4 ?_
  refine hz_iload_n hO dX1_seatInHall_7 rfl 1 rfl ?_
  obtain ⟨hg1, h⟩ := hz_gd_e h
  refine hz_iald hO hz_sh_13 (hz_lt_13 hN) hg1 dX1_seatInHall_8 ?_
  obtain ⟨x2, h_x2, h⟩ := hz_lt_e h
  refine hz_name h_x2 ?_
  refine hz_istore_n (ls1 := [(2, .int x2), (0, .ref (hz_ad w 26)), (1, .int a1)]) hO dX1_seatInHall_9 rfl (Nat.le_of_ble_eq_true rfl) rfl ?_
  refine hz_aload_n hO dX1_seatInHall_10 rfl 1 rfl ?_
  refine hz_getR (k := 1) hO 11 hz_K_0 hz_sh_26 (hz_lt_26 hN) rfl (Nat.le_of_ble_eq_true rfl) tw_2_30 rfl dX1_seatInHall_11 ?_
  refine hz_getR (k := 2) hO 13 hz_K_5 hz_sh_11 (hz_lt_11 hN) rfl (Nat.le_of_ble_eq_true rfl) tw_1_158 rfl dX1_seatInHall_14 ?_
  refine hz_iload_n hO dX1_seatInHall_17 rfl 2 rfl ?_
  refine hz_iconst (v := (0 : Int32)) hO dX1_seatInHall_18 (by decide) ?_
  obtain ⟨hg3, h⟩ := hz_gd_e h
  obtain ⟨M4, h_M4, h⟩ := hz_lm_e h
  refine hz_iast hO hz_sh_13 (hz_lt_13 hN) hg3 dX1_seatInHall_19 ?_
  refine hz_nameM h_M4 ?_
  refine hz_iload_n hO dX1_seatInHall_20 rfl 0 rfl ?_
  exact hz_nameM (hz_some_e h).2.symm (hz_name (hz_some_e h).1.symm (hz_iret hO dX1_seatInHall_21))
def f_X1_turn (a1 : Int32) (a2 : Int32) (M : hz_M) : hz_O :=
  hz_gd (hz_in a1 4) <|
  hz_lt ((M 12 (Int32.toNatClampNeg a1))) fun x2 =>
  hz_gd (hz_in a1 4) <|
  hz_lm (hz_set M 12 (Int32.toNatClampNeg a1) a2) fun M4 =>
  some (x2, M4)
set_option maxRecDepth 100000 in
set_option maxHeartbeats 4000000 in
theorem c_X1_turn (l : Launch) (w : hz_C) {N : Nat} (hN : 178 ≤ N) (a1 : Int32) (a2 : Int32) {M : hz_M} {rE : Int32} {ME : hz_M} (h : f_X1_turn a1 a2 M = some (rE, ME)) : hz_Ct l yX1_turn cX1_turn 4 (some .int) 0 w N [.ref (hz_ad w 26), .int a1, .int a2] M (hz_Qi w N rE ME) := by
  refine hz_ofW (by decide) rfl (Nat.le_of_ble_eq_true rfl) tw_4_90 ?_
  intro p e s m args below meth c hO
  show hz_G p l e 0 hz_z0 s m args below meth c w N 4 _ M 0 [(0, .ref (hz_ad w 26)), (1, .int a1), (2, .int a2)] []
  unfold f_X1_turn at h
  refine hz_aload_n hO dX1_turn_0 rfl 0 rfl ?_
  refine hz_getR (k := 1) hO 11 hz_K_0 hz_sh_26 (hz_lt_26 hN) rfl (Nat.le_of_ble_eq_true rfl) tw_2_30 rfl dX1_turn_1 ?_
  refine hz_getR (k := 1) hO 12 hz_K_5 hz_sh_11 (hz_lt_11 hN) rfl (Nat.le_of_ble_eq_true rfl) tw_1_154 rfl dX1_turn_4 ?_
  refine hz_iload_n hO dX1_turn_7 rfl 1 rfl ?_
  obtain ⟨hg1, h⟩ := hz_gd_e h
  refine hz_iald hO hz_sh_12 (hz_lt_12 hN) hg1 dX1_turn_8 ?_
  obtain ⟨x2, h_x2, h⟩ := hz_lt_e h
  refine hz_name h_x2 ?_
  refine hz_istore_n (ls1 := [(3, .int x2), (0, .ref (hz_ad w 26)), (1, .int a1), (2, .int a2)]) hO dX1_turn_9 rfl (Nat.le_of_ble_eq_true rfl) rfl ?_
  refine hz_aload_n hO dX1_turn_10 rfl 1 rfl ?_
  refine hz_getR (k := 1) hO 11 hz_K_0 hz_sh_26 (hz_lt_26 hN) rfl (Nat.le_of_ble_eq_true rfl) tw_2_30 rfl dX1_turn_11 ?_
  refine hz_getR (k := 1) hO 12 hz_K_5 hz_sh_11 (hz_lt_11 hN) rfl (Nat.le_of_ble_eq_true rfl) tw_1_154 rfl dX1_turn_14 ?_
  refine hz_iload_n hO dX1_turn_17 rfl 2 rfl ?_
  refine hz_iload_n hO dX1_turn_18 rfl 3 rfl ?_
  obtain ⟨hg3, h⟩ := hz_gd_e h
  obtain ⟨M4, h_M4, h⟩ := hz_lm_e h
  refine hz_iast hO hz_sh_12 (hz_lt_12 hN) hg3 dX1_turn_19 ?_
  refine hz_nameM h_M4 ?_
  refine hz_iload_n hO dX1_turn_20 rfl 0 rfl ?_
  exact hz_nameM (hz_some_e h).2.symm (hz_name (hz_some_e h).1.symm (hz_iret hO dX1_turn_21))
def f_X2_forgetAll_L7 : Nat → Int32 → hz_M → hz_O
  | 0, _, _ => none
  | n + 1, v1_2, M3 =>
    if (2 : Int32) ≤ v1_2 then
      some (0, M3)
    else
      hz_gd (hz_in v1_2 2) <|
      hz_lm (hz_set M3 35 (Int32.toNatClampNeg v1_2) (0 : Int32)) fun M6 =>
      hz_lt (v1_2 + (1 : Int32)) fun x7 =>
      f_X2_forgetAll_L7 n x7 M6
def f_X2_forgetAll (M : hz_M) : hz_O :=
  hz_lm (hz_set M 32 4 (0 : Int32)) fun M1 =>
  f_X2_forgetAll_L7 hz_FU (0 : Int32) M1
set_option maxRecDepth 100000 in
set_option maxHeartbeats 4000000 in
theorem g_X2_forgetAll_L7 {p : Program} {l : Launch} {e : Env} {s : State} {m : MethodId} {args : Array Value} {below : List Frame} {meth : Method} {c : Code} {w : hz_C} {N : Nat} (hN : 178 ≤ N) {rE : Int32} {ME : hz_M} (hO : hz_Ok p s m args meth c w cX2_forgetAll 2 RX2 none) : ∀ (n : Nat) (v1_2 : Int32) (M3 : hz_M), f_X2_forgetAll_L7 n v1_2 M3 = some (rE, ME) → hz_G p l e 0 hz_z0 s m args below meth c w N 2 (MQ below (hz_Qv w N ME) args s 0 0 (hz_A w)) M3 7 [(0, .ref (hz_ad w 32)), (1, .int v1_2)] [] := by
  intro n
  induction n with
  | zero =>
    intro v1_2 M3 h
    rw [f_X2_forgetAll_L7] at h
    cases h
  | succ n ih =>
    intro v1_2 M3 h
    rw [f_X2_forgetAll_L7] at h
    refine hz_iload_n hO dX2_forgetAll_7 rfl 1 rfl ?_
    refine hz_iconst (v := (2 : Int32)) hO dX2_forgetAll_8 (by decide) ?_
    refine hz_icmp_ge (tgt := 25) hO dX2_forgetAll_9 (by decide) (fun hc4 => ?_) (fun hc4 => ?_)
    · rw [if_pos hc4] at h
      exact hz_nameM (hz_some_e h).2.symm (hz_vret hO dX2_forgetAll_25)
    · rw [if_neg hc4] at h
      refine hz_aload_n hO dX2_forgetAll_12 rfl 0 rfl ?_
      refine hz_getR (k := 2) hO 35 hz_K_1 hz_sh_32 (hz_lt_32 hN) rfl (Nat.le_of_ble_eq_true rfl) tw_2_92 rfl dX2_forgetAll_13 ?_
      refine hz_iload_n hO dX2_forgetAll_16 rfl 1 rfl ?_
      refine hz_iconst (v := (0 : Int32)) hO dX2_forgetAll_17 (by decide) ?_
      obtain ⟨hg5, h⟩ := hz_gd_e h
      obtain ⟨M6, h_M6, h⟩ := hz_lm_e h
      refine hz_zast hO hz_sh_35 (hz_lt_35 hN) hg5 (by decide) dX2_forgetAll_18 ?_
      refine hz_nameM h_M6 ?_
      obtain ⟨x7, h_x7, h⟩ := hz_lt_e h
      refine hz_iinc (k := 1) (v := x7) (ls1 := [(1, .int x7), (0, .ref (hz_ad w 32))]) hO dX2_forgetAll_19 rfl (by rw [h_x7]; rfl) (Nat.le_of_ble_eq_true rfl) rfl ?_
      refine hz_goto (tgt := 7) hO dX2_forgetAll_22 (by decide) ?_
      exact hz_ls [1, 0] rfl (ih x7 M6 h)
set_option maxRecDepth 100000 in
set_option maxHeartbeats 4000000 in
theorem c_X2_forgetAll (l : Launch) (w : hz_C) {N : Nat} (hN : 178 ≤ N) {M : hz_M} {rE : Int32} {ME : hz_M} (h : f_X2_forgetAll M = some (rE, ME)) : hz_Ct l yX2_forgetAll cX2_forgetAll 2 none 0 w N [.ref (hz_ad w 32)] M (hz_Qv w N ME) := by
  refine hz_ofW (by decide) rfl (Nat.le_of_ble_eq_true rfl) tw_3_104 ?_
  intro p e s m args below meth c hO
  show hz_G p l e 0 hz_z0 s m args below meth c w N 2 _ M 0 [(0, .ref (hz_ad w 32))] []
  unfold f_X2_forgetAll at h
  refine hz_aload_n hO dX2_forgetAll_0 rfl 0 rfl ?_
  refine hz_iconst (v := (0 : Int32)) hO dX2_forgetAll_1 (by decide) ?_
  obtain ⟨M1, h_M1, h⟩ := hz_lm_e h
  refine hz_putI (k := 4) (ty := .int) hO hz_K_1 tyX2_ok nmX2 hz_sh_32 (hz_lt_32 hN) rfl (Nat.le_of_ble_eq_true rfl) tw_2_94 rfl rfl rfl rfl rfl dX2_forgetAll_2 ?_
  refine hz_nameM h_M1 ?_
  refine hz_iconst (v := (0 : Int32)) hO dX2_forgetAll_5 (by decide) ?_
  refine hz_istore_n (ls1 := [(1, .int (0 : Int32)), (0, .ref (hz_ad w 32))]) hO dX2_forgetAll_6 rfl (Nat.le_of_ble_eq_true rfl) rfl ?_
  exact hz_ls [1, 0] rfl (g_X2_forgetAll_L7 hN hO _ (0 : Int32) M1 h)
def f_X2_isSlot (a0 : Int32) (M : hz_M) : hz_O :=
  if a0 < 0 then
    some ((0 : Int32), M)
  else
    if (2 : Int32) ≤ a0 then
      some ((0 : Int32), M)
    else
      some ((1 : Int32), M)
set_option maxRecDepth 100000 in
set_option maxHeartbeats 4000000 in
theorem c_X2_isSlot (l : Launch) (w : hz_C) {N : Nat} (hN : 178 ≤ N) (a0 : Int32) {M : hz_M} {rE : Int32} {ME : hz_M} (h : f_X2_isSlot a0 M = some (rE, ME)) : hz_Ct l yX2_isSlot cX2_isSlot 1 (some .boolean) 0 w N [.int a0] M (hz_Qi w N rE ME) := by
  refine hz_ofW (by decide) rfl (Nat.le_of_ble_eq_true rfl) tw_6_113 ?_
  intro p e s m args below meth c hO
  show hz_G p l e 0 hz_z0 s m args below meth c w N 1 _ M 0 [(0, .int a0)] []
  unfold f_X2_isSlot at h
  refine hz_iload_n hO dX2_isSlot_0 rfl 0 rfl ?_
  refine hz_if_lt (tgt := 13) hO dX2_isSlot_1 (by decide) (fun hc1 => ?_) (fun hc1 => ?_)
  · rw [if_pos hc1] at h
    refine hz_iconst (v := (0 : Int32)) hO dX2_isSlot_13 (by decide) ?_
    exact hz_nameM (hz_some_e h).2.symm (hz_name (hz_some_e h).1.symm (hz_zret hO (by rw [← (hz_some_e h).1]; decide) dX2_isSlot_14))
  · rw [if_neg hc1] at h
    refine hz_iload_n hO dX2_isSlot_4 rfl 0 rfl ?_
    refine hz_iconst (v := (2 : Int32)) hO dX2_isSlot_5 (by decide) ?_
    refine hz_icmp_ge (tgt := 13) hO dX2_isSlot_6 (by decide) (fun hc2 => ?_) (fun hc2 => ?_)
    · rw [if_pos hc2] at h
      refine hz_iconst (v := (0 : Int32)) hO dX2_isSlot_13 (by decide) ?_
      exact hz_nameM (hz_some_e h).2.symm (hz_name (hz_some_e h).1.symm (hz_zret hO (by rw [← (hz_some_e h).1]; decide) dX2_isSlot_14))
    · rw [if_neg hc2] at h
      refine hz_iconst (v := (1 : Int32)) hO dX2_isSlot_9 (by decide) ?_
      refine hz_goto (tgt := 14) hO dX2_isSlot_10 (by decide) ?_
      exact hz_nameM (hz_some_e h).2.symm (hz_name (hz_some_e h).1.symm (hz_zret hO (by rw [← (hz_some_e h).1]; decide) dX2_isSlot_14))
def f_X6_clear (M : hz_M) : hz_O :=
  hz_lm (hz_set M 27 6 (0 : Int32)) fun M1 =>
  hz_lm (hz_set M1 27 7 (0 : Int32)) fun M2 =>
  hz_lm (hz_set M2 27 8 (0 : Int32)) fun M3 =>
  some (0, M3)
set_option maxRecDepth 100000 in
set_option maxHeartbeats 4000000 in
theorem c_X6_clear (l : Launch) (w : hz_C) {N : Nat} (hN : 178 ≤ N) {M : hz_M} {rE : Int32} {ME : hz_M} (h : f_X6_clear M = some (rE, ME)) : hz_Ct l yX6_clear cX6_clear 1 none 0 w N [.ref (hz_ad w 27)] M (hz_Qv w N ME) := by
  refine hz_ofW (by decide) rfl (Nat.le_of_ble_eq_true rfl) tw_3_112 ?_
  intro p e s m args below meth c hO
  show hz_G p l e 0 hz_z0 s m args below meth c w N 1 _ M 0 [(0, .ref (hz_ad w 27))] []
  unfold f_X6_clear at h
  refine hz_aload_n hO dX6_clear_0 rfl 0 rfl ?_
  refine hz_iconst (v := (0 : Int32)) hO dX6_clear_1 (by decide) ?_
  obtain ⟨M1, h_M1, h⟩ := hz_lm_e h
  refine hz_putI (k := 6) (ty := .int) hO hz_K_4 tyX6_ok nmX6 hz_sh_27 (hz_lt_27 hN) rfl (Nat.le_of_ble_eq_true rfl) tw_2_57 rfl rfl rfl rfl rfl dX6_clear_2 ?_
  refine hz_nameM h_M1 ?_
  refine hz_aload_n hO dX6_clear_5 rfl 0 rfl ?_
  refine hz_iconst (v := (0 : Int32)) hO dX6_clear_6 (by decide) ?_
  obtain ⟨M2, h_M2, h⟩ := hz_lm_e h
  refine hz_putI (k := 7) (ty := .int) hO hz_K_4 tyX6_ok nmX6 hz_sh_27 (hz_lt_27 hN) rfl (Nat.le_of_ble_eq_true rfl) tw_2_59 rfl rfl rfl rfl rfl dX6_clear_7 ?_
  refine hz_nameM h_M2 ?_
  refine hz_aload_n hO dX6_clear_10 rfl 0 rfl ?_
  refine hz_iconst (v := (0 : Int32)) hO dX6_clear_11 (by decide) ?_
  obtain ⟨M3, h_M3, h⟩ := hz_lm_e h
  refine hz_putI (k := 8) (ty := .boolean) hO hz_K_4 tyX6_ok nmX6 hz_sh_27 (hz_lt_27 hN) rfl (Nat.le_of_ble_eq_true rfl) tw_2_61 rfl rfl rfl rfl rfl dX6_clear_12 ?_
  refine hz_nameM h_M3 ?_
  exact hz_nameM (hz_some_e h).2.symm (hz_vret hO dX6_clear_15)
def f_X9_isDeed (a1 : Int32) (M : hz_M) : hz_O :=
  hz_jn (fun  (M1 : hz_M) =>
    some ((1 : Int32), M1)
    ) fun k2 =>
  if a1 = 0 then
    k2 M
  else
    if a1 = (1 : Int32) then
      k2 M
    else
      hz_ct (f_X3_isStep (a1 - (10 : Int32)) M) fun r5 M6 =>
      if r5 = 0 then
        hz_ct (f_X3_isPeg (a1 - (20 : Int32)) M6) fun r9 M10 =>
        if r9 = 0 then
          hz_ct (f_X3_isPeg (a1 - (40 : Int32)) M10) fun r13 M14 =>
          if r13 = 0 then
            some ((0 : Int32), M14)
          else
            k2 M14
        else
          k2 M10
      else
        k2 M6
set_option maxRecDepth 100000 in
set_option maxHeartbeats 4000000 in
theorem c_X9_isDeed (l : Launch) (w : hz_C) {N : Nat} (hN : 178 ≤ N) (a1 : Int32) {M : hz_M} {rE : Int32} {ME : hz_M} (h : f_X9_isDeed a1 M = some (rE, ME)) : hz_Ct l yX9_isDeed cX9_isDeed 2 (some .boolean) 1 w N [.ref (hz_ad w 25), .int a1] M (hz_Qi w N rE ME) := by
  refine hz_ofW (by decide) rfl (Nat.le_of_ble_eq_true rfl) tw_5_192 ?_
  intro p e s m args below meth c hO
  show hz_G p l e 1 hz_z0 s m args below meth c w N 2 _ M 0 [(0, .ref (hz_ad w 25)), (1, .int a1)] []
  unfold f_X9_isDeed at h
  refine hz_iload_n hO dX9_isDeed_0 rfl 1 rfl ?_
  obtain ⟨k2, hk2, h⟩ := hz_jn_e h
  have gk2 : ∀  (M1 : hz_M), k2 M1 = some (rE, ME) → hz_G p l e 1 hz_z0 s m args below meth c w N 2 (MQ below (hz_Qi w N rE ME) args s 0 0 (hz_A w)) M1 51 [] [] := by
    intro M1 h
    rw [hk2] at h
    dsimp only at h
    refine hz_iconst (v := (1 : Int32)) hO dX9_isDeed_51 (by decide) ?_
    refine hz_goto (tgt := 56) hO dX9_isDeed_52 (by decide) ?_
    exact hz_nameM (hz_some_e h).2.symm (hz_name (hz_some_e h).1.symm (hz_zret hO (by rw [← (hz_some_e h).1]; decide) dX9_isDeed_56))
  clear hk2
  refine hz_if_eq (tgt := 51) hO dX9_isDeed_1 (by decide) (fun hc3 => ?_) (fun hc3 => ?_)
  · rw [if_pos hc3] at h
    exact hz_ls [] rfl (gk2 M h)
  · rw [if_neg hc3] at h
    refine hz_iload_n hO dX9_isDeed_4 rfl 1 rfl ?_
    refine hz_iconst (v := (1 : Int32)) hO dX9_isDeed_5 (by decide) ?_
    refine hz_icmp_eq (tgt := 51) hO dX9_isDeed_6 (by decide) (fun hc4 => ?_) (fun hc4 => ?_)
    · rw [if_pos hc4] at h
      exact hz_ls [] rfl (gk2 M h)
    · rw [if_neg hc4] at h
      refine hz_aload_n hO dX9_isDeed_9 rfl 0 rfl ?_
      refine hz_getR (k := 0) hO 1 hz_K_7 hz_sh_25 (hz_lt_25 hN) rfl (Nat.le_of_ble_eq_true rfl) tw_2_16 rfl dX9_isDeed_10 ?_
      refine hz_iload_n hO dX9_isDeed_13 rfl 1 rfl ?_
      refine hz_bipush (v := (10 : Int32)) hO dX9_isDeed_14 (by decide) ?_
      refine hz_isub hO dX9_isDeed_16 ?_
      obtain ⟨r5, M6, hq7, h⟩ := hz_ct_e h
      refine hz_callVi (as := [.int (a1 - (10 : Int32))]) (rest := []) hO (c_X3_isStep l w hN (a1 - (10 : Int32)) hq7) hz_cal_X3_isStep hz_K_2 hz_sh_1 (hz_lt_1 hN) tw_3_237 (Nat.le_of_ble_eq_true rfl) rfl rfl (Nat.le_of_ble_eq_true rfl) dX9_isDeed_17 ?_
      refine hz_if_ne (tgt := 51) hO dX9_isDeed_20 (by decide) (fun hc8 => ?_) (fun hc8 => ?_)
      · rw [if_neg hc8] at h
        exact hz_ls [] rfl (gk2 M6 h)
      · rw [if_pos hc8] at h
        refine hz_aload_n hO dX9_isDeed_23 rfl 0 rfl ?_
        refine hz_getR (k := 0) hO 1 hz_K_7 hz_sh_25 (hz_lt_25 hN) rfl (Nat.le_of_ble_eq_true rfl) tw_2_16 rfl dX9_isDeed_24 ?_
        refine hz_iload_n hO dX9_isDeed_27 rfl 1 rfl ?_
        refine hz_bipush (v := (20 : Int32)) hO dX9_isDeed_28 (by decide) ?_
        refine hz_isub hO dX9_isDeed_30 ?_
        obtain ⟨r9, M10, hq11, h⟩ := hz_ct_e h
        refine hz_callVi (as := [.int (a1 - (20 : Int32))]) (rest := []) hO (c_X3_isPeg l w hN (a1 - (20 : Int32)) hq11) hz_cal_X3_isPeg hz_K_2 hz_sh_1 (hz_lt_1 hN) tw_4_9 (Nat.le_of_ble_eq_true rfl) rfl rfl (Nat.le_of_ble_eq_true rfl) dX9_isDeed_31 ?_
        refine hz_if_ne (tgt := 51) hO dX9_isDeed_34 (by decide) (fun hc12 => ?_) (fun hc12 => ?_)
        · rw [if_neg hc12] at h
          exact hz_ls [] rfl (gk2 M10 h)
        · rw [if_pos hc12] at h
          refine hz_aload_n hO dX9_isDeed_37 rfl 0 rfl ?_
          refine hz_getR (k := 0) hO 1 hz_K_7 hz_sh_25 (hz_lt_25 hN) rfl (Nat.le_of_ble_eq_true rfl) tw_2_16 rfl dX9_isDeed_38 ?_
          refine hz_iload_n hO dX9_isDeed_41 rfl 1 rfl ?_
          refine hz_bipush (v := (40 : Int32)) hO dX9_isDeed_42 (by decide) ?_
          refine hz_isub hO dX9_isDeed_44 ?_
          obtain ⟨r13, M14, hq15, h⟩ := hz_ct_e h
          refine hz_callVi (as := [.int (a1 - (40 : Int32))]) (rest := []) hO (c_X3_isPeg l w hN (a1 - (40 : Int32)) hq15) hz_cal_X3_isPeg hz_K_2 hz_sh_1 (hz_lt_1 hN) tw_4_9 (Nat.le_of_ble_eq_true rfl) rfl rfl (Nat.le_of_ble_eq_true rfl) dX9_isDeed_45 ?_
          refine hz_if_eq (tgt := 55) hO dX9_isDeed_48 (by decide) (fun hc16 => ?_) (fun hc16 => ?_)
          · rw [if_pos hc16] at h
            refine hz_iconst (v := (0 : Int32)) hO dX9_isDeed_55 (by decide) ?_
            exact hz_nameM (hz_some_e h).2.symm (hz_name (hz_some_e h).1.symm (hz_zret hO (by rw [← (hz_some_e h).1]; decide) dX9_isDeed_56))
          · rw [if_neg hc16] at h
            exact hz_ls [] rfl (gk2 M14 h)
def f_X9_reasonToStayOut (a1 : Int32) (M : hz_M) : hz_O :=
  hz_gd (hz_in a1 16) <|
  if (M 13 (Int32.toNatClampNeg a1)) = (-1 : Int32) then
    hz_gd (hz_in a1 16) <|
    hz_ct (f_X7_day M) fun r4 M5 =>
    if (M 18 (Int32.toNatClampNeg a1)) = r4 then
      some ((2 : Int32), M5)
    else
      hz_ct (f_X7_freeLocker M5) fun r8 M9 =>
      if r8 = (-1 : Int32) then
        some ((3 : Int32), M9)
      else
        hz_ct (f_X7_driestOnPegs M9) fun r12 M13 =>
        if r12 = (-1 : Int32) then
          some ((4 : Int32), M13)
        else
          some ((0 : Int32), M13)
  else
    some ((1 : Int32), M)
set_option maxRecDepth 100000 in
set_option maxHeartbeats 4000000 in
theorem c_X9_reasonToStayOut (l : Launch) (w : hz_C) {N : Nat} (hN : 178 ≤ N) (a1 : Int32) {M : hz_M} {rE : Int32} {ME : hz_M} (h : f_X9_reasonToStayOut a1 M = some (rE, ME)) : hz_Ct l yX9_reasonToStayOut cX9_reasonToStayOut 2 (some .int) 1 w N [.ref (hz_ad w 25), .int a1] M (hz_Qi w N rE ME) := by
  refine hz_ofW (by decide) rfl (Nat.le_of_ble_eq_true rfl) tw_3_224 ?_
  intro p e s m args below meth c hO
  show hz_G p l e 1 hz_z0 s m args below meth c w N 2 _ M 0 [(0, .ref (hz_ad w 25)), (1, .int a1)] []
  unfold f_X9_reasonToStayOut at h
  refine hz_aload_n hO dX9_reasonToStayOut_0 rfl 0 rfl ?_
  refine hz_getR (k := 1) hO 11 hz_K_7 hz_sh_25 (hz_lt_25 hN) rfl (Nat.le_of_ble_eq_true rfl) tw_2_17 rfl dX9_reasonToStayOut_1 ?_
  refine hz_getR (k := 2) hO 13 hz_K_5 hz_sh_11 (hz_lt_11 hN) rfl (Nat.le_of_ble_eq_true rfl) tw_1_156 rfl dX9_reasonToStayOut_4 ?_
  refine hz_iload_n hO dX9_reasonToStayOut_7 rfl 1 rfl ?_
  obtain ⟨hg1, h⟩ := hz_gd_e h
  refine hz_iald hO hz_sh_13 (hz_lt_13 hN) hg1 dX9_reasonToStayOut_8 ?_
  refine hz_iconst (v := (-1 : Int32)) hO dX9_reasonToStayOut_9 (by decide) ?_
  refine hz_icmp_eq (tgt := 15) hO dX9_reasonToStayOut_10 (by decide) (fun hc2 => ?_) (fun hc2 => ?_)
  · rw [if_pos hc2] at h
    refine hz_aload_n hO dX9_reasonToStayOut_15 rfl 0 rfl ?_
    refine hz_getR (k := 1) hO 11 hz_K_7 hz_sh_25 (hz_lt_25 hN) rfl (Nat.le_of_ble_eq_true rfl) tw_2_17 rfl dX9_reasonToStayOut_16 ?_
    refine hz_getR (k := 7) hO 18 hz_K_5 hz_sh_11 (hz_lt_11 hN) rfl (Nat.le_of_ble_eq_true rfl) tw_1_174 rfl dX9_reasonToStayOut_19 ?_
    refine hz_iload_n hO dX9_reasonToStayOut_22 rfl 1 rfl ?_
    obtain ⟨hg3, h⟩ := hz_gd_e h
    refine hz_iald hO hz_sh_18 (hz_lt_18 hN) hg3 dX9_reasonToStayOut_23 ?_
    refine hz_aload_n hO dX9_reasonToStayOut_24 rfl 0 rfl ?_
    refine hz_getR (k := 1) hO 11 hz_K_7 hz_sh_25 (hz_lt_25 hN) rfl (Nat.le_of_ble_eq_true rfl) tw_2_17 rfl dX9_reasonToStayOut_25 ?_
    obtain ⟨r4, M5, hq6, h⟩ := hz_ct_e h
    refine hz_callVi (as := []) (rest := [.int (M 18 (Int32.toNatClampNeg a1))]) hO (c_X7_day l w hN hq6) hz_cal_X7_day hz_K_5 hz_sh_11 (hz_lt_11 hN) tw_3_225 (Nat.le_of_ble_eq_true rfl) rfl rfl (Nat.le_of_ble_eq_true rfl) dX9_reasonToStayOut_28 ?_
    refine hz_icmp_ne (tgt := 36) hO dX9_reasonToStayOut_31 (by decide) (fun hc7 => ?_) (fun hc7 => ?_)
    · rw [if_neg hc7] at h
      refine hz_aload_n hO dX9_reasonToStayOut_36 rfl 0 rfl ?_
      refine hz_getR (k := 1) hO 11 hz_K_7 hz_sh_25 (hz_lt_25 hN) rfl (Nat.le_of_ble_eq_true rfl) tw_2_17 rfl dX9_reasonToStayOut_37 ?_
      obtain ⟨r8, M9, hq10, h⟩ := hz_ct_e h
      refine hz_callVi (as := []) (rest := []) hO (c_X7_freeLocker l w hN hq10) hz_cal_X7_freeLocker hz_K_5 hz_sh_11 (hz_lt_11 hN) tw_3_229 (Nat.le_of_ble_eq_true rfl) rfl rfl (Nat.le_of_ble_eq_true rfl) dX9_reasonToStayOut_40 ?_
      refine hz_iconst (v := (-1 : Int32)) hO dX9_reasonToStayOut_43 (by decide) ?_
      refine hz_icmp_ne (tgt := 49) hO dX9_reasonToStayOut_44 (by decide) (fun hc11 => ?_) (fun hc11 => ?_)
      · rw [if_neg hc11] at h
        refine hz_aload_n hO dX9_reasonToStayOut_49 rfl 0 rfl ?_
        refine hz_getR (k := 1) hO 11 hz_K_7 hz_sh_25 (hz_lt_25 hN) rfl (Nat.le_of_ble_eq_true rfl) tw_2_17 rfl dX9_reasonToStayOut_50 ?_
        obtain ⟨r12, M13, hq14, h⟩ := hz_ct_e h
        refine hz_callVi (as := []) (rest := []) hO (c_X7_driestOnPegs l w hN hq14) hz_cal_X7_driestOnPegs hz_K_5 hz_sh_11 (hz_lt_11 hN) tw_3_233 (Nat.le_of_ble_eq_true rfl) rfl rfl (Nat.le_of_ble_eq_true rfl) dX9_reasonToStayOut_53 ?_
        refine hz_iconst (v := (-1 : Int32)) hO dX9_reasonToStayOut_56 (by decide) ?_
        refine hz_icmp_ne (tgt := 64) hO dX9_reasonToStayOut_57 (by decide) (fun hc15 => ?_) (fun hc15 => ?_)
        · rw [if_neg hc15] at h
          refine hz_iconst (v := (0 : Int32)) hO dX9_reasonToStayOut_64 (by decide) ?_
          exact hz_nameM (hz_some_e h).2.symm (hz_name (hz_some_e h).1.symm (hz_iret hO dX9_reasonToStayOut_65))
        · rw [if_pos hc15] at h
          refine hz_iconst (v := (4 : Int32)) hO dX9_reasonToStayOut_60 (by decide) ?_
          refine hz_goto (tgt := 65) hO dX9_reasonToStayOut_61 (by decide) ?_
          exact hz_nameM (hz_some_e h).2.symm (hz_name (hz_some_e h).1.symm (hz_iret hO dX9_reasonToStayOut_65))
      · rw [if_pos hc11] at h
        refine hz_iconst (v := (3 : Int32)) hO dX9_reasonToStayOut_47 (by decide) ?_
        exact hz_nameM (hz_some_e h).2.symm (hz_name (hz_some_e h).1.symm (hz_iret hO dX9_reasonToStayOut_48))
    · rw [if_pos hc7] at h
      refine hz_iconst (v := (2 : Int32)) hO dX9_reasonToStayOut_34 (by decide) ?_
      exact hz_nameM (hz_some_e h).2.symm (hz_name (hz_some_e h).1.symm (hz_iret hO dX9_reasonToStayOut_35))
  · rw [if_neg hc2] at h
    refine hz_iconst (v := (1 : Int32)) hO dX9_reasonToStayOut_13 (by decide) ?_
    exact hz_nameM (hz_some_e h).2.symm (hz_name (hz_some_e h).1.symm (hz_iret hO dX9_reasonToStayOut_14))
def f_X9_reasonNotToSit (a1 : Int32) (a2 : Int32) (M : hz_M) : hz_O :=
  hz_gd (hz_in a1 16) <|
  if (M 15 (Int32.toNatClampNeg a1)) = (-1 : Int32) then
    some ((6 : Int32), M)
  else
    hz_gd (hz_in a1 16) <|
    hz_ct (f_X3_ageFor a2 M) fun r4 M5 =>
    if r4 ≤ (M 2 (Int32.toNatClampNeg a1)) then
      hz_ct (f_X7_guestsAt a2 M5) fun r8 M9 =>
      hz_gd (hz_in a1 16) <|
      hz_jn (fun (v3_12 : Int32) (M13 : hz_M) =>
        if v3_12 < (M13 11 17) then
          some ((0 : Int32), M13)
        else
          some ((8 : Int32), M13)
        ) fun k15 =>
      if (M9 13 (Int32.toNatClampNeg a1)) = a2 then
        hz_lt (r8 + (-1 : Int32)) fun x17 =>
        k15 x17 M9
      else
        k15 r8 M9
    else
      some ((7 : Int32), M5)
set_option maxRecDepth 100000 in
set_option maxHeartbeats 4000000 in
theorem c_X9_reasonNotToSit (l : Launch) (w : hz_C) {N : Nat} (hN : 178 ≤ N) (a1 : Int32) (a2 : Int32) {M : hz_M} {rE : Int32} {ME : hz_M} (h : f_X9_reasonNotToSit a1 a2 M = some (rE, ME)) : hz_Ct l yX9_reasonNotToSit cX9_reasonNotToSit 4 (some .int) 1 w N [.ref (hz_ad w 25), .int a1, .int a2] M (hz_Qi w N rE ME) := by
  refine hz_ofW (by decide) rfl (Nat.le_of_ble_eq_true rfl) tw_4_1 ?_
  intro p e s m args below meth c hO
  show hz_G p l e 1 hz_z0 s m args below meth c w N 4 _ M 0 [(0, .ref (hz_ad w 25)), (1, .int a1), (2, .int a2)] []
  unfold f_X9_reasonNotToSit at h
  refine hz_aload_n hO dX9_reasonNotToSit_0 rfl 0 rfl ?_
  refine hz_getR (k := 1) hO 11 hz_K_7 hz_sh_25 (hz_lt_25 hN) rfl (Nat.le_of_ble_eq_true rfl) tw_2_17 rfl dX9_reasonNotToSit_1 ?_
  refine hz_getR (k := 4) hO 15 hz_K_5 hz_sh_11 (hz_lt_11 hN) rfl (Nat.le_of_ble_eq_true rfl) tw_1_164 rfl dX9_reasonNotToSit_4 ?_
  refine hz_iload_n hO dX9_reasonNotToSit_7 rfl 1 rfl ?_
  obtain ⟨hg1, h⟩ := hz_gd_e h
  refine hz_iald hO hz_sh_15 (hz_lt_15 hN) hg1 dX9_reasonNotToSit_8 ?_
  refine hz_iconst (v := (-1 : Int32)) hO dX9_reasonNotToSit_9 (by decide) ?_
  refine hz_icmp_ne (tgt := 16) hO dX9_reasonNotToSit_10 (by decide) (fun hc2 => ?_) (fun hc2 => ?_)
  · rw [if_neg hc2] at h
    refine hz_aload_n hO dX9_reasonNotToSit_16 rfl 0 rfl ?_
    refine hz_getR (k := 0) hO 1 hz_K_7 hz_sh_25 (hz_lt_25 hN) rfl (Nat.le_of_ble_eq_true rfl) tw_2_16 rfl dX9_reasonNotToSit_17 ?_
    refine hz_getR (k := 0) hO 2 hz_K_2 hz_sh_1 (hz_lt_1 hN) rfl (Nat.le_of_ble_eq_true rfl) tw_1_43 rfl dX9_reasonNotToSit_20 ?_
    refine hz_iload_n hO dX9_reasonNotToSit_23 rfl 1 rfl ?_
    obtain ⟨hg3, h⟩ := hz_gd_e h
    refine hz_iald hO hz_sh_2 (hz_lt_2 hN) hg3 dX9_reasonNotToSit_24 ?_
    refine hz_iload_n hO dX9_reasonNotToSit_25 rfl 2 rfl ?_
    obtain ⟨r4, M5, hq6, h⟩ := hz_ct_e h
    refine hz_callSi (as := [.int a2]) (rest := [.int (M 2 (Int32.toNatClampNeg a1))]) hO (c_X3_ageFor l w hN a2 hq6) hz_cal_X3_ageFor tw_4_2 (Nat.le_of_ble_eq_true rfl) rfl rfl (Nat.le_of_ble_eq_true rfl) dX9_reasonNotToSit_26 ?_
    refine hz_icmp_ge (tgt := 35) hO dX9_reasonNotToSit_29 (by decide) (fun hc7 => ?_) (fun hc7 => ?_)
    · rw [if_pos hc7] at h
      refine hz_aload_n hO dX9_reasonNotToSit_35 rfl 0 rfl ?_
      refine hz_getR (k := 1) hO 11 hz_K_7 hz_sh_25 (hz_lt_25 hN) rfl (Nat.le_of_ble_eq_true rfl) tw_2_17 rfl dX9_reasonNotToSit_36 ?_
      refine hz_iload_n hO dX9_reasonNotToSit_39 rfl 2 rfl ?_
      obtain ⟨r8, M9, hq10, h⟩ := hz_ct_e h
      refine hz_callVi (as := [.int a2]) (rest := []) hO (c_X7_guestsAt l w hN a2 hq10) hz_cal_X7_guestsAt hz_K_5 hz_sh_11 (hz_lt_11 hN) tw_4_5 (Nat.le_of_ble_eq_true rfl) rfl rfl (Nat.le_of_ble_eq_true rfl) dX9_reasonNotToSit_40 ?_
      refine hz_istore_n (ls1 := [(3, .int r8), (0, .ref (hz_ad w 25)), (1, .int a1), (2, .int a2)]) hO dX9_reasonNotToSit_43 rfl (Nat.le_of_ble_eq_true rfl) rfl ?_
      refine hz_aload_n hO dX9_reasonNotToSit_44 rfl 1 rfl ?_
      refine hz_getR (k := 1) hO 11 hz_K_7 hz_sh_25 (hz_lt_25 hN) rfl (Nat.le_of_ble_eq_true rfl) tw_2_17 rfl dX9_reasonNotToSit_45 ?_
      refine hz_getR (k := 2) hO 13 hz_K_5 hz_sh_11 (hz_lt_11 hN) rfl (Nat.le_of_ble_eq_true rfl) tw_1_156 rfl dX9_reasonNotToSit_48 ?_
      refine hz_iload_n hO dX9_reasonNotToSit_51 rfl 2 rfl ?_
      obtain ⟨hg11, h⟩ := hz_gd_e h
      refine hz_iald hO hz_sh_13 (hz_lt_13 hN) hg11 dX9_reasonNotToSit_52 ?_
      refine hz_iload_n hO dX9_reasonNotToSit_53 rfl 3 rfl ?_
      obtain ⟨k15, hk15, h⟩ := hz_jn_e h
      have gk15 : ∀ (v3_12 : Int32) (M13 : hz_M), k15 v3_12 M13 = some (rE, ME) → hz_G p l e 1 hz_z0 s m args below meth c w N 4 (MQ below (hz_Qi w N rE ME) args s 0 0 (hz_A w)) M13 60 [(0, .ref (hz_ad w 25)), (3, .int v3_12)] [] := by
        intro v3_12 M13 h
        rw [hk15] at h
        dsimp only at h
        refine hz_iload_n hO dX9_reasonNotToSit_60 rfl 1 rfl ?_
        refine hz_aload_n hO dX9_reasonNotToSit_61 rfl 0 rfl ?_
        refine hz_getR (k := 1) hO 11 hz_K_7 hz_sh_25 (hz_lt_25 hN) rfl (Nat.le_of_ble_eq_true rfl) tw_2_17 rfl dX9_reasonNotToSit_62 ?_
        refine hz_getI (k := 17) hO hz_K_5 hz_sh_11 (hz_lt_11 hN) rfl (Nat.le_of_ble_eq_true rfl) tw_1_203 rfl dX9_reasonNotToSit_65 ?_
        refine hz_icmp_lt (tgt := 76) hO dX9_reasonNotToSit_68 (by decide) (fun hc14 => ?_) (fun hc14 => ?_)
        · rw [if_pos hc14] at h
          refine hz_iconst (v := (0 : Int32)) hO dX9_reasonNotToSit_76 (by decide) ?_
          exact hz_nameM (hz_some_e h).2.symm (hz_name (hz_some_e h).1.symm (hz_iret hO dX9_reasonNotToSit_77))
        · rw [if_neg hc14] at h
          refine hz_bipush (v := (8 : Int32)) hO dX9_reasonNotToSit_71 (by decide) ?_
          refine hz_goto (tgt := 77) hO dX9_reasonNotToSit_73 (by decide) ?_
          exact hz_nameM (hz_some_e h).2.symm (hz_name (hz_some_e h).1.symm (hz_iret hO dX9_reasonNotToSit_77))
      clear hk15
      refine hz_icmp_ne (tgt := 60) hO dX9_reasonNotToSit_54 (by decide) (fun hc16 => ?_) (fun hc16 => ?_)
      · rw [if_neg hc16] at h
        exact hz_ls [1, 0] rfl (gk15 r8 M9 h)
      · rw [if_pos hc16] at h
        obtain ⟨x17, h_x17, h⟩ := hz_lt_e h
        refine hz_iinc (k := 0) (v := x17) (ls1 := [(3, .int x17), (0, .ref (hz_ad w 25)), (1, .int a1), (2, .int a2)]) hO dX9_reasonNotToSit_57 rfl (by rw [h_x17]; rfl) (Nat.le_of_ble_eq_true rfl) rfl ?_
        exact hz_ls [1, 0] rfl (gk15 x17 M9 h)
    · rw [if_neg hc7] at h
      refine hz_bipush (v := (7 : Int32)) hO dX9_reasonNotToSit_32 (by decide) ?_
      exact hz_nameM (hz_some_e h).2.symm (hz_name (hz_some_e h).1.symm (hz_iret hO dX9_reasonNotToSit_34))
  · rw [if_pos hc2] at h
    refine hz_bipush (v := (6 : Int32)) hO dX9_reasonNotToSit_13 (by decide) ?_
    exact hz_nameM (hz_some_e h).2.symm (hz_name (hz_some_e h).1.symm (hz_iret hO dX9_reasonNotToSit_15))
def f_X9_reasonNotToHang (a1 : Int32) (a2 : Int32) (M : hz_M) : hz_O :=
  hz_gd (hz_in a1 16) <|
  if (M 15 (Int32.toNatClampNeg a1)) = (-1 : Int32) then
    some ((6 : Int32), M)
  else
    hz_gd (hz_in a2 16) <|
    if (M 23 (Int32.toNatClampNeg a2)) = (-1 : Int32) then
      some ((0 : Int32), M)
    else
      some ((10 : Int32), M)
set_option maxRecDepth 100000 in
set_option maxHeartbeats 4000000 in
theorem c_X9_reasonNotToHang (l : Launch) (w : hz_C) {N : Nat} (hN : 178 ≤ N) (a1 : Int32) (a2 : Int32) {M : hz_M} {rE : Int32} {ME : hz_M} (h : f_X9_reasonNotToHang a1 a2 M = some (rE, ME)) : hz_Ct l yX9_reasonNotToHang cX9_reasonNotToHang 3 (some .int) 0 w N [.ref (hz_ad w 25), .int a1, .int a2] M (hz_Qi w N rE ME) := by
  refine hz_ofW (by decide) rfl (Nat.le_of_ble_eq_true rfl) tw_4_13 ?_
  intro p e s m args below meth c hO
  show hz_G p l e 0 hz_z0 s m args below meth c w N 3 _ M 0 [(0, .ref (hz_ad w 25)), (1, .int a1), (2, .int a2)] []
  unfold f_X9_reasonNotToHang at h
  refine hz_aload_n hO dX9_reasonNotToHang_0 rfl 0 rfl ?_
  refine hz_getR (k := 1) hO 11 hz_K_7 hz_sh_25 (hz_lt_25 hN) rfl (Nat.le_of_ble_eq_true rfl) tw_2_17 rfl dX9_reasonNotToHang_1 ?_
  refine hz_getR (k := 4) hO 15 hz_K_5 hz_sh_11 (hz_lt_11 hN) rfl (Nat.le_of_ble_eq_true rfl) tw_1_164 rfl dX9_reasonNotToHang_4 ?_
  refine hz_iload_n hO dX9_reasonNotToHang_7 rfl 1 rfl ?_
  obtain ⟨hg1, h⟩ := hz_gd_e h
  refine hz_iald hO hz_sh_15 (hz_lt_15 hN) hg1 dX9_reasonNotToHang_8 ?_
  refine hz_iconst (v := (-1 : Int32)) hO dX9_reasonNotToHang_9 (by decide) ?_
  refine hz_icmp_ne (tgt := 16) hO dX9_reasonNotToHang_10 (by decide) (fun hc2 => ?_) (fun hc2 => ?_)
  · rw [if_neg hc2] at h
    refine hz_aload_n hO dX9_reasonNotToHang_16 rfl 0 rfl ?_
    refine hz_getR (k := 1) hO 11 hz_K_7 hz_sh_25 (hz_lt_25 hN) rfl (Nat.le_of_ble_eq_true rfl) tw_2_17 rfl dX9_reasonNotToHang_17 ?_
    refine hz_getR (k := 12) hO 23 hz_K_5 hz_sh_11 (hz_lt_11 hN) rfl (Nat.le_of_ble_eq_true rfl) tw_1_190 rfl dX9_reasonNotToHang_20 ?_
    refine hz_iload_n hO dX9_reasonNotToHang_23 rfl 2 rfl ?_
    obtain ⟨hg3, h⟩ := hz_gd_e h
    refine hz_iald hO hz_sh_23 (hz_lt_23 hN) hg3 dX9_reasonNotToHang_24 ?_
    refine hz_iconst (v := (-1 : Int32)) hO dX9_reasonNotToHang_25 (by decide) ?_
    refine hz_icmp_eq (tgt := 34) hO dX9_reasonNotToHang_26 (by decide) (fun hc4 => ?_) (fun hc4 => ?_)
    · rw [if_pos hc4] at h
      refine hz_iconst (v := (0 : Int32)) hO dX9_reasonNotToHang_34 (by decide) ?_
      exact hz_nameM (hz_some_e h).2.symm (hz_name (hz_some_e h).1.symm (hz_iret hO dX9_reasonNotToHang_35))
    · rw [if_neg hc4] at h
      refine hz_bipush (v := (10 : Int32)) hO dX9_reasonNotToHang_29 (by decide) ?_
      refine hz_goto (tgt := 35) hO dX9_reasonNotToHang_31 (by decide) ?_
      exact hz_nameM (hz_some_e h).2.symm (hz_name (hz_some_e h).1.symm (hz_iret hO dX9_reasonNotToHang_35))
  · rw [if_pos hc2] at h
    refine hz_bipush (v := (6 : Int32)) hO dX9_reasonNotToHang_13 (by decide) ?_
    exact hz_nameM (hz_some_e h).2.symm (hz_name (hz_some_e h).1.symm (hz_iret hO dX9_reasonNotToHang_15))
def f_X9_reasonNotToTake (a1 : Int32) (a2 : Int32) (M : hz_M) : hz_O :=
  hz_gd (hz_in a1 16) <|
  if (M 15 (Int32.toNatClampNeg a1)) = (-1 : Int32) then
    hz_gd (hz_in a2 16) <|
    if (M 23 (Int32.toNatClampNeg a2)) = (-1 : Int32) then
      some ((12 : Int32), M)
    else
      some ((0 : Int32), M)
  else
    some ((11 : Int32), M)
set_option maxRecDepth 100000 in
set_option maxHeartbeats 4000000 in
theorem c_X9_reasonNotToTake (l : Launch) (w : hz_C) {N : Nat} (hN : 178 ≤ N) (a1 : Int32) (a2 : Int32) {M : hz_M} {rE : Int32} {ME : hz_M} (h : f_X9_reasonNotToTake a1 a2 M = some (rE, ME)) : hz_Ct l yX9_reasonNotToTake cX9_reasonNotToTake 3 (some .int) 0 w N [.ref (hz_ad w 25), .int a1, .int a2] M (hz_Qi w N rE ME) := by
  refine hz_ofW (by decide) rfl (Nat.le_of_ble_eq_true rfl) tw_4_17 ?_
  intro p e s m args below meth c hO
  show hz_G p l e 0 hz_z0 s m args below meth c w N 3 _ M 0 [(0, .ref (hz_ad w 25)), (1, .int a1), (2, .int a2)] []
  unfold f_X9_reasonNotToTake at h
  refine hz_aload_n hO dX9_reasonNotToTake_0 rfl 0 rfl ?_
  refine hz_getR (k := 1) hO 11 hz_K_7 hz_sh_25 (hz_lt_25 hN) rfl (Nat.le_of_ble_eq_true rfl) tw_2_17 rfl dX9_reasonNotToTake_1 ?_
  refine hz_getR (k := 4) hO 15 hz_K_5 hz_sh_11 (hz_lt_11 hN) rfl (Nat.le_of_ble_eq_true rfl) tw_1_164 rfl dX9_reasonNotToTake_4 ?_
  refine hz_iload_n hO dX9_reasonNotToTake_7 rfl 1 rfl ?_
  obtain ⟨hg1, h⟩ := hz_gd_e h
  refine hz_iald hO hz_sh_15 (hz_lt_15 hN) hg1 dX9_reasonNotToTake_8 ?_
  refine hz_iconst (v := (-1 : Int32)) hO dX9_reasonNotToTake_9 (by decide) ?_
  refine hz_icmp_eq (tgt := 16) hO dX9_reasonNotToTake_10 (by decide) (fun hc2 => ?_) (fun hc2 => ?_)
  · rw [if_pos hc2] at h
    refine hz_aload_n hO dX9_reasonNotToTake_16 rfl 0 rfl ?_
    refine hz_getR (k := 1) hO 11 hz_K_7 hz_sh_25 (hz_lt_25 hN) rfl (Nat.le_of_ble_eq_true rfl) tw_2_17 rfl dX9_reasonNotToTake_17 ?_
    refine hz_getR (k := 12) hO 23 hz_K_5 hz_sh_11 (hz_lt_11 hN) rfl (Nat.le_of_ble_eq_true rfl) tw_1_190 rfl dX9_reasonNotToTake_20 ?_
    refine hz_iload_n hO dX9_reasonNotToTake_23 rfl 2 rfl ?_
    obtain ⟨hg3, h⟩ := hz_gd_e h
    refine hz_iald hO hz_sh_23 (hz_lt_23 hN) hg3 dX9_reasonNotToTake_24 ?_
    refine hz_iconst (v := (-1 : Int32)) hO dX9_reasonNotToTake_25 (by decide) ?_
    refine hz_icmp_ne (tgt := 34) hO dX9_reasonNotToTake_26 (by decide) (fun hc4 => ?_) (fun hc4 => ?_)
    · rw [if_neg hc4] at h
      refine hz_iconst (v := (0 : Int32)) hO dX9_reasonNotToTake_34 (by decide) ?_
      exact hz_nameM (hz_some_e h).2.symm (hz_name (hz_some_e h).1.symm (hz_iret hO dX9_reasonNotToTake_35))
    · rw [if_pos hc4] at h
      refine hz_bipush (v := (12 : Int32)) hO dX9_reasonNotToTake_29 (by decide) ?_
      refine hz_goto (tgt := 35) hO dX9_reasonNotToTake_31 (by decide) ?_
      exact hz_nameM (hz_some_e h).2.symm (hz_name (hz_some_e h).1.symm (hz_iret hO dX9_reasonNotToTake_35))
  · rw [if_neg hc2] at h
    refine hz_bipush (v := (11 : Int32)) hO dX9_reasonNotToTake_13 (by decide) ?_
    exact hz_nameM (hz_some_e h).2.symm (hz_name (hz_some_e h).1.symm (hz_iret hO dX9_reasonNotToTake_15))
def f_X1_letIn (a1 : Int32) (M : hz_M) : hz_O :=
  hz_ct (f_X7_freeLocker M) fun r1 M2 =>
  hz_ct (f_X7_driestOnPegs M2) fun r4 M5 =>
  hz_ct (f_X3_isLocker r1 M5) fun r7 M8 =>
  if r7 = 0 then
    some ((-1 : Int32), M8)
  else
    hz_ct (f_X3_isTowel r4 M8) fun r11 M12 =>
    if r11 = 0 then
      some ((-1 : Int32), M12)
    else
      hz_gd (hz_in r1 12) <|
      hz_lm (hz_set M12 19 (Int32.toNatClampNeg r1) a1) fun M16 =>
      hz_gd (hz_in a1 16) <|
      hz_lm (hz_set M16 14 (Int32.toNatClampNeg a1) r1) fun M18 =>
      hz_ct (f_X7_giveToGuest r4 a1 M18) fun r19 M20 =>
      hz_gd (hz_in a1 16) <|
      hz_lm (hz_set M20 13 (Int32.toNatClampNeg a1) (0 : Int32)) fun M23 =>
      hz_gd (hz_in a1 16) <|
      hz_lm (hz_set M23 16 (Int32.toNatClampNeg a1) (0 : Int32)) fun M25 =>
      hz_lm (hz_set M25 24 (Int32.toNatClampNeg (0 : Int32)) ((M25 24 (Int32.toNatClampNeg (0 : Int32))) + (1 : Int32))) fun M26 =>
      some (r1, M26)
set_option maxRecDepth 100000 in
set_option maxHeartbeats 4000000 in
theorem c_X1_letIn (l : Launch) (w : hz_C) {N : Nat} (hN : 178 ≤ N) (a1 : Int32) {M : hz_M} {rE : Int32} {ME : hz_M} (h : f_X1_letIn a1 M = some (rE, ME)) : hz_Ct l yX1_letIn cX1_letIn 4 (some .int) 2 w N [.ref (hz_ad w 26), .int a1] M (hz_Qi w N rE ME) := by
  refine hz_ofW (by decide) rfl (Nat.le_of_ble_eq_true rfl) tw_4_25 ?_
  intro p e s m args below meth c hO
  show hz_G p l e 2 hz_z0 s m args below meth c w N 4 _ M 0 [(0, .ref (hz_ad w 26)), (1, .int a1)] []
  unfold f_X1_letIn at h
  refine hz_aload_n hO dX1_letIn_0 rfl 0 rfl ?_
  refine hz_getR (k := 1) hO 11 hz_K_0 hz_sh_26 (hz_lt_26 hN) rfl (Nat.le_of_ble_eq_true rfl) tw_2_30 rfl dX1_letIn_1 ?_
  obtain ⟨r1, M2, hq3, h⟩ := hz_ct_e h
  refine hz_callVi (as := []) (rest := []) hO (c_X7_freeLocker l w hN hq3) hz_cal_X7_freeLocker hz_K_5 hz_sh_11 (hz_lt_11 hN) tw_4_26 (Nat.le_of_ble_eq_true rfl) rfl rfl (Nat.le_of_ble_eq_true rfl) dX1_letIn_4 ?_
  refine hz_istore_n (ls1 := [(2, .int r1), (0, .ref (hz_ad w 26)), (1, .int a1)]) hO dX1_letIn_7 rfl (Nat.le_of_ble_eq_true rfl) rfl ?_
  refine hz_aload_n hO dX1_letIn_8 rfl 1 rfl ?_
  refine hz_getR (k := 1) hO 11 hz_K_0 hz_sh_26 (hz_lt_26 hN) rfl (Nat.le_of_ble_eq_true rfl) tw_2_30 rfl dX1_letIn_9 ?_
  obtain ⟨r4, M5, hq6, h⟩ := hz_ct_e h
  refine hz_callVi (as := []) (rest := []) hO (c_X7_driestOnPegs l w hN hq6) hz_cal_X7_driestOnPegs hz_K_5 hz_sh_11 (hz_lt_11 hN) tw_4_27 (Nat.le_of_ble_eq_true rfl) rfl rfl (Nat.le_of_ble_eq_true rfl) dX1_letIn_12 ?_
  refine hz_istore_n (ls1 := [(3, .int r4), (2, .int r1), (0, .ref (hz_ad w 26)), (1, .int a1)]) hO dX1_letIn_15 rfl (Nat.le_of_ble_eq_true rfl) rfl ?_
  refine hz_aload_n hO dX1_letIn_16 rfl 2 rfl ?_
  refine hz_getR (k := 0) hO 1 hz_K_0 hz_sh_26 (hz_lt_26 hN) rfl (Nat.le_of_ble_eq_true rfl) tw_2_29 rfl dX1_letIn_17 ?_
  refine hz_iload_n hO dX1_letIn_20 rfl 1 rfl ?_
  obtain ⟨r7, M8, hq9, h⟩ := hz_ct_e h
  refine hz_callVi (as := [.int r1]) (rest := []) hO (c_X3_isLocker l w hN r1 hq9) hz_cal_X3_isLocker hz_K_2 hz_sh_1 (hz_lt_1 hN) tw_4_28 (Nat.le_of_ble_eq_true rfl) rfl rfl (Nat.le_of_ble_eq_true rfl) dX1_letIn_21 ?_
  refine hz_if_eq (tgt := 38) hO dX1_letIn_24 (by decide) (fun hc10 => ?_) (fun hc10 => ?_)
  · rw [if_pos hc10] at h
    refine hz_iconst (v := (-1 : Int32)) hO dX1_letIn_38 (by decide) ?_
    exact hz_nameM (hz_some_e h).2.symm (hz_name (hz_some_e h).1.symm (hz_iret hO dX1_letIn_39))
  · rw [if_neg hc10] at h
    refine hz_aload_n hO dX1_letIn_27 rfl 2 rfl ?_
    refine hz_getR (k := 0) hO 1 hz_K_0 hz_sh_26 (hz_lt_26 hN) rfl (Nat.le_of_ble_eq_true rfl) tw_2_29 rfl dX1_letIn_28 ?_
    refine hz_iload_n hO dX1_letIn_31 rfl 0 rfl ?_
    obtain ⟨r11, M12, hq13, h⟩ := hz_ct_e h
    refine hz_callVi (as := [.int r4]) (rest := []) hO (c_X3_isTowel l w hN r4 hq13) hz_cal_X3_isTowel hz_K_2 hz_sh_1 (hz_lt_1 hN) tw_4_32 (Nat.le_of_ble_eq_true rfl) rfl rfl (Nat.le_of_ble_eq_true rfl) dX1_letIn_32 ?_
    refine hz_if_ne (tgt := 40) hO dX1_letIn_35 (by decide) (fun hc14 => ?_) (fun hc14 => ?_)
    · rw [if_neg hc14] at h
      refine hz_aload_n hO dX1_letIn_40 rfl 2 rfl ?_
      refine hz_getR (k := 1) hO 11 hz_K_0 hz_sh_26 (hz_lt_26 hN) rfl (Nat.le_of_ble_eq_true rfl) tw_2_30 rfl dX1_letIn_41 ?_
      refine hz_getR (k := 8) hO 19 hz_K_5 hz_sh_11 (hz_lt_11 hN) rfl (Nat.le_of_ble_eq_true rfl) tw_1_178 rfl dX1_letIn_44 ?_
      refine hz_iload_n hO dX1_letIn_47 rfl 1 rfl ?_
      refine hz_iload_n hO dX1_letIn_48 rfl 3 rfl ?_
      obtain ⟨hg15, h⟩ := hz_gd_e h
      obtain ⟨M16, h_M16, h⟩ := hz_lm_e h
      refine hz_iast hO hz_sh_19 (hz_lt_19 hN) hg15 dX1_letIn_49 ?_
      refine hz_nameM h_M16 ?_
      refine hz_aload_n hO dX1_letIn_50 rfl 2 rfl ?_
      refine hz_getR (k := 1) hO 11 hz_K_0 hz_sh_26 (hz_lt_26 hN) rfl (Nat.le_of_ble_eq_true rfl) tw_2_30 rfl dX1_letIn_51 ?_
      refine hz_getR (k := 3) hO 14 hz_K_5 hz_sh_11 (hz_lt_11 hN) rfl (Nat.le_of_ble_eq_true rfl) tw_1_161 rfl dX1_letIn_54 ?_
      refine hz_iload_n hO dX1_letIn_57 rfl 3 rfl ?_
      refine hz_iload_n hO dX1_letIn_58 rfl 1 rfl ?_
      obtain ⟨hg17, h⟩ := hz_gd_e h
      obtain ⟨M18, h_M18, h⟩ := hz_lm_e h
      refine hz_iast hO hz_sh_14 (hz_lt_14 hN) hg17 dX1_letIn_59 ?_
      refine hz_nameM h_M18 ?_
      refine hz_aload_n hO dX1_letIn_60 rfl 2 rfl ?_
      refine hz_getR (k := 1) hO 11 hz_K_0 hz_sh_26 (hz_lt_26 hN) rfl (Nat.le_of_ble_eq_true rfl) tw_2_30 rfl dX1_letIn_61 ?_
      refine hz_iload_n hO dX1_letIn_64 rfl 0 rfl ?_
      refine hz_iload_n hO dX1_letIn_65 rfl 3 rfl ?_
      obtain ⟨r19, M20, hq21, h⟩ := hz_ct_e h
      refine hz_callVv (as := [.int r4, .int a1]) (rest := []) hO (c_X7_giveToGuest l w hN r4 a1 hq21) hz_cal_X7_giveToGuest hz_K_5 hz_sh_11 (hz_lt_11 hN) tw_4_36 (Nat.le_of_ble_eq_true rfl) rfl rfl (Nat.le_of_ble_eq_true rfl) dX1_letIn_66 ?_
      refine hz_aload_n hO dX1_letIn_69 rfl 2 rfl ?_
      refine hz_getR (k := 1) hO 11 hz_K_0 hz_sh_26 (hz_lt_26 hN) rfl (Nat.le_of_ble_eq_true rfl) tw_2_30 rfl dX1_letIn_70 ?_
      refine hz_getR (k := 2) hO 13 hz_K_5 hz_sh_11 (hz_lt_11 hN) rfl (Nat.le_of_ble_eq_true rfl) tw_1_158 rfl dX1_letIn_73 ?_
      refine hz_iload_n hO dX1_letIn_76 rfl 3 rfl ?_
      refine hz_iconst (v := (0 : Int32)) hO dX1_letIn_77 (by decide) ?_
      obtain ⟨hg22, h⟩ := hz_gd_e h
      obtain ⟨M23, h_M23, h⟩ := hz_lm_e h
      refine hz_iast hO hz_sh_13 (hz_lt_13 hN) hg22 dX1_letIn_78 ?_
      refine hz_nameM h_M23 ?_
      refine hz_aload_n hO dX1_letIn_79 rfl 2 rfl ?_
      refine hz_getR (k := 1) hO 11 hz_K_0 hz_sh_26 (hz_lt_26 hN) rfl (Nat.le_of_ble_eq_true rfl) tw_2_30 rfl dX1_letIn_80 ?_
      refine hz_getR (k := 5) hO 16 hz_K_5 hz_sh_11 (hz_lt_11 hN) rfl (Nat.le_of_ble_eq_true rfl) tw_1_168 rfl dX1_letIn_83 ?_
      refine hz_iload_n hO dX1_letIn_86 rfl 3 rfl ?_
      refine hz_iconst (v := (0 : Int32)) hO dX1_letIn_87 (by decide) ?_
      obtain ⟨hg24, h⟩ := hz_gd_e h
      obtain ⟨M25, h_M25, h⟩ := hz_lm_e h
      refine hz_iast hO hz_sh_16 (hz_lt_16 hN) hg24 dX1_letIn_88 ?_
      refine hz_nameM h_M25 ?_
      refine hz_aload_n hO dX1_letIn_89 rfl 2 rfl ?_
      refine hz_getR (k := 1) hO 11 hz_K_0 hz_sh_26 (hz_lt_26 hN) rfl (Nat.le_of_ble_eq_true rfl) tw_2_30 rfl dX1_letIn_90 ?_
      refine hz_getR (k := 13) hO 24 hz_K_5 hz_sh_11 (hz_lt_11 hN) rfl (Nat.le_of_ble_eq_true rfl) tw_1_194 rfl dX1_letIn_93 ?_
      refine hz_iconst (v := (0 : Int32)) hO dX1_letIn_96 (by decide) ?_
      refine hz_dup2 hO dX1_letIn_97 rfl rfl ?_
      refine hz_iald hO hz_sh_24 (hz_lt_24 hN) (by decide) dX1_letIn_98 ?_
      refine hz_iconst (v := (1 : Int32)) hO dX1_letIn_99 (by decide) ?_
      refine hz_iadd hO dX1_letIn_100 ?_
      obtain ⟨M26, h_M26, h⟩ := hz_lm_e h
      refine hz_iast hO hz_sh_24 (hz_lt_24 hN) (by decide) dX1_letIn_101 ?_
      refine hz_nameM h_M26 ?_
      refine hz_iload_n hO dX1_letIn_102 rfl 1 rfl ?_
      exact hz_nameM (hz_some_e h).2.symm (hz_name (hz_some_e h).1.symm (hz_iret hO dX1_letIn_103))
    · rw [if_pos hc14] at h
      refine hz_iconst (v := (-1 : Int32)) hO dX1_letIn_38 (by decide) ?_
      exact hz_nameM (hz_some_e h).2.symm (hz_name (hz_some_e h).1.symm (hz_iret hO dX1_letIn_39))
def f_X1_seat (a1 : Int32) (a2 : Int32) (M : hz_M) : hz_O :=
  hz_gd (hz_in a1 16) <|
  hz_lm (hz_set M 13 (Int32.toNatClampNeg a1) a2) fun M2 =>
  hz_ct (f_X7_temperature a2 M2) fun r3 M4 =>
  some (r3, M4)
set_option maxRecDepth 100000 in
set_option maxHeartbeats 4000000 in
theorem c_X1_seat (l : Launch) (w : hz_C) {N : Nat} (hN : 178 ≤ N) (a1 : Int32) (a2 : Int32) {M : hz_M} {rE : Int32} {ME : hz_M} (h : f_X1_seat a1 a2 M = some (rE, ME)) : hz_Ct l yX1_seat cX1_seat 3 (some .int) 1 w N [.ref (hz_ad w 26), .int a1, .int a2] M (hz_Qi w N rE ME) := by
  refine hz_ofW (by decide) rfl (Nat.le_of_ble_eq_true rfl) tw_4_44 ?_
  intro p e s m args below meth c hO
  show hz_G p l e 1 hz_z0 s m args below meth c w N 3 _ M 0 [(0, .ref (hz_ad w 26)), (1, .int a1), (2, .int a2)] []
  unfold f_X1_seat at h
  refine hz_aload_n hO dX1_seat_0 rfl 0 rfl ?_
  refine hz_getR (k := 1) hO 11 hz_K_0 hz_sh_26 (hz_lt_26 hN) rfl (Nat.le_of_ble_eq_true rfl) tw_2_30 rfl dX1_seat_1 ?_
  refine hz_getR (k := 2) hO 13 hz_K_5 hz_sh_11 (hz_lt_11 hN) rfl (Nat.le_of_ble_eq_true rfl) tw_1_158 rfl dX1_seat_4 ?_
  refine hz_iload_n hO dX1_seat_7 rfl 1 rfl ?_
  refine hz_iload_n hO dX1_seat_8 rfl 2 rfl ?_
  obtain ⟨hg1, h⟩ := hz_gd_e h
  obtain ⟨M2, h_M2, h⟩ := hz_lm_e h
  refine hz_iast hO hz_sh_13 (hz_lt_13 hN) hg1 dX1_seat_9 ?_
  refine hz_nameM h_M2 ?_
  refine hz_aload_n hO dX1_seat_10 rfl 0 rfl ?_
  refine hz_getR (k := 1) hO 11 hz_K_0 hz_sh_26 (hz_lt_26 hN) rfl (Nat.le_of_ble_eq_true rfl) tw_2_30 rfl dX1_seat_11 ?_
  refine hz_iload_n hO dX1_seat_14 rfl 2 rfl ?_
  obtain ⟨r3, M4, hq5, h⟩ := hz_ct_e h
  refine hz_callVi (as := [.int a2]) (rest := []) hO (c_X7_temperature l w hN a2 hq5) hz_cal_X7_temperature hz_K_5 hz_sh_11 (hz_lt_11 hN) tw_4_45 (Nat.le_of_ble_eq_true rfl) rfl rfl (Nat.le_of_ble_eq_true rfl) dX1_seat_15 ?_
  exact hz_nameM (hz_some_e h).2.symm (hz_name (hz_some_e h).1.symm (hz_iret hO dX1_seat_18))
def f_X1_hangUp (a1 : Int32) (a2 : Int32) (M : hz_M) : hz_O :=
  hz_gd (hz_in a1 16) <|
  hz_lt ((M 15 (Int32.toNatClampNeg a1))) fun x2 =>
  hz_ct (f_X3_isTowel x2 M) fun r3 M4 =>
  if r3 = 0 then
    some ((-1 : Int32), M4)
  else
    hz_ct (f_X7_putOnPeg x2 a2 M4) fun r7 M8 =>
    hz_gd (hz_in a1 16) <|
    hz_lm (hz_set M8 15 (Int32.toNatClampNeg a1) (-1 : Int32)) fun M11 =>
    some (x2, M11)
set_option maxRecDepth 100000 in
set_option maxHeartbeats 4000000 in
theorem c_X1_hangUp (l : Launch) (w : hz_C) {N : Nat} (hN : 178 ≤ N) (a1 : Int32) (a2 : Int32) {M : hz_M} {rE : Int32} {ME : hz_M} (h : f_X1_hangUp a1 a2 M = some (rE, ME)) : hz_Ct l yX1_hangUp cX1_hangUp 4 (some .int) 1 w N [.ref (hz_ad w 26), .int a1, .int a2] M (hz_Qi w N rE ME) := by
  refine hz_ofW (by decide) rfl (Nat.le_of_ble_eq_true rfl) tw_4_56 ?_
  intro p e s m args below meth c hO
  show hz_G p l e 1 hz_z0 s m args below meth c w N 4 _ M 0 [(0, .ref (hz_ad w 26)), (1, .int a1), (2, .int a2)] []
  unfold f_X1_hangUp at h
  refine hz_aload_n hO dX1_hangUp_0 rfl 0 rfl ?_
  refine hz_getR (k := 1) hO 11 hz_K_0 hz_sh_26 (hz_lt_26 hN) rfl (Nat.le_of_ble_eq_true rfl) tw_2_30 rfl dX1_hangUp_1 ?_
  refine hz_getR (k := 4) hO 15 hz_K_5 hz_sh_11 (hz_lt_11 hN) rfl (Nat.le_of_ble_eq_true rfl) tw_1_166 rfl dX1_hangUp_4 ?_
  refine hz_iload_n hO dX1_hangUp_7 rfl 1 rfl ?_
  obtain ⟨hg1, h⟩ := hz_gd_e h
  refine hz_iald hO hz_sh_15 (hz_lt_15 hN) hg1 dX1_hangUp_8 ?_
  obtain ⟨x2, h_x2, h⟩ := hz_lt_e h
  refine hz_name h_x2 ?_
  refine hz_istore_n (ls1 := [(3, .int x2), (0, .ref (hz_ad w 26)), (1, .int a1), (2, .int a2)]) hO dX1_hangUp_9 rfl (Nat.le_of_ble_eq_true rfl) rfl ?_
  refine hz_aload_n hO dX1_hangUp_10 rfl 1 rfl ?_
  refine hz_getR (k := 0) hO 1 hz_K_0 hz_sh_26 (hz_lt_26 hN) rfl (Nat.le_of_ble_eq_true rfl) tw_2_29 rfl dX1_hangUp_11 ?_
  refine hz_iload_n hO dX1_hangUp_14 rfl 0 rfl ?_
  obtain ⟨r3, M4, hq5, h⟩ := hz_ct_e h
  refine hz_callVi (as := [.int x2]) (rest := []) hO (c_X3_isTowel l w hN x2 hq5) hz_cal_X3_isTowel hz_K_2 hz_sh_1 (hz_lt_1 hN) tw_4_32 (Nat.le_of_ble_eq_true rfl) rfl rfl (Nat.le_of_ble_eq_true rfl) dX1_hangUp_15 ?_
  refine hz_if_ne (tgt := 23) hO dX1_hangUp_18 (by decide) (fun hc6 => ?_) (fun hc6 => ?_)
  · rw [if_neg hc6] at h
    refine hz_aload_n hO dX1_hangUp_23 rfl 1 rfl ?_
    refine hz_getR (k := 1) hO 11 hz_K_0 hz_sh_26 (hz_lt_26 hN) rfl (Nat.le_of_ble_eq_true rfl) tw_2_30 rfl dX1_hangUp_24 ?_
    refine hz_iload_n hO dX1_hangUp_27 rfl 0 rfl ?_
    refine hz_iload_n hO dX1_hangUp_28 rfl 3 rfl ?_
    obtain ⟨r7, M8, hq9, h⟩ := hz_ct_e h
    refine hz_callVv (as := [.int x2, .int a2]) (rest := []) hO (c_X7_putOnPeg l w hN x2 a2 hq9) hz_cal_X7_putOnPeg hz_K_5 hz_sh_11 (hz_lt_11 hN) tw_4_57 (Nat.le_of_ble_eq_true rfl) rfl rfl (Nat.le_of_ble_eq_true rfl) dX1_hangUp_29 ?_
    refine hz_aload_n hO dX1_hangUp_32 rfl 1 rfl ?_
    refine hz_getR (k := 1) hO 11 hz_K_0 hz_sh_26 (hz_lt_26 hN) rfl (Nat.le_of_ble_eq_true rfl) tw_2_30 rfl dX1_hangUp_33 ?_
    refine hz_getR (k := 4) hO 15 hz_K_5 hz_sh_11 (hz_lt_11 hN) rfl (Nat.le_of_ble_eq_true rfl) tw_1_166 rfl dX1_hangUp_36 ?_
    refine hz_iload_n hO dX1_hangUp_39 rfl 2 rfl ?_
    refine hz_iconst (v := (-1 : Int32)) hO dX1_hangUp_40 (by decide) ?_
    obtain ⟨hg10, h⟩ := hz_gd_e h
    obtain ⟨M11, h_M11, h⟩ := hz_lm_e h
    refine hz_iast hO hz_sh_15 (hz_lt_15 hN) hg10 dX1_hangUp_41 ?_
    refine hz_nameM h_M11 ?_
    refine hz_iload_n hO dX1_hangUp_42 rfl 0 rfl ?_
    exact hz_nameM (hz_some_e h).2.symm (hz_name (hz_some_e h).1.symm (hz_iret hO dX1_hangUp_43))
  · rw [if_pos hc6] at h
    refine hz_iconst (v := (-1 : Int32)) hO dX1_hangUp_21 (by decide) ?_
    exact hz_nameM (hz_some_e h).2.symm (hz_name (hz_some_e h).1.symm (hz_iret hO dX1_hangUp_22))
def f_X1_takeDown (a1 : Int32) (a2 : Int32) (M : hz_M) : hz_O :=
  hz_gd (hz_in a2 16) <|
  hz_lt ((M 23 (Int32.toNatClampNeg a2))) fun x2 =>
  hz_ct (f_X3_isTowel x2 M) fun r3 M4 =>
  if r3 = 0 then
    some ((-1 : Int32), M4)
  else
    hz_ct (f_X7_giveToGuest x2 a1 M4) fun r7 M8 =>
    some (x2, M8)
set_option maxRecDepth 100000 in
set_option maxHeartbeats 4000000 in
theorem c_X1_takeDown (l : Launch) (w : hz_C) {N : Nat} (hN : 178 ≤ N) (a1 : Int32) (a2 : Int32) {M : hz_M} {rE : Int32} {ME : hz_M} (h : f_X1_takeDown a1 a2 M = some (rE, ME)) : hz_Ct l yX1_takeDown cX1_takeDown 4 (some .int) 2 w N [.ref (hz_ad w 26), .int a1, .int a2] M (hz_Qi w N rE ME) := by
  refine hz_ofW (by decide) rfl (Nat.le_of_ble_eq_true rfl) tw_4_61 ?_
  intro p e s m args below meth c hO
  show hz_G p l e 2 hz_z0 s m args below meth c w N 4 _ M 0 [(0, .ref (hz_ad w 26)), (1, .int a1), (2, .int a2)] []
  unfold f_X1_takeDown at h
  refine hz_aload_n hO dX1_takeDown_0 rfl 0 rfl ?_
  refine hz_getR (k := 1) hO 11 hz_K_0 hz_sh_26 (hz_lt_26 hN) rfl (Nat.le_of_ble_eq_true rfl) tw_2_30 rfl dX1_takeDown_1 ?_
  refine hz_getR (k := 12) hO 23 hz_K_5 hz_sh_11 (hz_lt_11 hN) rfl (Nat.le_of_ble_eq_true rfl) tw_1_192 rfl dX1_takeDown_4 ?_
  refine hz_iload_n hO dX1_takeDown_7 rfl 2 rfl ?_
  obtain ⟨hg1, h⟩ := hz_gd_e h
  refine hz_iald hO hz_sh_23 (hz_lt_23 hN) hg1 dX1_takeDown_8 ?_
  obtain ⟨x2, h_x2, h⟩ := hz_lt_e h
  refine hz_name h_x2 ?_
  refine hz_istore_n (ls1 := [(3, .int x2), (0, .ref (hz_ad w 26)), (1, .int a1), (2, .int a2)]) hO dX1_takeDown_9 rfl (Nat.le_of_ble_eq_true rfl) rfl ?_
  refine hz_aload_n hO dX1_takeDown_10 rfl 1 rfl ?_
  refine hz_getR (k := 0) hO 1 hz_K_0 hz_sh_26 (hz_lt_26 hN) rfl (Nat.le_of_ble_eq_true rfl) tw_2_29 rfl dX1_takeDown_11 ?_
  refine hz_iload_n hO dX1_takeDown_14 rfl 0 rfl ?_
  obtain ⟨r3, M4, hq5, h⟩ := hz_ct_e h
  refine hz_callVi (as := [.int x2]) (rest := []) hO (c_X3_isTowel l w hN x2 hq5) hz_cal_X3_isTowel hz_K_2 hz_sh_1 (hz_lt_1 hN) tw_4_32 (Nat.le_of_ble_eq_true rfl) rfl rfl (Nat.le_of_ble_eq_true rfl) dX1_takeDown_15 ?_
  refine hz_if_ne (tgt := 23) hO dX1_takeDown_18 (by decide) (fun hc6 => ?_) (fun hc6 => ?_)
  · rw [if_neg hc6] at h
    refine hz_aload_n hO dX1_takeDown_23 rfl 1 rfl ?_
    refine hz_getR (k := 1) hO 11 hz_K_0 hz_sh_26 (hz_lt_26 hN) rfl (Nat.le_of_ble_eq_true rfl) tw_2_30 rfl dX1_takeDown_24 ?_
    refine hz_iload_n hO dX1_takeDown_27 rfl 0 rfl ?_
    refine hz_iload_n hO dX1_takeDown_28 rfl 2 rfl ?_
    obtain ⟨r7, M8, hq9, h⟩ := hz_ct_e h
    refine hz_callVv (as := [.int x2, .int a1]) (rest := []) hO (c_X7_giveToGuest l w hN x2 a1 hq9) hz_cal_X7_giveToGuest hz_K_5 hz_sh_11 (hz_lt_11 hN) tw_4_36 (Nat.le_of_ble_eq_true rfl) rfl rfl (Nat.le_of_ble_eq_true rfl) dX1_takeDown_29 ?_
    refine hz_iload_n hO dX1_takeDown_32 rfl 0 rfl ?_
    exact hz_nameM (hz_some_e h).2.symm (hz_name (hz_some_e h).1.symm (hz_iret hO dX1_takeDown_33))
  · rw [if_pos hc6] at h
    refine hz_iconst (v := (-1 : Int32)) hO dX1_takeDown_21 (by decide) ?_
    exact hz_nameM (hz_some_e h).2.symm (hz_name (hz_some_e h).1.symm (hz_iret hO dX1_takeDown_22))
def f_X1_letGo (a1 : Int32) (M : hz_M) : hz_O :=
  hz_gd (hz_in a1 16) <|
  hz_lt ((M 14 (Int32.toNatClampNeg a1))) fun x2 =>
  hz_gd (hz_in a1 16) <|
  hz_lt ((M 15 (Int32.toNatClampNeg a1))) fun x4 =>
  hz_ct (f_X3_isLocker x2 M) fun r5 M6 =>
  hz_jn (fun (v1_8 : Int32) (v2_9 : Int32) (v3_10 : Int32) (M11 : hz_M) =>
    hz_ct (f_X3_isTowel v3_10 M11) fun r12 M13 =>
    hz_jn (fun (v1_15 : Int32) (v2_16 : Int32) (M17 : hz_M) =>
      hz_gd (hz_in v1_15 16) <|
      hz_lm (hz_set M17 14 (Int32.toNatClampNeg v1_15) (-1 : Int32)) fun M19 =>
      hz_gd (hz_in v1_15 16) <|
      hz_lm (hz_set M19 15 (Int32.toNatClampNeg v1_15) (-1 : Int32)) fun M21 =>
      hz_gd (hz_in v1_15 16) <|
      hz_lm (hz_set M21 13 (Int32.toNatClampNeg v1_15) (-1 : Int32)) fun M23 =>
      hz_lm (hz_set M23 24 (Int32.toNatClampNeg (1 : Int32)) ((M23 24 (Int32.toNatClampNeg (1 : Int32))) + (1 : Int32))) fun M24 =>
      some (v2_16, M24)
      ) fun k25 =>
    if r12 = 0 then
      k25 v1_8 v2_9 M13
    else
      hz_gd (hz_in v3_10 16) <|
      hz_lm (hz_set M13 22 (Int32.toNatClampNeg v3_10) (-1 : Int32)) fun M28 =>
      k25 v1_8 v2_9 M28
    ) fun k29 =>
  if r5 = 0 then
    k29 a1 x2 x4 M6
  else
    hz_gd (hz_in x2 12) <|
    hz_lm (hz_set M6 19 (Int32.toNatClampNeg x2) (-1 : Int32)) fun M32 =>
    k29 a1 x2 x4 M32
set_option maxRecDepth 100000 in
set_option maxHeartbeats 4000000 in
theorem c_X1_letGo (l : Launch) (w : hz_C) {N : Nat} (hN : 178 ≤ N) (a1 : Int32) {M : hz_M} {rE : Int32} {ME : hz_M} (h : f_X1_letGo a1 M = some (rE, ME)) : hz_Ct l yX1_letGo cX1_letGo 4 (some .int) 1 w N [.ref (hz_ad w 26), .int a1] M (hz_Qi w N rE ME) := by
  refine hz_ofW (by decide) rfl (Nat.le_of_ble_eq_true rfl) tw_4_65 ?_
  intro p e s m args below meth c hO
  show hz_G p l e 1 hz_z0 s m args below meth c w N 4 _ M 0 [(0, .ref (hz_ad w 26)), (1, .int a1)] []
  unfold f_X1_letGo at h
  refine hz_aload_n hO dX1_letGo_0 rfl 0 rfl ?_
  refine hz_getR (k := 1) hO 11 hz_K_0 hz_sh_26 (hz_lt_26 hN) rfl (Nat.le_of_ble_eq_true rfl) tw_2_30 rfl dX1_letGo_1 ?_
  refine hz_getR (k := 3) hO 14 hz_K_5 hz_sh_11 (hz_lt_11 hN) rfl (Nat.le_of_ble_eq_true rfl) tw_1_161 rfl dX1_letGo_4 ?_
  refine hz_iload_n hO dX1_letGo_7 rfl 1 rfl ?_
  obtain ⟨hg1, h⟩ := hz_gd_e h
  refine hz_iald hO hz_sh_14 (hz_lt_14 hN) hg1 dX1_letGo_8 ?_
  obtain ⟨x2, h_x2, h⟩ := hz_lt_e h
  refine hz_name h_x2 ?_
  refine hz_istore_n (ls1 := [(2, .int x2), (0, .ref (hz_ad w 26)), (1, .int a1)]) hO dX1_letGo_9 rfl (Nat.le_of_ble_eq_true rfl) rfl ?_
  refine hz_aload_n hO dX1_letGo_10 rfl 1 rfl ?_
  refine hz_getR (k := 1) hO 11 hz_K_0 hz_sh_26 (hz_lt_26 hN) rfl (Nat.le_of_ble_eq_true rfl) tw_2_30 rfl dX1_letGo_11 ?_
  refine hz_getR (k := 4) hO 15 hz_K_5 hz_sh_11 (hz_lt_11 hN) rfl (Nat.le_of_ble_eq_true rfl) tw_1_166 rfl dX1_letGo_14 ?_
  refine hz_iload_n hO dX1_letGo_17 rfl 2 rfl ?_
  obtain ⟨hg3, h⟩ := hz_gd_e h
  refine hz_iald hO hz_sh_15 (hz_lt_15 hN) hg3 dX1_letGo_18 ?_
  obtain ⟨x4, h_x4, h⟩ := hz_lt_e h
  refine hz_name h_x4 ?_
  refine hz_istore_n (ls1 := [(3, .int x4), (2, .int x2), (0, .ref (hz_ad w 26)), (1, .int a1)]) hO dX1_letGo_19 rfl (Nat.le_of_ble_eq_true rfl) rfl ?_
  refine hz_aload_n hO dX1_letGo_20 rfl 2 rfl ?_
  refine hz_getR (k := 0) hO 1 hz_K_0 hz_sh_26 (hz_lt_26 hN) rfl (Nat.le_of_ble_eq_true rfl) tw_2_29 rfl dX1_letGo_21 ?_
  refine hz_iload_n hO dX1_letGo_24 rfl 1 rfl ?_
  obtain ⟨r5, M6, hq7, h⟩ := hz_ct_e h
  refine hz_callVi (as := [.int x2]) (rest := []) hO (c_X3_isLocker l w hN x2 hq7) hz_cal_X3_isLocker hz_K_2 hz_sh_1 (hz_lt_1 hN) tw_4_28 (Nat.le_of_ble_eq_true rfl) rfl rfl (Nat.le_of_ble_eq_true rfl) dX1_letGo_25 ?_
  obtain ⟨k29, hk29, h⟩ := hz_jn_e h
  have gk29 : ∀ (v1_8 : Int32) (v2_9 : Int32) (v3_10 : Int32) (M11 : hz_M), k29 v1_8 v2_9 v3_10 M11 = some (rE, ME) → hz_G p l e 1 hz_z0 s m args below meth c w N 4 (MQ below (hz_Qi w N rE ME) args s 0 0 (hz_A w)) M11 41 [(0, .ref (hz_ad w 26)), (1, .int v1_8), (2, .int v2_9), (3, .int v3_10)] [] := by
    intro v1_8 v2_9 v3_10 M11 h
    rw [hk29] at h
    dsimp only at h
    refine hz_aload_n hO dX1_letGo_41 rfl 0 rfl ?_
    refine hz_getR (k := 0) hO 1 hz_K_0 hz_sh_26 (hz_lt_26 hN) rfl (Nat.le_of_ble_eq_true rfl) tw_2_29 rfl dX1_letGo_42 ?_
    refine hz_iload_n hO dX1_letGo_45 rfl 3 rfl ?_
    obtain ⟨r12, M13, hq14, h⟩ := hz_ct_e h
    refine hz_callVi (as := [.int v3_10]) (rest := []) hO (c_X3_isTowel l w hN v3_10 hq14) hz_cal_X3_isTowel hz_K_2 hz_sh_1 (hz_lt_1 hN) tw_4_32 (Nat.le_of_ble_eq_true rfl) rfl rfl (Nat.le_of_ble_eq_true rfl) dX1_letGo_46 ?_
    obtain ⟨k25, hk25, h⟩ := hz_jn_e h
    have gk25 : ∀ (v1_15 : Int32) (v2_16 : Int32) (M17 : hz_M), k25 v1_15 v2_16 M17 = some (rE, ME) → hz_G p l e 1 hz_z0 s m args below meth c w N 4 (MQ below (hz_Qi w N rE ME) args s 0 0 (hz_A w)) M17 62 [(0, .ref (hz_ad w 26)), (1, .int v1_15), (2, .int v2_16)] [] := by
      intro v1_15 v2_16 M17 h
      rw [hk25] at h
      dsimp only at h
      refine hz_aload_n hO dX1_letGo_62 rfl 0 rfl ?_
      refine hz_getR (k := 1) hO 11 hz_K_0 hz_sh_26 (hz_lt_26 hN) rfl (Nat.le_of_ble_eq_true rfl) tw_2_30 rfl dX1_letGo_63 ?_
      refine hz_getR (k := 3) hO 14 hz_K_5 hz_sh_11 (hz_lt_11 hN) rfl (Nat.le_of_ble_eq_true rfl) tw_1_161 rfl dX1_letGo_66 ?_
      refine hz_iload_n hO dX1_letGo_69 rfl 1 rfl ?_
      refine hz_iconst (v := (-1 : Int32)) hO dX1_letGo_70 (by decide) ?_
      obtain ⟨hg18, h⟩ := hz_gd_e h
      obtain ⟨M19, h_M19, h⟩ := hz_lm_e h
      refine hz_iast hO hz_sh_14 (hz_lt_14 hN) hg18 dX1_letGo_71 ?_
      refine hz_nameM h_M19 ?_
      refine hz_aload_n hO dX1_letGo_72 rfl 0 rfl ?_
      refine hz_getR (k := 1) hO 11 hz_K_0 hz_sh_26 (hz_lt_26 hN) rfl (Nat.le_of_ble_eq_true rfl) tw_2_30 rfl dX1_letGo_73 ?_
      refine hz_getR (k := 4) hO 15 hz_K_5 hz_sh_11 (hz_lt_11 hN) rfl (Nat.le_of_ble_eq_true rfl) tw_1_166 rfl dX1_letGo_76 ?_
      refine hz_iload_n hO dX1_letGo_79 rfl 1 rfl ?_
      refine hz_iconst (v := (-1 : Int32)) hO dX1_letGo_80 (by decide) ?_
      obtain ⟨hg20, h⟩ := hz_gd_e h
      obtain ⟨M21, h_M21, h⟩ := hz_lm_e h
      refine hz_iast hO hz_sh_15 (hz_lt_15 hN) hg20 dX1_letGo_81 ?_
      refine hz_nameM h_M21 ?_
      refine hz_aload_n hO dX1_letGo_82 rfl 0 rfl ?_
      refine hz_getR (k := 1) hO 11 hz_K_0 hz_sh_26 (hz_lt_26 hN) rfl (Nat.le_of_ble_eq_true rfl) tw_2_30 rfl dX1_letGo_83 ?_
      refine hz_getR (k := 2) hO 13 hz_K_5 hz_sh_11 (hz_lt_11 hN) rfl (Nat.le_of_ble_eq_true rfl) tw_1_158 rfl dX1_letGo_86 ?_
      refine hz_iload_n hO dX1_letGo_89 rfl 1 rfl ?_
      refine hz_iconst (v := (-1 : Int32)) hO dX1_letGo_90 (by decide) ?_
      obtain ⟨hg22, h⟩ := hz_gd_e h
      obtain ⟨M23, h_M23, h⟩ := hz_lm_e h
      refine hz_iast hO hz_sh_13 (hz_lt_13 hN) hg22 dX1_letGo_91 ?_
      refine hz_nameM h_M23 ?_
      refine hz_aload_n hO dX1_letGo_92 rfl 0 rfl ?_
      refine hz_getR (k := 1) hO 11 hz_K_0 hz_sh_26 (hz_lt_26 hN) rfl (Nat.le_of_ble_eq_true rfl) tw_2_30 rfl dX1_letGo_93 ?_
      refine hz_getR (k := 13) hO 24 hz_K_5 hz_sh_11 (hz_lt_11 hN) rfl (Nat.le_of_ble_eq_true rfl) tw_1_194 rfl dX1_letGo_96 ?_
      refine hz_iconst (v := (1 : Int32)) hO dX1_letGo_99 (by decide) ?_
      refine hz_dup2 hO dX1_letGo_100 rfl rfl ?_
      refine hz_iald hO hz_sh_24 (hz_lt_24 hN) (by decide) dX1_letGo_101 ?_
      refine hz_iconst (v := (1 : Int32)) hO dX1_letGo_102 (by decide) ?_
      refine hz_iadd hO dX1_letGo_103 ?_
      obtain ⟨M24, h_M24, h⟩ := hz_lm_e h
      refine hz_iast hO hz_sh_24 (hz_lt_24 hN) (by decide) dX1_letGo_104 ?_
      refine hz_nameM h_M24 ?_
      refine hz_iload_n hO dX1_letGo_105 rfl 2 rfl ?_
      exact hz_nameM (hz_some_e h).2.symm (hz_name (hz_some_e h).1.symm (hz_iret hO dX1_letGo_106))
    clear hk25
    refine hz_if_eq (tgt := 62) hO dX1_letGo_49 (by decide) (fun hc26 => ?_) (fun hc26 => ?_)
    · rw [if_pos hc26] at h
      exact hz_ls [0, 1, 2] rfl (gk25 v1_8 v2_9 M13 h)
    · rw [if_neg hc26] at h
      refine hz_aload_n hO dX1_letGo_52 rfl 0 rfl ?_
      refine hz_getR (k := 1) hO 11 hz_K_0 hz_sh_26 (hz_lt_26 hN) rfl (Nat.le_of_ble_eq_true rfl) tw_2_30 rfl dX1_letGo_53 ?_
      refine hz_getR (k := 11) hO 22 hz_K_5 hz_sh_11 (hz_lt_11 hN) rfl (Nat.le_of_ble_eq_true rfl) tw_1_187 rfl dX1_letGo_56 ?_
      refine hz_iload_n hO dX1_letGo_59 rfl 3 rfl ?_
      refine hz_iconst (v := (-1 : Int32)) hO dX1_letGo_60 (by decide) ?_
      obtain ⟨hg27, h⟩ := hz_gd_e h
      obtain ⟨M28, h_M28, h⟩ := hz_lm_e h
      refine hz_iast hO hz_sh_22 (hz_lt_22 hN) hg27 dX1_letGo_61 ?_
      refine hz_nameM h_M28 ?_
      exact hz_ls [0, 1, 2] rfl (gk25 v1_8 v2_9 M28 h)
  clear hk29
  refine hz_if_eq (tgt := 41) hO dX1_letGo_28 (by decide) (fun hc30 => ?_) (fun hc30 => ?_)
  · rw [if_pos hc30] at h
    exact hz_ls [2, 3, 1, 0] rfl (gk29 a1 x2 x4 M6 h)
  · rw [if_neg hc30] at h
    refine hz_aload_n hO dX1_letGo_31 rfl 2 rfl ?_
    refine hz_getR (k := 1) hO 11 hz_K_0 hz_sh_26 (hz_lt_26 hN) rfl (Nat.le_of_ble_eq_true rfl) tw_2_30 rfl dX1_letGo_32 ?_
    refine hz_getR (k := 8) hO 19 hz_K_5 hz_sh_11 (hz_lt_11 hN) rfl (Nat.le_of_ble_eq_true rfl) tw_1_178 rfl dX1_letGo_35 ?_
    refine hz_iload_n hO dX1_letGo_38 rfl 1 rfl ?_
    refine hz_iconst (v := (-1 : Int32)) hO dX1_letGo_39 (by decide) ?_
    obtain ⟨hg31, h⟩ := hz_gd_e h
    obtain ⟨M32, h_M32, h⟩ := hz_lm_e h
    refine hz_iast hO hz_sh_19 (hz_lt_19 hN) hg31 dX1_letGo_40 ?_
    refine hz_nameM h_M32 ?_
    exact hz_ls [2, 3, 1, 0] rfl (gk29 a1 x2 x4 M32 h)
def f_X1_hear (a1 : Int32) (M : hz_M) : hz_O :=
  hz_ct (f_X7_isSilence M) fun r1 M2 =>
  if r1 = 0 then
    hz_gd (hz_in a1 16) <|
    some ((M2 17 (Int32.toNatClampNeg a1)), M2)
  else
    hz_gd (hz_in a1 16) <|
    hz_gd (hz_in a1 16) <|
    hz_lm (hz_set M2 17 (Int32.toNatClampNeg a1) ((M2 17 (Int32.toNatClampNeg a1)) + (1 : Int32))) fun M7 =>
    hz_lm (hz_set M7 24 (Int32.toNatClampNeg (3 : Int32)) ((M7 24 (Int32.toNatClampNeg (3 : Int32))) + (1 : Int32))) fun M8 =>
    hz_gd (hz_in a1 16) <|
    if (3 : Int32) ≤ (M8 17 (Int32.toNatClampNeg a1)) then
      hz_ct (f_X1_letGo a1 M8) fun r11 M12 =>
      hz_gd (hz_in a1 16) <|
      hz_lm (hz_set M12 17 (Int32.toNatClampNeg a1) (0 : Int32)) fun M15 =>
      hz_ct (f_X7_day M15) fun r16 M17 =>
      hz_gd (hz_in a1 16) <|
      hz_lm (hz_set M17 18 (Int32.toNatClampNeg a1) r16) fun M20 =>
      hz_lm (hz_set M20 24 (Int32.toNatClampNeg (2 : Int32)) ((M20 24 (Int32.toNatClampNeg (2 : Int32))) + (1 : Int32))) fun M21 =>
      some ((3 : Int32), M21)
    else
      hz_gd (hz_in a1 16) <|
      some ((M8 17 (Int32.toNatClampNeg a1)), M8)
set_option maxRecDepth 100000 in
set_option maxHeartbeats 4000000 in
theorem c_X1_hear (l : Launch) (w : hz_C) {N : Nat} (hN : 178 ≤ N) (a1 : Int32) {M : hz_M} {rE : Int32} {ME : hz_M} (h : f_X1_hear a1 M = some (rE, ME)) : hz_Ct l yX1_hear cX1_hear 2 (some .int) 2 w N [.ref (hz_ad w 26), .int a1] M (hz_Qi w N rE ME) := by
  refine hz_ofW (by decide) rfl (Nat.le_of_ble_eq_true rfl) tw_4_69 ?_
  intro p e s m args below meth c hO
  show hz_G p l e 2 hz_z0 s m args below meth c w N 2 _ M 0 [(0, .ref (hz_ad w 26)), (1, .int a1)] []
  unfold f_X1_hear at h
  refine hz_aload_n hO dX1_hear_0 rfl 0 rfl ?_
  refine hz_getR (k := 1) hO 11 hz_K_0 hz_sh_26 (hz_lt_26 hN) rfl (Nat.le_of_ble_eq_true rfl) tw_2_30 rfl dX1_hear_1 ?_
  obtain ⟨r1, M2, hq3, h⟩ := hz_ct_e h
  refine hz_callVi (as := []) (rest := []) hO (c_X7_isSilence l w hN hq3) hz_cal_X7_isSilence hz_K_5 hz_sh_11 (hz_lt_11 hN) tw_4_70 (Nat.le_of_ble_eq_true rfl) rfl rfl (Nat.le_of_ble_eq_true rfl) dX1_hear_4 ?_
  refine hz_if_ne (tgt := 20) hO dX1_hear_7 (by decide) (fun hc4 => ?_) (fun hc4 => ?_)
  · rw [if_neg hc4] at h
    refine hz_aload_n hO dX1_hear_20 rfl 0 rfl ?_
    refine hz_getR (k := 1) hO 11 hz_K_0 hz_sh_26 (hz_lt_26 hN) rfl (Nat.le_of_ble_eq_true rfl) tw_2_30 rfl dX1_hear_21 ?_
    refine hz_getR (k := 6) hO 17 hz_K_5 hz_sh_11 (hz_lt_11 hN) rfl (Nat.le_of_ble_eq_true rfl) tw_1_172 rfl dX1_hear_24 ?_
    refine hz_iload_n hO dX1_hear_27 rfl 1 rfl ?_
    refine hz_dup2 hO dX1_hear_28 rfl rfl ?_
    obtain ⟨hg5, h⟩ := hz_gd_e h
    refine hz_iald hO hz_sh_17 (hz_lt_17 hN) hg5 dX1_hear_29 ?_
    refine hz_iconst (v := (1 : Int32)) hO dX1_hear_30 (by decide) ?_
    refine hz_iadd hO dX1_hear_31 ?_
    obtain ⟨hg6, h⟩ := hz_gd_e h
    obtain ⟨M7, h_M7, h⟩ := hz_lm_e h
    refine hz_iast hO hz_sh_17 (hz_lt_17 hN) hg6 dX1_hear_32 ?_
    refine hz_nameM h_M7 ?_
    refine hz_aload_n hO dX1_hear_33 rfl 0 rfl ?_
    refine hz_getR (k := 1) hO 11 hz_K_0 hz_sh_26 (hz_lt_26 hN) rfl (Nat.le_of_ble_eq_true rfl) tw_2_30 rfl dX1_hear_34 ?_
    refine hz_getR (k := 13) hO 24 hz_K_5 hz_sh_11 (hz_lt_11 hN) rfl (Nat.le_of_ble_eq_true rfl) tw_1_194 rfl dX1_hear_37 ?_
    refine hz_iconst (v := (3 : Int32)) hO dX1_hear_40 (by decide) ?_
    refine hz_dup2 hO dX1_hear_41 rfl rfl ?_
    refine hz_iald hO hz_sh_24 (hz_lt_24 hN) (by decide) dX1_hear_42 ?_
    refine hz_iconst (v := (1 : Int32)) hO dX1_hear_43 (by decide) ?_
    refine hz_iadd hO dX1_hear_44 ?_
    obtain ⟨M8, h_M8, h⟩ := hz_lm_e h
    refine hz_iast hO hz_sh_24 (hz_lt_24 hN) (by decide) dX1_hear_45 ?_
    refine hz_nameM h_M8 ?_
    refine hz_aload_n hO dX1_hear_46 rfl 0 rfl ?_
    refine hz_getR (k := 1) hO 11 hz_K_0 hz_sh_26 (hz_lt_26 hN) rfl (Nat.le_of_ble_eq_true rfl) tw_2_30 rfl dX1_hear_47 ?_
    refine hz_getR (k := 6) hO 17 hz_K_5 hz_sh_11 (hz_lt_11 hN) rfl (Nat.le_of_ble_eq_true rfl) tw_1_172 rfl dX1_hear_50 ?_
    refine hz_iload_n hO dX1_hear_53 rfl 1 rfl ?_
    obtain ⟨hg9, h⟩ := hz_gd_e h
    refine hz_iald hO hz_sh_17 (hz_lt_17 hN) hg9 dX1_hear_54 ?_
    refine hz_iconst (v := (3 : Int32)) hO dX1_hear_55 (by decide) ?_
    refine hz_icmp_ge (tgt := 69) hO dX1_hear_56 (by decide) (fun hc10 => ?_) (fun hc10 => ?_)
    · rw [if_pos hc10] at h
      refine hz_aload_n hO dX1_hear_69 rfl 0 rfl ?_
      refine hz_iload_n hO dX1_hear_70 rfl 1 rfl ?_
      obtain ⟨r11, M12, hq13, h⟩ := hz_ct_e h
      refine hz_callVi (as := [.int a1]) (rest := []) hO (c_X1_letGo l w hN a1 hq13) hz_cal_X1_letGo hz_K_0 hz_sh_26 (hz_lt_26 hN) tw_4_62 (Nat.le_of_ble_eq_true rfl) rfl rfl (Nat.le_of_ble_eq_true rfl) dX1_hear_71 ?_
      refine hz_pop hO dX1_hear_74 rfl ?_
      refine hz_aload_n hO dX1_hear_75 rfl 0 rfl ?_
      refine hz_getR (k := 1) hO 11 hz_K_0 hz_sh_26 (hz_lt_26 hN) rfl (Nat.le_of_ble_eq_true rfl) tw_2_30 rfl dX1_hear_76 ?_
      refine hz_getR (k := 6) hO 17 hz_K_5 hz_sh_11 (hz_lt_11 hN) rfl (Nat.le_of_ble_eq_true rfl) tw_1_172 rfl dX1_hear_79 ?_
      refine hz_iload_n hO dX1_hear_82 rfl 1 rfl ?_
      refine hz_iconst (v := (0 : Int32)) hO dX1_hear_83 (by decide) ?_
      obtain ⟨hg14, h⟩ := hz_gd_e h
      obtain ⟨M15, h_M15, h⟩ := hz_lm_e h
      refine hz_iast hO hz_sh_17 (hz_lt_17 hN) hg14 dX1_hear_84 ?_
      refine hz_nameM h_M15 ?_
      refine hz_aload_n hO dX1_hear_85 rfl 0 rfl ?_
      refine hz_getR (k := 1) hO 11 hz_K_0 hz_sh_26 (hz_lt_26 hN) rfl (Nat.le_of_ble_eq_true rfl) tw_2_30 rfl dX1_hear_86 ?_
      refine hz_getR (k := 7) hO 18 hz_K_5 hz_sh_11 (hz_lt_11 hN) rfl (Nat.le_of_ble_eq_true rfl) tw_1_176 rfl dX1_hear_89 ?_
      refine hz_iload_n hO dX1_hear_92 rfl 1 rfl ?_
      refine hz_aload_n hO dX1_hear_93 rfl 0 rfl ?_
      refine hz_getR (k := 1) hO 11 hz_K_0 hz_sh_26 (hz_lt_26 hN) rfl (Nat.le_of_ble_eq_true rfl) tw_2_30 rfl dX1_hear_94 ?_
      obtain ⟨r16, M17, hq18, h⟩ := hz_ct_e h
      refine hz_callVi (as := []) (rest := [.int a1, .ref (hz_ad w 18)]) hO (c_X7_day l w hN hq18) hz_cal_X7_day hz_K_5 hz_sh_11 (hz_lt_11 hN) tw_4_74 (Nat.le_of_ble_eq_true rfl) rfl rfl (Nat.le_of_ble_eq_true rfl) dX1_hear_97 ?_
      obtain ⟨hg19, h⟩ := hz_gd_e h
      obtain ⟨M20, h_M20, h⟩ := hz_lm_e h
      refine hz_iast hO hz_sh_18 (hz_lt_18 hN) hg19 dX1_hear_100 ?_
      refine hz_nameM h_M20 ?_
      refine hz_aload_n hO dX1_hear_101 rfl 0 rfl ?_
      refine hz_getR (k := 1) hO 11 hz_K_0 hz_sh_26 (hz_lt_26 hN) rfl (Nat.le_of_ble_eq_true rfl) tw_2_30 rfl dX1_hear_102 ?_
      refine hz_getR (k := 13) hO 24 hz_K_5 hz_sh_11 (hz_lt_11 hN) rfl (Nat.le_of_ble_eq_true rfl) tw_1_194 rfl dX1_hear_105 ?_
      refine hz_iconst (v := (2 : Int32)) hO dX1_hear_108 (by decide) ?_
      refine hz_dup2 hO dX1_hear_109 rfl rfl ?_
      refine hz_iald hO hz_sh_24 (hz_lt_24 hN) (by decide) dX1_hear_110 ?_
      refine hz_iconst (v := (1 : Int32)) hO dX1_hear_111 (by decide) ?_
      refine hz_iadd hO dX1_hear_112 ?_
      obtain ⟨M21, h_M21, h⟩ := hz_lm_e h
      refine hz_iast hO hz_sh_24 (hz_lt_24 hN) (by decide) dX1_hear_113 ?_
      refine hz_nameM h_M21 ?_
      refine hz_iconst (v := (3 : Int32)) hO dX1_hear_114 (by decide) ?_
      exact hz_nameM (hz_some_e h).2.symm (hz_name (hz_some_e h).1.symm (hz_iret hO dX1_hear_115))
    · rw [if_neg hc10] at h
      refine hz_aload_n hO dX1_hear_59 rfl 0 rfl ?_
      refine hz_getR (k := 1) hO 11 hz_K_0 hz_sh_26 (hz_lt_26 hN) rfl (Nat.le_of_ble_eq_true rfl) tw_2_30 rfl dX1_hear_60 ?_
      refine hz_getR (k := 6) hO 17 hz_K_5 hz_sh_11 (hz_lt_11 hN) rfl (Nat.le_of_ble_eq_true rfl) tw_1_172 rfl dX1_hear_63 ?_
      refine hz_iload_n hO dX1_hear_66 rfl 1 rfl ?_
      obtain ⟨hg22, h⟩ := hz_gd_e h
      refine hz_iald hO hz_sh_17 (hz_lt_17 hN) hg22 dX1_hear_67 ?_
      exact hz_nameM (hz_some_e h).2.symm (hz_name (hz_some_e h).1.symm (hz_iret hO dX1_hear_68))
  · rw [if_pos hc4] at h
    refine hz_aload_n hO dX1_hear_10 rfl 0 rfl ?_
    refine hz_getR (k := 1) hO 11 hz_K_0 hz_sh_26 (hz_lt_26 hN) rfl (Nat.le_of_ble_eq_true rfl) tw_2_30 rfl dX1_hear_11 ?_
    refine hz_getR (k := 6) hO 17 hz_K_5 hz_sh_11 (hz_lt_11 hN) rfl (Nat.le_of_ble_eq_true rfl) tw_1_172 rfl dX1_hear_14 ?_
    refine hz_iload_n hO dX1_hear_17 rfl 1 rfl ?_
    obtain ⟨hg23, h⟩ := hz_gd_e h
    refine hz_iald hO hz_sh_17 (hz_lt_17 hN) hg23 dX1_hear_18 ?_
    exact hz_nameM (hz_some_e h).2.symm (hz_name (hz_some_e h).1.symm (hz_iret hO dX1_hear_19))
def f_X1_washBasket_L4 (kk77 : Int32 → hz_M → hz_O) : Nat → Int32 → Int32 → hz_M → hz_O
  | 0, _, _, _ => none
  | n + 1, v1_5, v2_6, M7 =>
    if (M7 1 6) ≤ v2_6 then
      kk77 v1_5 M7
    else
      hz_ct (f_X7_isInBasket v2_6 M7) fun r9 M10 =>
      hz_jn (fun (v1_12 : Int32) (v2_13 : Int32) (q14 : Int32) (M15 : hz_M) =>
        hz_ct (f_X3_isPeg q14 M15) fun r16 M17 =>
        hz_jn (fun (v1_19 : Int32) (v2_20 : Int32) (M21 : hz_M) =>
          hz_lt (v2_20 + (1 : Int32)) fun x22 =>
          f_X1_washBasket_L4 kk77 n v1_19 x22 M21
          ) fun k23 =>
        if r16 = 0 then
          k23 v1_12 v2_13 M17
        else
          hz_gd (hz_in v2_13 16) <|
          hz_lm (hz_set M17 20 (Int32.toNatClampNeg v2_13) (0 : Int32)) fun M26 =>
          hz_ct (f_X7_putOnPeg v2_13 q14 M26) fun r27 M28 =>
          hz_lt (v1_12 + (1 : Int32)) fun x30 =>
          k23 x30 v2_13 M28
        ) fun k31 =>
      if r9 = 0 then
        k31 v1_5 v2_6 (-1 : Int32) M10
      else
        hz_ct (f_X7_freePeg M10) fun r33 M34 =>
        k31 v1_5 v2_6 r33 M34
def f_X1_washBasket (M : hz_M) : hz_O :=
  hz_jn (fun (v1_1 : Int32) (M2 : hz_M) =>
    hz_lm (hz_set M2 24 (Int32.toNatClampNeg (5 : Int32)) ((M2 24 (Int32.toNatClampNeg (5 : Int32))) + v1_1)) fun M3 =>
    some (v1_1, M3)
    ) fun k4 =>
  f_X1_washBasket_L4 k4 hz_FU (0 : Int32) (0 : Int32) M
set_option maxRecDepth 100000 in
set_option maxHeartbeats 4000000 in
theorem g_X1_washBasket_L4 {p : Program} {l : Launch} {e : Env} {s : State} {m : MethodId} {args : Array Value} {below : List Frame} {meth : Method} {c : Code} {w : hz_C} {N : Nat} (hN : 178 ≤ N) {rE : Int32} {ME : hz_M} (hO : hz_Ok p s m args meth c w cX1_washBasket 4 RX1 (some .int)) (kk77 : Int32 → hz_M → hz_O) (gkk77 : ∀ (v1_1 : Int32) (M : hz_M), kk77 v1_1 M = some (rE, ME) → hz_G p l e 1 hz_z0 s m args below meth c w N 4 (MQ below (hz_Qi w N rE ME) args s 0 0 (hz_A w)) M 77 [(0, .ref (hz_ad w 26)), (1, .int v1_1)] []) : ∀ (n : Nat) (v1_5 : Int32) (v2_6 : Int32) (M7 : hz_M), f_X1_washBasket_L4 kk77 n v1_5 v2_6 M7 = some (rE, ME) → hz_G p l e 1 hz_z0 s m args below meth c w N 4 (MQ below (hz_Qi w N rE ME) args s 0 0 (hz_A w)) M7 4 [(0, .ref (hz_ad w 26)), (1, .int v1_5), (2, .int v2_6)] [] := by
  intro n
  induction n with
  | zero =>
    intro v1_5 v2_6 M7 h
    rw [f_X1_washBasket_L4] at h
    cases h
  | succ n ih =>
    intro v1_5 v2_6 M7 h
    rw [f_X1_washBasket_L4] at h
    refine hz_iload_n hO dX1_washBasket_4 rfl 2 rfl ?_
    refine hz_aload_n hO dX1_washBasket_5 rfl 0 rfl ?_
    refine hz_getR (k := 0) hO 1 hz_K_0 hz_sh_26 (hz_lt_26 hN) rfl (Nat.le_of_ble_eq_true rfl) tw_2_29 rfl dX1_washBasket_6 ?_
    refine hz_getI (k := 6) hO hz_K_2 hz_sh_1 (hz_lt_1 hN) rfl (Nat.le_of_ble_eq_true rfl) tw_1_64 rfl dX1_washBasket_9 ?_
    refine hz_icmp_ge (tgt := 77) hO dX1_washBasket_12 (by decide) (fun hc8 => ?_) (fun hc8 => ?_)
    · rw [if_pos hc8] at h
      exact hz_ls [0, 1] rfl (gkk77 v1_5 M7 h)
    · rw [if_neg hc8] at h
      refine hz_aload_n hO dX1_washBasket_15 rfl 0 rfl ?_
      refine hz_getR (k := 1) hO 11 hz_K_0 hz_sh_26 (hz_lt_26 hN) rfl (Nat.le_of_ble_eq_true rfl) tw_2_30 rfl dX1_washBasket_16 ?_
      refine hz_iload_n hO dX1_washBasket_19 rfl 2 rfl ?_
      obtain ⟨r9, M10, hq11, h⟩ := hz_ct_e h
      refine hz_callVi (as := [.int v2_6]) (rest := []) hO (c_X7_isInBasket l w hN v2_6 hq11) hz_cal_X7_isInBasket hz_K_5 hz_sh_11 (hz_lt_11 hN) tw_4_79 (Nat.le_of_ble_eq_true rfl) rfl rfl (Nat.le_of_ble_eq_true rfl) dX1_washBasket_20 ?_
      obtain ⟨k31, hk31, h⟩ := hz_jn_e h
      have gk31 : ∀ (v1_12 : Int32) (v2_13 : Int32) (q14 : Int32) (M15 : hz_M), k31 v1_12 v2_13 q14 M15 = some (rE, ME) → hz_G p l e 1 hz_z0 s m args below meth c w N 4 (MQ below (hz_Qi w N rE ME) args s 0 0 (hz_A w)) M15 37 [(0, .ref (hz_ad w 26)), (1, .int v1_12), (2, .int v2_13)] [.int q14] := by
        intro v1_12 v2_13 q14 M15 h
        rw [hk31] at h
        dsimp only at h
        refine hz_istore_n (ls1 := [(3, .int q14), (0, .ref (hz_ad w 26)), (1, .int v1_12), (2, .int v2_13)]) hO dX1_washBasket_37 rfl (Nat.le_of_ble_eq_true rfl) rfl ?_
        refine hz_aload_n hO dX1_washBasket_38 rfl 1 rfl ?_
        refine hz_getR (k := 0) hO 1 hz_K_0 hz_sh_26 (hz_lt_26 hN) rfl (Nat.le_of_ble_eq_true rfl) tw_2_29 rfl dX1_washBasket_39 ?_
        refine hz_iload_n hO dX1_washBasket_42 rfl 0 rfl ?_
        obtain ⟨r16, M17, hq18, h⟩ := hz_ct_e h
        refine hz_callVi (as := [.int q14]) (rest := []) hO (c_X3_isPeg l w hN q14 hq18) hz_cal_X3_isPeg hz_K_2 hz_sh_1 (hz_lt_1 hN) tw_3_198 (Nat.le_of_ble_eq_true rfl) rfl rfl (Nat.le_of_ble_eq_true rfl) dX1_washBasket_43 ?_
        obtain ⟨k23, hk23, h⟩ := hz_jn_e h
        have gk23 : ∀ (v1_19 : Int32) (v2_20 : Int32) (M21 : hz_M), k23 v1_19 v2_20 M21 = some (rE, ME) → hz_G p l e 1 hz_z0 s m args below meth c w N 4 (MQ below (hz_Qi w N rE ME) args s 0 0 (hz_A w)) M21 71 [(0, .ref (hz_ad w 26)), (1, .int v1_19), (2, .int v2_20)] [] := by
          intro v1_19 v2_20 M21 h
          rw [hk23] at h
          dsimp only at h
          obtain ⟨x22, h_x22, h⟩ := hz_lt_e h
          refine hz_iinc (k := 2) (v := x22) (ls1 := [(2, .int x22), (0, .ref (hz_ad w 26)), (1, .int v1_19)]) hO dX1_washBasket_71 rfl (by rw [h_x22]; rfl) (Nat.le_of_ble_eq_true rfl) rfl ?_
          refine hz_goto (tgt := 4) hO dX1_washBasket_74 (by decide) ?_
          exact hz_ls [1, 2, 0] rfl (ih v1_19 x22 M21 h)
        clear hk23
        refine hz_if_eq (tgt := 71) hO dX1_washBasket_46 (by decide) (fun hc24 => ?_) (fun hc24 => ?_)
        · rw [if_pos hc24] at h
          exact hz_ls [1, 2, 3] rfl (gk23 v1_12 v2_13 M17 h)
        · rw [if_neg hc24] at h
          refine hz_aload_n hO dX1_washBasket_49 rfl 1 rfl ?_
          refine hz_getR (k := 1) hO 11 hz_K_0 hz_sh_26 (hz_lt_26 hN) rfl (Nat.le_of_ble_eq_true rfl) tw_2_30 rfl dX1_washBasket_50 ?_
          refine hz_getR (k := 9) hO 20 hz_K_5 hz_sh_11 (hz_lt_11 hN) rfl (Nat.le_of_ble_eq_true rfl) tw_1_182 rfl dX1_washBasket_53 ?_
          refine hz_iload_n hO dX1_washBasket_56 rfl 3 rfl ?_
          refine hz_iconst (v := (0 : Int32)) hO dX1_washBasket_57 (by decide) ?_
          obtain ⟨hg25, h⟩ := hz_gd_e h
          obtain ⟨M26, h_M26, h⟩ := hz_lm_e h
          refine hz_iast hO hz_sh_20 (hz_lt_20 hN) hg25 dX1_washBasket_58 ?_
          refine hz_nameM h_M26 ?_
          refine hz_aload_n hO dX1_washBasket_59 rfl 1 rfl ?_
          refine hz_getR (k := 1) hO 11 hz_K_0 hz_sh_26 (hz_lt_26 hN) rfl (Nat.le_of_ble_eq_true rfl) tw_2_30 rfl dX1_washBasket_60 ?_
          refine hz_iload_n hO dX1_washBasket_63 rfl 3 rfl ?_
          refine hz_iload_n hO dX1_washBasket_64 rfl 0 rfl ?_
          obtain ⟨r27, M28, hq29, h⟩ := hz_ct_e h
          refine hz_callVv (as := [.int v2_13, .int q14]) (rest := []) hO (c_X7_putOnPeg l w hN v2_13 q14 hq29) hz_cal_X7_putOnPeg hz_K_5 hz_sh_11 (hz_lt_11 hN) tw_4_57 (Nat.le_of_ble_eq_true rfl) rfl rfl (Nat.le_of_ble_eq_true rfl) dX1_washBasket_65 ?_
          obtain ⟨x30, h_x30, h⟩ := hz_lt_e h
          refine hz_iinc (k := 2) (v := x30) (ls1 := [(1, .int x30), (3, .int q14), (0, .ref (hz_ad w 26)), (2, .int v2_13)]) hO dX1_washBasket_68 rfl (by rw [h_x30]; rfl) (Nat.le_of_ble_eq_true rfl) rfl ?_
          exact hz_ls [2, 0, 3] rfl (gk23 x30 v2_13 M28 h)
      clear hk31
      refine hz_if_eq (tgt := 36) hO dX1_washBasket_23 (by decide) (fun hc32 => ?_) (fun hc32 => ?_)
      · rw [if_pos hc32] at h
        refine hz_iconst (v := (-1 : Int32)) hO dX1_washBasket_36 (by decide) ?_
        exact hz_ls [0, 1, 2] rfl (gk31 v1_5 v2_6 (-1 : Int32) M10 h)
      · rw [if_neg hc32] at h
        refine hz_aload_n hO dX1_washBasket_26 rfl 0 rfl ?_
        refine hz_getR (k := 1) hO 11 hz_K_0 hz_sh_26 (hz_lt_26 hN) rfl (Nat.le_of_ble_eq_true rfl) tw_2_30 rfl dX1_washBasket_27 ?_
        obtain ⟨r33, M34, hq35, h⟩ := hz_ct_e h
        refine hz_callVi (as := []) (rest := []) hO (c_X7_freePeg l w hN hq35) hz_cal_X7_freePeg hz_K_5 hz_sh_11 (hz_lt_11 hN) tw_4_83 (Nat.le_of_ble_eq_true rfl) rfl rfl (Nat.le_of_ble_eq_true rfl) dX1_washBasket_30 ?_
        refine hz_goto (tgt := 37) hO dX1_washBasket_33 (by decide) ?_
        exact hz_ls [0, 1, 2] rfl (gk31 v1_5 v2_6 r33 M34 h)
set_option maxRecDepth 100000 in
set_option maxHeartbeats 4000000 in
theorem c_X1_washBasket (l : Launch) (w : hz_C) {N : Nat} (hN : 178 ≤ N) {M : hz_M} {rE : Int32} {ME : hz_M} (h : f_X1_washBasket M = some (rE, ME)) : hz_Ct l yX1_washBasket cX1_washBasket 4 (some .int) 1 w N [.ref (hz_ad w 26)] M (hz_Qi w N rE ME) := by
  refine hz_ofW (by decide) rfl (Nat.le_of_ble_eq_true rfl) tw_4_78 ?_
  intro p e s m args below meth c hO
  show hz_G p l e 1 hz_z0 s m args below meth c w N 4 _ M 0 [(0, .ref (hz_ad w 26))] []
  unfold f_X1_washBasket at h
  refine hz_iconst (v := (0 : Int32)) hO dX1_washBasket_0 (by decide) ?_
  refine hz_istore_n (ls1 := [(1, .int (0 : Int32)), (0, .ref (hz_ad w 26))]) hO dX1_washBasket_1 rfl (Nat.le_of_ble_eq_true rfl) rfl ?_
  refine hz_iconst (v := (0 : Int32)) hO dX1_washBasket_2 (by decide) ?_
  refine hz_istore_n (ls1 := [(2, .int (0 : Int32)), (1, .int (0 : Int32)), (0, .ref (hz_ad w 26))]) hO dX1_washBasket_3 rfl (Nat.le_of_ble_eq_true rfl) rfl ?_
  obtain ⟨k4, hk4, h⟩ := hz_jn_e h
  have gk4 : ∀ (v1_1 : Int32) (M2 : hz_M), k4 v1_1 M2 = some (rE, ME) → hz_G p l e 1 hz_z0 s m args below meth c w N 4 (MQ below (hz_Qi w N rE ME) args s 0 0 (hz_A w)) M2 77 [(0, .ref (hz_ad w 26)), (1, .int v1_1)] [] := by
    intro v1_1 M2 h
    rw [hk4] at h
    dsimp only at h
    refine hz_aload_n hO dX1_washBasket_77 rfl 0 rfl ?_
    refine hz_getR (k := 1) hO 11 hz_K_0 hz_sh_26 (hz_lt_26 hN) rfl (Nat.le_of_ble_eq_true rfl) tw_2_30 rfl dX1_washBasket_78 ?_
    refine hz_getR (k := 13) hO 24 hz_K_5 hz_sh_11 (hz_lt_11 hN) rfl (Nat.le_of_ble_eq_true rfl) tw_1_194 rfl dX1_washBasket_81 ?_
    refine hz_iconst (v := (5 : Int32)) hO dX1_washBasket_84 (by decide) ?_
    refine hz_dup2 hO dX1_washBasket_85 rfl rfl ?_
    refine hz_iald hO hz_sh_24 (hz_lt_24 hN) (by decide) dX1_washBasket_86 ?_
    refine hz_iload_n hO dX1_washBasket_87 rfl 1 rfl ?_
    refine hz_iadd hO dX1_washBasket_88 ?_
    obtain ⟨M3, h_M3, h⟩ := hz_lm_e h
    refine hz_iast hO hz_sh_24 (hz_lt_24 hN) (by decide) dX1_washBasket_89 ?_
    refine hz_nameM h_M3 ?_
    refine hz_iload_n hO dX1_washBasket_90 rfl 1 rfl ?_
    exact hz_nameM (hz_some_e h).2.symm (hz_name (hz_some_e h).1.symm (hz_iret hO dX1_washBasket_91))
  clear hk4
  exact hz_ls [2, 1, 0] rfl (g_X1_washBasket_L4 hN hO _ gk4 _ (0 : Int32) (0 : Int32) M h)
def f_X9_reason (a1 : Int32) (a2 : Int32) (M : hz_M) : hz_O :=
  if a2 = 0 then
    hz_ct (f_X9_reasonToStayOut a1 M) fun r27 M28 =>
    some (r27, M28)
  else
    hz_gd (hz_in a1 16) <|
    if (M 13 (Int32.toNatClampNeg a1)) = (-1 : Int32) then
      some ((5 : Int32), M)
    else
      hz_ct (f_X3_isStep (a2 - (10 : Int32)) M) fun r4 M5 =>
      if r4 = 0 then
        hz_gd (hz_in a1 16) <|
        if (M5 13 (Int32.toNatClampNeg a1)) = 0 then
          hz_ct (f_X3_isPeg (a2 - (20 : Int32)) M5) fun r10 M11 =>
          if r10 = 0 then
            hz_ct (f_X3_isPeg (a2 - (40 : Int32)) M11) fun r14 M15 =>
            if r14 = 0 then
              some ((0 : Int32), M15)
            else
              hz_ct (f_X9_reasonNotToTake a1 (a2 - (40 : Int32)) M15) fun r18 M19 =>
              some (r18, M19)
          else
            hz_ct (f_X9_reasonNotToHang a1 (a2 - (20 : Int32)) M11) fun r21 M22 =>
            some (r21, M22)
        else
          some ((9 : Int32), M5)
      else
        hz_ct (f_X9_reasonNotToSit a1 (a2 - (10 : Int32)) M5) fun r24 M25 =>
        some (r24, M25)
set_option maxRecDepth 100000 in
set_option maxHeartbeats 4000000 in
theorem c_X9_reason (l : Launch) (w : hz_C) {N : Nat} (hN : 178 ≤ N) (a1 : Int32) (a2 : Int32) {M : hz_M} {rE : Int32} {ME : hz_M} (h : f_X9_reason a1 a2 M = some (rE, ME)) : hz_Ct l yX9_reason cX9_reason 3 (some .int) 2 w N [.ref (hz_ad w 25), .int a1, .int a2] M (hz_Qi w N rE ME) := by
  refine hz_ofW (by decide) rfl (Nat.le_of_ble_eq_true rfl) tw_3_220 ?_
  intro p e s m args below meth c hO
  show hz_G p l e 2 hz_z0 s m args below meth c w N 3 _ M 0 [(0, .ref (hz_ad w 25)), (1, .int a1), (2, .int a2)] []
  unfold f_X9_reason at h
  refine hz_iload_n hO dX9_reason_0 rfl 2 rfl ?_
  refine hz_if_ne (tgt := 10) hO dX9_reason_1 (by decide) (fun hc1 => ?_) (fun hc1 => ?_)
  · rw [if_neg hc1] at h
    refine hz_aload_n hO dX9_reason_10 rfl 0 rfl ?_
    refine hz_getR (k := 1) hO 11 hz_K_7 hz_sh_25 (hz_lt_25 hN) rfl (Nat.le_of_ble_eq_true rfl) tw_2_17 rfl dX9_reason_11 ?_
    refine hz_getR (k := 2) hO 13 hz_K_5 hz_sh_11 (hz_lt_11 hN) rfl (Nat.le_of_ble_eq_true rfl) tw_1_156 rfl dX9_reason_14 ?_
    refine hz_iload_n hO dX9_reason_17 rfl 1 rfl ?_
    obtain ⟨hg2, h⟩ := hz_gd_e h
    refine hz_iald hO hz_sh_13 (hz_lt_13 hN) hg2 dX9_reason_18 ?_
    refine hz_iconst (v := (-1 : Int32)) hO dX9_reason_19 (by decide) ?_
    refine hz_icmp_ne (tgt := 25) hO dX9_reason_20 (by decide) (fun hc3 => ?_) (fun hc3 => ?_)
    · rw [if_neg hc3] at h
      refine hz_aload_n hO dX9_reason_25 rfl 0 rfl ?_
      refine hz_getR (k := 0) hO 1 hz_K_7 hz_sh_25 (hz_lt_25 hN) rfl (Nat.le_of_ble_eq_true rfl) tw_2_16 rfl dX9_reason_26 ?_
      refine hz_iload_n hO dX9_reason_29 rfl 2 rfl ?_
      refine hz_bipush (v := (10 : Int32)) hO dX9_reason_30 (by decide) ?_
      refine hz_isub hO dX9_reason_32 ?_
      obtain ⟨r4, M5, hq6, h⟩ := hz_ct_e h
      refine hz_callVi (as := [.int (a2 - (10 : Int32))]) (rest := []) hO (c_X3_isStep l w hN (a2 - (10 : Int32)) hq6) hz_cal_X3_isStep hz_K_2 hz_sh_1 (hz_lt_1 hN) tw_3_237 (Nat.le_of_ble_eq_true rfl) rfl rfl (Nat.le_of_ble_eq_true rfl) dX9_reason_33 ?_
      refine hz_if_eq (tgt := 49) hO dX9_reason_36 (by decide) (fun hc7 => ?_) (fun hc7 => ?_)
      · rw [if_pos hc7] at h
        refine hz_aload_n hO dX9_reason_49 rfl 0 rfl ?_
        refine hz_getR (k := 1) hO 11 hz_K_7 hz_sh_25 (hz_lt_25 hN) rfl (Nat.le_of_ble_eq_true rfl) tw_2_17 rfl dX9_reason_50 ?_
        refine hz_getR (k := 2) hO 13 hz_K_5 hz_sh_11 (hz_lt_11 hN) rfl (Nat.le_of_ble_eq_true rfl) tw_1_156 rfl dX9_reason_53 ?_
        refine hz_iload_n hO dX9_reason_56 rfl 1 rfl ?_
        obtain ⟨hg8, h⟩ := hz_gd_e h
        refine hz_iald hO hz_sh_13 (hz_lt_13 hN) hg8 dX9_reason_57 ?_
        refine hz_if_eq (tgt := 64) hO dX9_reason_58 (by decide) (fun hc9 => ?_) (fun hc9 => ?_)
        · rw [if_pos hc9] at h
          refine hz_aload_n hO dX9_reason_64 rfl 0 rfl ?_
          refine hz_getR (k := 0) hO 1 hz_K_7 hz_sh_25 (hz_lt_25 hN) rfl (Nat.le_of_ble_eq_true rfl) tw_2_16 rfl dX9_reason_65 ?_
          refine hz_iload_n hO dX9_reason_68 rfl 2 rfl ?_
          refine hz_bipush (v := (20 : Int32)) hO dX9_reason_69 (by decide) ?_
          refine hz_isub hO dX9_reason_71 ?_
          obtain ⟨r10, M11, hq12, h⟩ := hz_ct_e h
          refine hz_callVi (as := [.int (a2 - (20 : Int32))]) (rest := []) hO (c_X3_isPeg l w hN (a2 - (20 : Int32)) hq12) hz_cal_X3_isPeg hz_K_2 hz_sh_1 (hz_lt_1 hN) tw_4_9 (Nat.le_of_ble_eq_true rfl) rfl rfl (Nat.le_of_ble_eq_true rfl) dX9_reason_72 ?_
          refine hz_if_eq (tgt := 88) hO dX9_reason_75 (by decide) (fun hc13 => ?_) (fun hc13 => ?_)
          · rw [if_pos hc13] at h
            refine hz_aload_n hO dX9_reason_88 rfl 0 rfl ?_
            refine hz_getR (k := 0) hO 1 hz_K_7 hz_sh_25 (hz_lt_25 hN) rfl (Nat.le_of_ble_eq_true rfl) tw_2_16 rfl dX9_reason_89 ?_
            refine hz_iload_n hO dX9_reason_92 rfl 2 rfl ?_
            refine hz_bipush (v := (40 : Int32)) hO dX9_reason_93 (by decide) ?_
            refine hz_isub hO dX9_reason_95 ?_
            obtain ⟨r14, M15, hq16, h⟩ := hz_ct_e h
            refine hz_callVi (as := [.int (a2 - (40 : Int32))]) (rest := []) hO (c_X3_isPeg l w hN (a2 - (40 : Int32)) hq16) hz_cal_X3_isPeg hz_K_2 hz_sh_1 (hz_lt_1 hN) tw_4_9 (Nat.le_of_ble_eq_true rfl) rfl rfl (Nat.le_of_ble_eq_true rfl) dX9_reason_96 ?_
            refine hz_if_eq (tgt := 112) hO dX9_reason_99 (by decide) (fun hc17 => ?_) (fun hc17 => ?_)
            · rw [if_pos hc17] at h
              refine hz_iconst (v := (0 : Int32)) hO dX9_reason_112 (by decide) ?_
              exact hz_nameM (hz_some_e h).2.symm (hz_name (hz_some_e h).1.symm (hz_iret hO dX9_reason_113))
            · rw [if_neg hc17] at h
              refine hz_aload_n hO dX9_reason_102 rfl 0 rfl ?_
              refine hz_iload_n hO dX9_reason_103 rfl 1 rfl ?_
              refine hz_iload_n hO dX9_reason_104 rfl 2 rfl ?_
              refine hz_bipush (v := (40 : Int32)) hO dX9_reason_105 (by decide) ?_
              refine hz_isub hO dX9_reason_107 ?_
              obtain ⟨r18, M19, hq20, h⟩ := hz_ct_e h
              refine hz_callVi (as := [.int a1, .int (a2 - (40 : Int32))]) (rest := []) hO (c_X9_reasonNotToTake l w hN a1 (a2 - (40 : Int32)) hq20) hz_cal_X9_reasonNotToTake hz_K_7 hz_sh_25 (hz_lt_25 hN) tw_4_14 (Nat.le_of_ble_eq_true rfl) rfl rfl (Nat.le_of_ble_eq_true rfl) dX9_reason_108 ?_
              exact hz_nameM (hz_some_e h).2.symm (hz_name (hz_some_e h).1.symm (hz_iret hO dX9_reason_111))
          · rw [if_neg hc13] at h
            refine hz_aload_n hO dX9_reason_78 rfl 0 rfl ?_
            refine hz_iload_n hO dX9_reason_79 rfl 1 rfl ?_
            refine hz_iload_n hO dX9_reason_80 rfl 2 rfl ?_
            refine hz_bipush (v := (20 : Int32)) hO dX9_reason_81 (by decide) ?_
            refine hz_isub hO dX9_reason_83 ?_
            obtain ⟨r21, M22, hq23, h⟩ := hz_ct_e h
            refine hz_callVi (as := [.int a1, .int (a2 - (20 : Int32))]) (rest := []) hO (c_X9_reasonNotToHang l w hN a1 (a2 - (20 : Int32)) hq23) hz_cal_X9_reasonNotToHang hz_K_7 hz_sh_25 (hz_lt_25 hN) tw_4_10 (Nat.le_of_ble_eq_true rfl) rfl rfl (Nat.le_of_ble_eq_true rfl) dX9_reason_84 ?_
            exact hz_nameM (hz_some_e h).2.symm (hz_name (hz_some_e h).1.symm (hz_iret hO dX9_reason_87))
        · rw [if_neg hc9] at h
          refine hz_bipush (v := (9 : Int32)) hO dX9_reason_61 (by decide) ?_
          exact hz_nameM (hz_some_e h).2.symm (hz_name (hz_some_e h).1.symm (hz_iret hO dX9_reason_63))
      · rw [if_neg hc7] at h
        refine hz_aload_n hO dX9_reason_39 rfl 0 rfl ?_
        refine hz_iload_n hO dX9_reason_40 rfl 1 rfl ?_
        refine hz_iload_n hO dX9_reason_41 rfl 2 rfl ?_
        refine hz_bipush (v := (10 : Int32)) hO dX9_reason_42 (by decide) ?_
        refine hz_isub hO dX9_reason_44 ?_
        obtain ⟨r24, M25, hq26, h⟩ := hz_ct_e h
        refine hz_callVi (as := [.int a1, .int (a2 - (10 : Int32))]) (rest := []) hO (c_X9_reasonNotToSit l w hN a1 (a2 - (10 : Int32)) hq26) hz_cal_X9_reasonNotToSit hz_K_7 hz_sh_25 (hz_lt_25 hN) tw_3_238 (Nat.le_of_ble_eq_true rfl) rfl rfl (Nat.le_of_ble_eq_true rfl) dX9_reason_45 ?_
        exact hz_nameM (hz_some_e h).2.symm (hz_name (hz_some_e h).1.symm (hz_iret hO dX9_reason_48))
    · rw [if_pos hc3] at h
      refine hz_iconst (v := (5 : Int32)) hO dX9_reason_23 (by decide) ?_
      exact hz_nameM (hz_some_e h).2.symm (hz_name (hz_some_e h).1.symm (hz_iret hO dX9_reason_24))
  · rw [if_pos hc1] at h
    refine hz_aload_n hO dX9_reason_4 rfl 0 rfl ?_
    refine hz_iload_n hO dX9_reason_5 rfl 1 rfl ?_
    obtain ⟨r27, M28, hq29, h⟩ := hz_ct_e h
    refine hz_callVi (as := [.int a1]) (rest := []) hO (c_X9_reasonToStayOut l w hN a1 hq29) hz_cal_X9_reasonToStayOut hz_K_7 hz_sh_25 (hz_lt_25 hN) tw_3_221 (Nat.le_of_ble_eq_true rfl) rfl rfl (Nat.le_of_ble_eq_true rfl) dX9_reason_6 ?_
    exact hz_nameM (hz_some_e h).2.symm (hz_name (hz_some_e h).1.symm (hz_iret hO dX9_reason_9))
def f_X9_cause (a1 : Int32) (a2 : Int32) (M : hz_M) : hz_O :=
  hz_ct (f_X9_reason a1 a2 M) fun r1 M2 =>
  if r1 = 2 then
    hz_ct (f_X7_minutesLeftToday M2) fun r5 M6 =>
    some (((100 : Int32) + r5), M6)
  else
  if r1 = 3 then
    some (((200 : Int32) + (M2 1 4)), M2)
  else
  if r1 = 7 then
    hz_ct (f_X3_ageFor (a2 - (10 : Int32)) M2) fun r10 M11 =>
    hz_gd (hz_in a1 16) <|
    some ((((300 : Int32) + r10) - (M11 2 (Int32.toNatClampNeg a1))), M11)
  else
  if r1 = 8 then
    hz_ct (f_X7_lowestBeside a1 (a2 - (10 : Int32)) M2) fun r15 M16 =>
    some (((400 : Int32) + r15), M16)
  else
  if r1 = 9 then
    hz_gd (hz_in a1 16) <|
    some (((500 : Int32) + (M2 13 (Int32.toNatClampNeg a1))), M2)
  else
  if r1 = 10 then
    hz_ct (f_X3_isPeg (a2 - (20 : Int32)) M2) fun r21 M22 =>
    hz_jn (fun (q24 : Int32) (q25 : Int32) (M26 : hz_M) =>
      some ((q25 + q24), M26)
      ) fun k27 =>
    if r21 = 0 then
      k27 (-1 : Int32) (600 : Int32) M22
    else
      hz_gd (hz_in (a2 - (20 : Int32)) 16) <|
      k27 (M22 23 (Int32.toNatClampNeg (a2 - (20 : Int32)))) (600 : Int32) M22
  else
  some ((0 : Int32), M2)
set_option maxRecDepth 100000 in
set_option maxHeartbeats 4000000 in
theorem c_X9_cause (l : Launch) (w : hz_C) {N : Nat} (hN : 178 ≤ N) (a1 : Int32) (a2 : Int32) {M : hz_M} {rE : Int32} {ME : hz_M} (h : f_X9_cause a1 a2 M = some (rE, ME)) : hz_Ct l yX9_cause cX9_cause 3 (some .int) 3 w N [.ref (hz_ad w 25), .int a1, .int a2] M (hz_Qi w N rE ME) := by
  refine hz_ofW (by decide) rfl (Nat.le_of_ble_eq_true rfl) tw_5_197 ?_
  intro p e s m args below meth c hO
  show hz_G p l e 3 hz_z0 s m args below meth c w N 3 _ M 0 [(0, .ref (hz_ad w 25)), (1, .int a1), (2, .int a2)] []
  unfold f_X9_cause at h
  refine hz_aload_n hO dX9_cause_0 rfl 0 rfl ?_
  refine hz_iload_n hO dX9_cause_1 rfl 1 rfl ?_
  refine hz_iload_n hO dX9_cause_2 rfl 2 rfl ?_
  obtain ⟨r1, M2, hq3, h⟩ := hz_ct_e h
  refine hz_callVi (as := [.int a1, .int a2]) (rest := []) hO (c_X9_reason l w hN a1 a2 hq3) hz_cal_X9_reason hz_K_7 hz_sh_25 (hz_lt_25 hN) tw_5_198 (Nat.le_of_ble_eq_true rfl) rfl rfl (Nat.le_of_ble_eq_true rfl) dX9_cause_3 ?_
  by_cases hc4 : r1 = (2 : Int32)
  · rw [if_pos hc4] at h
    refine hz_tin (tgt := 56) hO hc4 dX9_cause_6 (by decide) (by decide) rfl (by decide) ?_
    refine hz_bipush (v := (100 : Int32)) hO dX9_cause_56 (by decide) ?_
    refine hz_aload_n hO dX9_cause_58 rfl 0 rfl ?_
    refine hz_getR (k := 1) hO 11 hz_K_7 hz_sh_25 (hz_lt_25 hN) rfl (Nat.le_of_ble_eq_true rfl) tw_2_17 rfl dX9_cause_59 ?_
    obtain ⟨r5, M6, hq7, h⟩ := hz_ct_e h
    refine hz_callVi (as := []) (rest := [.int (100 : Int32)]) hO (c_X7_minutesLeftToday l w hN hq7) hz_cal_X7_minutesLeftToday hz_K_5 hz_sh_11 (hz_lt_11 hN) tw_5_199 (Nat.le_of_ble_eq_true rfl) rfl rfl (Nat.le_of_ble_eq_true rfl) dX9_cause_62 ?_
    refine hz_iadd hO dX9_cause_65 ?_
    exact hz_nameM (hz_some_e h).2.symm (hz_name (hz_some_e h).1.symm (hz_iret hO dX9_cause_66))
  · rw [if_neg hc4] at h
    by_cases hc8 : r1 = (3 : Int32)
    · rw [if_pos hc8] at h
      refine hz_tin (tgt := 67) hO hc8 dX9_cause_6 (by decide) (by decide) rfl (by decide) ?_
      refine hz_sipush (v := (200 : Int32)) hO dX9_cause_67 (by decide) ?_
      refine hz_aload_n hO dX9_cause_70 rfl 0 rfl ?_
      refine hz_getR (k := 0) hO 1 hz_K_7 hz_sh_25 (hz_lt_25 hN) rfl (Nat.le_of_ble_eq_true rfl) tw_2_16 rfl dX9_cause_71 ?_
      refine hz_getI (k := 4) hO hz_K_2 hz_sh_1 (hz_lt_1 hN) rfl (Nat.le_of_ble_eq_true rfl) tw_1_55 rfl dX9_cause_74 ?_
      refine hz_iadd hO dX9_cause_77 ?_
      exact hz_nameM (hz_some_e h).2.symm (hz_name (hz_some_e h).1.symm (hz_iret hO dX9_cause_78))
    · rw [if_neg hc8] at h
      by_cases hc9 : r1 = (7 : Int32)
      · rw [if_pos hc9] at h
        refine hz_tin (tgt := 79) hO hc9 dX9_cause_6 (by decide) (by decide) rfl (by decide) ?_
        refine hz_sipush (v := (300 : Int32)) hO dX9_cause_79 (by decide) ?_
        refine hz_iload_n hO dX9_cause_82 rfl 2 rfl ?_
        refine hz_bipush (v := (10 : Int32)) hO dX9_cause_83 (by decide) ?_
        refine hz_isub hO dX9_cause_85 ?_
        obtain ⟨r10, M11, hq12, h⟩ := hz_ct_e h
        refine hz_callSi (as := [.int (a2 - (10 : Int32))]) (rest := [.int (300 : Int32)]) hO (c_X3_ageFor l w hN (a2 - (10 : Int32)) hq12) hz_cal_X3_ageFor tw_4_2 (Nat.le_of_ble_eq_true rfl) rfl rfl (Nat.le_of_ble_eq_true rfl) dX9_cause_86 ?_
        refine hz_iadd hO dX9_cause_89 ?_
        refine hz_aload_n hO dX9_cause_90 rfl 0 rfl ?_
        refine hz_getR (k := 0) hO 1 hz_K_7 hz_sh_25 (hz_lt_25 hN) rfl (Nat.le_of_ble_eq_true rfl) tw_2_16 rfl dX9_cause_91 ?_
        refine hz_getR (k := 0) hO 2 hz_K_2 hz_sh_1 (hz_lt_1 hN) rfl (Nat.le_of_ble_eq_true rfl) tw_1_43 rfl dX9_cause_94 ?_
        refine hz_iload_n hO dX9_cause_97 rfl 1 rfl ?_
        obtain ⟨hg13, h⟩ := hz_gd_e h
        refine hz_iald hO hz_sh_2 (hz_lt_2 hN) hg13 dX9_cause_98 ?_
        refine hz_isub hO dX9_cause_99 ?_
        exact hz_nameM (hz_some_e h).2.symm (hz_name (hz_some_e h).1.symm (hz_iret hO dX9_cause_100))
      · rw [if_neg hc9] at h
        by_cases hc14 : r1 = (8 : Int32)
        · rw [if_pos hc14] at h
          refine hz_tin (tgt := 101) hO hc14 dX9_cause_6 (by decide) (by decide) rfl (by decide) ?_
          refine hz_sipush (v := (400 : Int32)) hO dX9_cause_101 (by decide) ?_
          refine hz_aload_n hO dX9_cause_104 rfl 0 rfl ?_
          refine hz_getR (k := 1) hO 11 hz_K_7 hz_sh_25 (hz_lt_25 hN) rfl (Nat.le_of_ble_eq_true rfl) tw_2_17 rfl dX9_cause_105 ?_
          refine hz_iload_n hO dX9_cause_108 rfl 1 rfl ?_
          refine hz_iload_n hO dX9_cause_109 rfl 2 rfl ?_
          refine hz_bipush (v := (10 : Int32)) hO dX9_cause_110 (by decide) ?_
          refine hz_isub hO dX9_cause_112 ?_
          obtain ⟨r15, M16, hq17, h⟩ := hz_ct_e h
          refine hz_callVi (as := [.int a1, .int (a2 - (10 : Int32))]) (rest := [.int (400 : Int32)]) hO (c_X7_lowestBeside l w hN a1 (a2 - (10 : Int32)) hq17) hz_cal_X7_lowestBeside hz_K_5 hz_sh_11 (hz_lt_11 hN) tw_5_203 (Nat.le_of_ble_eq_true rfl) rfl rfl (Nat.le_of_ble_eq_true rfl) dX9_cause_113 ?_
          refine hz_iadd hO dX9_cause_116 ?_
          exact hz_nameM (hz_some_e h).2.symm (hz_name (hz_some_e h).1.symm (hz_iret hO dX9_cause_117))
        · rw [if_neg hc14] at h
          by_cases hc18 : r1 = (9 : Int32)
          · rw [if_pos hc18] at h
            refine hz_tin (tgt := 118) hO hc18 dX9_cause_6 (by decide) (by decide) rfl (by decide) ?_
            refine hz_sipush (v := (500 : Int32)) hO dX9_cause_118 (by decide) ?_
            refine hz_aload_n hO dX9_cause_121 rfl 0 rfl ?_
            refine hz_getR (k := 1) hO 11 hz_K_7 hz_sh_25 (hz_lt_25 hN) rfl (Nat.le_of_ble_eq_true rfl) tw_2_17 rfl dX9_cause_122 ?_
            refine hz_getR (k := 2) hO 13 hz_K_5 hz_sh_11 (hz_lt_11 hN) rfl (Nat.le_of_ble_eq_true rfl) tw_1_156 rfl dX9_cause_125 ?_
            refine hz_iload_n hO dX9_cause_128 rfl 1 rfl ?_
            obtain ⟨hg19, h⟩ := hz_gd_e h
            refine hz_iald hO hz_sh_13 (hz_lt_13 hN) hg19 dX9_cause_129 ?_
            refine hz_iadd hO dX9_cause_130 ?_
            exact hz_nameM (hz_some_e h).2.symm (hz_name (hz_some_e h).1.symm (hz_iret hO dX9_cause_131))
          · rw [if_neg hc18] at h
            by_cases hc20 : r1 = (10 : Int32)
            · rw [if_pos hc20] at h
              refine hz_tin (tgt := 132) hO hc20 dX9_cause_6 (by decide) (by decide) rfl (by decide) ?_
              refine hz_sipush (v := (600 : Int32)) hO dX9_cause_132 (by decide) ?_
              refine hz_aload_n hO dX9_cause_135 rfl 0 rfl ?_
              refine hz_getR (k := 0) hO 1 hz_K_7 hz_sh_25 (hz_lt_25 hN) rfl (Nat.le_of_ble_eq_true rfl) tw_2_16 rfl dX9_cause_136 ?_
              refine hz_iload_n hO dX9_cause_139 rfl 2 rfl ?_
              refine hz_bipush (v := (20 : Int32)) hO dX9_cause_140 (by decide) ?_
              refine hz_isub hO dX9_cause_142 ?_
              obtain ⟨r21, M22, hq23, h⟩ := hz_ct_e h
              refine hz_callVi (as := [.int (a2 - (20 : Int32))]) (rest := [.int (600 : Int32)]) hO (c_X3_isPeg l w hN (a2 - (20 : Int32)) hq23) hz_cal_X3_isPeg hz_K_2 hz_sh_1 (hz_lt_1 hN) tw_4_9 (Nat.le_of_ble_eq_true rfl) rfl rfl (Nat.le_of_ble_eq_true rfl) dX9_cause_143 ?_
              obtain ⟨k27, hk27, h⟩ := hz_jn_e h
              have gk27 : ∀ (q24 : Int32) (q25 : Int32) (M26 : hz_M), k27 q24 q25 M26 = some (rE, ME) → hz_G p l e 3 hz_z0 s m args below meth c w N 3 (MQ below (hz_Qi w N rE ME) args s 0 0 (hz_A w)) M26 165 [] [.int q24, .int q25] := by
                intro q24 q25 M26 h
                rw [hk27] at h
                dsimp only at h
                refine hz_iadd hO dX9_cause_165 ?_
                exact hz_nameM (hz_some_e h).2.symm (hz_name (hz_some_e h).1.symm (hz_iret hO dX9_cause_166))
              clear hk27
              refine hz_if_eq (tgt := 164) hO dX9_cause_146 (by decide) (fun hc28 => ?_) (fun hc28 => ?_)
              · rw [if_pos hc28] at h
                refine hz_iconst (v := (-1 : Int32)) hO dX9_cause_164 (by decide) ?_
                exact hz_ls [] rfl (gk27 (-1 : Int32) (600 : Int32) M22 h)
              · rw [if_neg hc28] at h
                refine hz_aload_n hO dX9_cause_149 rfl 0 rfl ?_
                refine hz_getR (k := 1) hO 11 hz_K_7 hz_sh_25 (hz_lt_25 hN) rfl (Nat.le_of_ble_eq_true rfl) tw_2_17 rfl dX9_cause_150 ?_
                refine hz_getR (k := 12) hO 23 hz_K_5 hz_sh_11 (hz_lt_11 hN) rfl (Nat.le_of_ble_eq_true rfl) tw_1_190 rfl dX9_cause_153 ?_
                refine hz_iload_n hO dX9_cause_156 rfl 2 rfl ?_
                refine hz_bipush (v := (20 : Int32)) hO dX9_cause_157 (by decide) ?_
                refine hz_isub hO dX9_cause_159 ?_
                obtain ⟨hg29, h⟩ := hz_gd_e h
                refine hz_iald hO hz_sh_23 (hz_lt_23 hN) hg29 dX9_cause_160 ?_
                refine hz_goto (tgt := 165) hO dX9_cause_161 (by decide) ?_
                exact hz_ls [] rfl (gk27 (M22 23 (Int32.toNatClampNeg (a2 - (20 : Int32)))) (600 : Int32) M22 h)
            · rw [if_neg hc20] at h
              by_cases hc30 : r1 = (4 : Int32)
              · refine hz_tin (tgt := 167) hO hc30 dX9_cause_6 (by decide) (by decide) rfl (by decide) ?_
                refine hz_iconst (v := (0 : Int32)) hO dX9_cause_167 (by decide) ?_
                exact hz_nameM (hz_some_e h).2.symm (hz_name (hz_some_e h).1.symm (hz_iret hO dX9_cause_168))
              ·
                by_cases hc31 : r1 = (5 : Int32)
                · refine hz_tin (tgt := 167) hO hc31 dX9_cause_6 (by decide) (by decide) rfl (by decide) ?_
                  refine hz_iconst (v := (0 : Int32)) hO dX9_cause_167 (by decide) ?_
                  exact hz_nameM (hz_some_e h).2.symm (hz_name (hz_some_e h).1.symm (hz_iret hO dX9_cause_168))
                ·
                  by_cases hc32 : r1 = (6 : Int32)
                  · refine hz_tin (tgt := 167) hO hc32 dX9_cause_6 (by decide) (by decide) rfl (by decide) ?_
                    refine hz_iconst (v := (0 : Int32)) hO dX9_cause_167 (by decide) ?_
                    exact hz_nameM (hz_some_e h).2.symm (hz_name (hz_some_e h).1.symm (hz_iret hO dX9_cause_168))
                  · skip
                    have hn2 : ¬ r1.toInt = 2 := lv_neT hc4 rfl
                    have hn3 : ¬ r1.toInt = 3 := lv_neT hc8 rfl
                    have hn7 : ¬ r1.toInt = 7 := lv_neT hc9 rfl
                    have hn8 : ¬ r1.toInt = 8 := lv_neT hc14 rfl
                    have hn9 : ¬ r1.toInt = 9 := lv_neT hc18 rfl
                    have hn10 : ¬ r1.toInt = 10 := lv_neT hc20 rfl
                    have hn4 : ¬ r1.toInt = 4 := lv_neT hc30 rfl
                    have hn5 : ¬ r1.toInt = 5 := lv_neT hc31 rfl
                    have hn6 : ¬ r1.toInt = 6 := lv_neT hc32 rfl
                    refine hz_tout (tgt := 167) hO dX9_cause_6 (by omega) (by decide) ?_
                    refine hz_iconst (v := (0 : Int32)) hO dX9_cause_167 (by decide) ?_
                    exact hz_nameM (hz_some_e h).2.symm (hz_name (hz_some_e h).1.symm (hz_iret hO dX9_cause_168))
