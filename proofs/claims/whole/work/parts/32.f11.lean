-- X11_dryIn X11_silenceIn X11_ifValve X11_keeps X11_changes X11_refuses X11_entering X11_enter X11_sitting X11_sit X11_halling X11_hall X11_hanging X11_hang X11_taking X11_take X11_goesOut X11_leaving X11_leave X11_speaking X11_speak X11_washing X11_wash X11_valving X11_valve X11_waiting X11_waits X11_set X11_writes X11_writesNumber X11_writesGuests X11_report X11_reportByte X11_undo X11_save X11_restore X11_doesOf X11_does
def f_X11_dryIn_L25 (kk41 : Int32 → hz_M → hz_O) (kk57 : hz_M → hz_O) : Nat → Int32 → Int32 → hz_M → hz_O
  | 0, _, _, _ => none
  | n + 1, v1_23, v2_24, M25 =>
    if (200 : Int32) < v2_24 then
      kk57 M25
    else
      hz_ct (f_X11_ofT v1_23 (0 : Int32) M25) fun r27 M28 =>
      if r27 = 0 then
        kk41 v2_24 M28
      else
        hz_ct (f_X11_minute M28) fun r31 M32 =>
        hz_lt (v2_24 + (1 : Int32)) fun x34 =>
        f_X11_dryIn_L25 kk41 kk57 n v1_23 x34 M32
def f_X11_dryIn (a1 : Int32) (M : hz_M) : hz_O :=
  hz_lm (hz_set M 178 8 (0 : Int32)) fun M1 =>
  hz_ct (f_X11_isTowel a1 M1) fun r2 M3 =>
  hz_ct (f_X11_right r2 M3) fun r5 M6 =>
  if r5 = 0 then
    some ((0 : Int32), M6)
  else
    hz_ct (f_X11_tries M6) fun r9 M10 =>
    hz_jn (fun  (M12 : hz_M) =>
      hz_ct (f_X11_back (-1 : Int32) M12) fun r13 M14 =>
      some (r13, M14)
      ) fun k16 =>
    hz_jn (fun (v2_17 : Int32) (M18 : hz_M) =>
      hz_ct (f_X11_back v2_17 M18) fun r19 M20 =>
      some (r19, M20)
      ) fun k22 =>
    f_X11_dryIn_L25 k22 k16 hz_FU a1 (0 : Int32) M10
set_option maxRecDepth 100000 in
set_option maxHeartbeats 4000000 in
theorem g_X11_dryIn_L25 {p : Program} {l : Launch} {e : Env} {s : State} {m : MethodId} {args : Array Value} {below : List Frame} {meth : Method} {c : Code} {w : hz_C} {N : Nat} (hN : 193 ≤ N) {rE : Int32} {ME : hz_M} (hO : hz_Ok p s m args meth c w cX11_dryIn 3 RX11 (some .int)) (kk41 : Int32 → hz_M → hz_O) (gkk41 : ∀ (v2_17 : Int32) (M : hz_M), kk41 v2_17 M = some (rE, ME) → hz_G p l e 4 hz_z0 s m args below meth c w N 3 (MQ below (hz_Qi w N rE ME) args s 0 0 (hz_A w)) M 41 [(0, .ref (hz_ad w 178)), (2, .int v2_17)] []) (kk57 : hz_M → hz_O) (gkk57 : ∀  (M : hz_M), kk57 M = some (rE, ME) → hz_G p l e 4 hz_z0 s m args below meth c w N 3 (MQ below (hz_Qi w N rE ME) args s 0 0 (hz_A w)) M 57 [(0, .ref (hz_ad w 178))] []) : ∀ (n : Nat) (v1_23 : Int32) (v2_24 : Int32) (M25 : hz_M), f_X11_dryIn_L25 kk41 kk57 n v1_23 v2_24 M25 = some (rE, ME) → hz_G p l e 4 hz_z0 s m args below meth c w N 3 (MQ below (hz_Qi w N rE ME) args s 0 0 (hz_A w)) M25 25 [(0, .ref (hz_ad w 178)), (1, .int v1_23), (2, .int v2_24)] [] := by
  intro n
  induction n with
  | zero =>
    intro v1_23 v2_24 M25 h
    rw [f_X11_dryIn_L25] at h
    cases h
  | succ n ih =>
    intro v1_23 v2_24 M25 h
    rw [f_X11_dryIn_L25] at h
    refine hz_iload_n hO dX11_dryIn_25 rfl 2 rfl ?_
    refine hz_sipush (v := (200 : Int32)) hO dX11_dryIn_26 (by decide) ?_
    refine hz_icmp_gt (tgt := 57) hO dX11_dryIn_29 (by decide) (fun hc26 => ?_) (fun hc26 => ?_)
    · rw [if_pos hc26] at h
      exact hz_ls [0] rfl (gkk57 M25 h)
    · rw [if_neg hc26] at h
      refine hz_aload_n hO dX11_dryIn_32 rfl 0 rfl ?_
      refine hz_iload_n hO dX11_dryIn_33 rfl 1 rfl ?_
      refine hz_iconst (v := (0 : Int32)) hO dX11_dryIn_34 (by decide) ?_
      obtain ⟨r27, M28, hq29, h⟩ := hz_ct_e h
      refine hz_callVi (as := [.int v1_23, .int (0 : Int32)]) (rest := []) hO (c_X11_ofT l w hN v1_23 (0 : Int32) hq29) hz_cal_X11_ofT hz_K_9 hz_sh_178 (hz_lt_178 hN) tw_7_161 (Nat.le_of_ble_eq_true rfl) rfl rfl (Nat.le_of_ble_eq_true rfl) dX11_dryIn_35 ?_
      refine hz_if_ne (tgt := 47) hO dX11_dryIn_38 (by decide) (fun hc30 => ?_) (fun hc30 => ?_)
      · rw [if_neg hc30] at h
        refine hz_aload_n hO dX11_dryIn_47 rfl 0 rfl ?_
        obtain ⟨r31, M32, hq33, h⟩ := hz_ct_e h
        refine hz_callVv (as := []) (rest := []) hO (c_X11_minute l w hN hq33) hz_cal_X11_minute hz_K_9 hz_sh_178 (hz_lt_178 hN) tw_7_197 (Nat.le_of_ble_eq_true rfl) rfl rfl (Nat.le_of_ble_eq_true rfl) dX11_dryIn_48 ?_
        obtain ⟨x34, h_x34, h⟩ := hz_lt_e h
        refine hz_iinc (k := 2) (v := x34) (ls1 := [(2, .int x34), (0, .ref (hz_ad w 178)), (1, .int v1_23)]) hO dX11_dryIn_51 rfl (by rw [h_x34]; rfl) (Nat.le_of_ble_eq_true rfl) rfl ?_
        refine hz_goto (tgt := 25) hO dX11_dryIn_54 (by decide) ?_
        exact hz_ls [1, 2, 0] rfl (ih v1_23 x34 M32 h)
      · rw [if_pos hc30] at h
        exact hz_ls [0, 2] rfl (gkk41 v2_24 M28 h)
set_option maxRecDepth 100000 in
set_option maxHeartbeats 4000000 in
theorem c_X11_dryIn (l : Launch) (w : hz_C) {N : Nat} (hN : 193 ≤ N) (a1 : Int32) {M : hz_M} {rE : Int32} {ME : hz_M} (h : f_X11_dryIn a1 M = some (rE, ME)) : hz_Ct l yX11_dryIn cX11_dryIn 3 (some .int) 4 w N [.ref (hz_ad w 178), .int a1] M (hz_Qi w N rE ME) := by
  refine hz_ofW (by decide) rfl (Nat.le_of_ble_eq_true rfl) tw_8_224 ?_
  intro p e s m args below meth c hO
  show hz_G p l e 4 hz_z0 s m args below meth c w N 3 _ M 0 [(0, .ref (hz_ad w 178)), (1, .int a1)] []
  unfold f_X11_dryIn at h
  refine hz_aload_n hO dX11_dryIn_0 rfl 0 rfl ?_
  refine hz_iconst (v := (0 : Int32)) hO dX11_dryIn_1 (by decide) ?_
  obtain ⟨M1, h_M1, h⟩ := hz_lm_e h
  refine hz_putI (k := 8) (ty := .int) hO hz_K_9 tyX11_ok nmX11 hz_sh_178 (hz_lt_178 hN) rfl (Nat.le_of_ble_eq_true rfl) tw_6_237 rfl rfl rfl rfl rfl dX11_dryIn_2 ?_
  refine hz_nameM h_M1 ?_
  refine hz_aload_n hO dX11_dryIn_5 rfl 0 rfl ?_
  refine hz_aload_n hO dX11_dryIn_6 rfl 0 rfl ?_
  refine hz_iload_n hO dX11_dryIn_7 rfl 1 rfl ?_
  obtain ⟨r2, M3, hq4, h⟩ := hz_ct_e h
  refine hz_callVi (as := [.int a1]) (rest := [.ref (hz_ad w 178)]) hO (c_X11_isTowel l w hN a1 hq4) hz_cal_X11_isTowel hz_K_9 hz_sh_178 (hz_lt_178 hN) tw_8_110 (Nat.le_of_ble_eq_true rfl) rfl rfl (Nat.le_of_ble_eq_true rfl) dX11_dryIn_8 ?_
  obtain ⟨r5, M6, hq7, h⟩ := hz_ct_e h
  refine hz_callVi (as := [.int r2]) (rest := []) hO (c_X11_right l w hN r2 hq7) hz_cal_X11_right hz_K_9 hz_sh_178 (hz_lt_178 hN) tw_8_82 (Nat.le_of_ble_eq_true rfl) rfl rfl (Nat.le_of_ble_eq_true rfl) dX11_dryIn_11 ?_
  refine hz_if_ne (tgt := 19) hO dX11_dryIn_14 (by decide) (fun hc8 => ?_) (fun hc8 => ?_)
  · rw [if_neg hc8] at h
    refine hz_aload_n hO dX11_dryIn_19 rfl 0 rfl ?_
    obtain ⟨r9, M10, hq11, h⟩ := hz_ct_e h
    refine hz_callVv (as := []) (rest := []) hO (c_X11_tries l w hN hq11) hz_cal_X11_tries hz_K_9 hz_sh_178 (hz_lt_178 hN) tw_8_209 (Nat.le_of_ble_eq_true rfl) rfl rfl (Nat.le_of_ble_eq_true rfl) dX11_dryIn_20 ?_
    refine hz_iconst (v := (0 : Int32)) hO dX11_dryIn_23 (by decide) ?_
    refine hz_istore_n (ls1 := [(2, .int (0 : Int32)), (0, .ref (hz_ad w 178)), (1, .int a1)]) hO dX11_dryIn_24 rfl (Nat.le_of_ble_eq_true rfl) rfl ?_
    obtain ⟨k16, hk16, h⟩ := hz_jn_e h
    have gk16 : ∀  (M12 : hz_M), k16 M12 = some (rE, ME) → hz_G p l e 4 hz_z0 s m args below meth c w N 3 (MQ below (hz_Qi w N rE ME) args s 0 0 (hz_A w)) M12 57 [(0, .ref (hz_ad w 178))] [] := by
      intro M12 h
      rw [hk16] at h
      dsimp only at h
      refine hz_aload_n hO dX11_dryIn_57 rfl 0 rfl ?_
      refine hz_iconst (v := (-1 : Int32)) hO dX11_dryIn_58 (by decide) ?_
      obtain ⟨r13, M14, hq15, h⟩ := hz_ct_e h
      refine hz_callVi (as := [.int (-1 : Int32)]) (rest := []) hO (c_X11_back l w hN (-1 : Int32) hq15) hz_cal_X11_back hz_K_9 hz_sh_178 (hz_lt_178 hN) tw_8_213 (Nat.le_of_ble_eq_true rfl) rfl rfl (Nat.le_of_ble_eq_true rfl) dX11_dryIn_59 ?_
      exact hz_nameM (hz_some_e h).2.symm (hz_name (hz_some_e h).1.symm (hz_iret hO dX11_dryIn_62))
    clear hk16
    obtain ⟨k22, hk22, h⟩ := hz_jn_e h
    have gk22 : ∀ (v2_17 : Int32) (M18 : hz_M), k22 v2_17 M18 = some (rE, ME) → hz_G p l e 4 hz_z0 s m args below meth c w N 3 (MQ below (hz_Qi w N rE ME) args s 0 0 (hz_A w)) M18 41 [(0, .ref (hz_ad w 178)), (2, .int v2_17)] [] := by
      intro v2_17 M18 h
      rw [hk22] at h
      dsimp only at h
      refine hz_aload_n hO dX11_dryIn_41 rfl 0 rfl ?_
      refine hz_iload_n hO dX11_dryIn_42 rfl 1 rfl ?_
      obtain ⟨r19, M20, hq21, h⟩ := hz_ct_e h
      refine hz_callVi (as := [.int v2_17]) (rest := []) hO (c_X11_back l w hN v2_17 hq21) hz_cal_X11_back hz_K_9 hz_sh_178 (hz_lt_178 hN) tw_8_213 (Nat.le_of_ble_eq_true rfl) rfl rfl (Nat.le_of_ble_eq_true rfl) dX11_dryIn_43 ?_
      exact hz_nameM (hz_some_e h).2.symm (hz_name (hz_some_e h).1.symm (hz_iret hO dX11_dryIn_46))
    clear hk22
    exact hz_ls [1, 2, 0] rfl (g_X11_dryIn_L25 hN hO _ gk22 _ gk16 _ a1 (0 : Int32) M10 h)
  · rw [if_pos hc8] at h
    refine hz_iconst (v := (0 : Int32)) hO dX11_dryIn_17 (by decide) ?_
    exact hz_nameM (hz_some_e h).2.symm (hz_name (hz_some_e h).1.symm (hz_iret hO dX11_dryIn_18))
def f_X11_silenceIn_L11 (kk25 : Int32 → hz_M → hz_O) (kk41 : hz_M → hz_O) : Nat → Int32 → hz_M → hz_O
  | 0, _, _ => none
  | n + 1, v1_16, M17 =>
    if (200 : Int32) < v1_16 then
      kk41 M17
    else
      hz_ct (f_X11_isSilence M17) fun r19 M20 =>
      if r19 = 0 then
        hz_ct (f_X11_minute M20) fun r23 M24 =>
        hz_lt (v1_16 + (1 : Int32)) fun x26 =>
        f_X11_silenceIn_L11 kk25 kk41 n x26 M24
      else
        kk25 v1_16 M20
def f_X11_silenceIn (M : hz_M) : hz_O :=
  hz_lm (hz_set M 178 8 (0 : Int32)) fun M1 =>
  hz_ct (f_X11_tries M1) fun r2 M3 =>
  hz_jn (fun  (M5 : hz_M) =>
    hz_ct (f_X11_back (-1 : Int32) M5) fun r6 M7 =>
    some (r6, M7)
    ) fun k9 =>
  hz_jn (fun (v1_10 : Int32) (M11 : hz_M) =>
    hz_ct (f_X11_back v1_10 M11) fun r12 M13 =>
    some (r12, M13)
    ) fun k15 =>
  f_X11_silenceIn_L11 k15 k9 hz_FU (0 : Int32) M3
set_option maxRecDepth 100000 in
set_option maxHeartbeats 4000000 in
theorem g_X11_silenceIn_L11 {p : Program} {l : Launch} {e : Env} {s : State} {m : MethodId} {args : Array Value} {below : List Frame} {meth : Method} {c : Code} {w : hz_C} {N : Nat} (hN : 193 ≤ N) {rE : Int32} {ME : hz_M} (hO : hz_Ok p s m args meth c w cX11_silenceIn 2 RX11 (some .int)) (kk25 : Int32 → hz_M → hz_O) (gkk25 : ∀ (v1_10 : Int32) (M : hz_M), kk25 v1_10 M = some (rE, ME) → hz_G p l e 4 hz_z0 s m args below meth c w N 2 (MQ below (hz_Qi w N rE ME) args s 0 0 (hz_A w)) M 25 [(0, .ref (hz_ad w 178)), (1, .int v1_10)] []) (kk41 : hz_M → hz_O) (gkk41 : ∀  (M : hz_M), kk41 M = some (rE, ME) → hz_G p l e 4 hz_z0 s m args below meth c w N 2 (MQ below (hz_Qi w N rE ME) args s 0 0 (hz_A w)) M 41 [(0, .ref (hz_ad w 178))] []) : ∀ (n : Nat) (v1_16 : Int32) (M17 : hz_M), f_X11_silenceIn_L11 kk25 kk41 n v1_16 M17 = some (rE, ME) → hz_G p l e 4 hz_z0 s m args below meth c w N 2 (MQ below (hz_Qi w N rE ME) args s 0 0 (hz_A w)) M17 11 [(0, .ref (hz_ad w 178)), (1, .int v1_16)] [] := by
  intro n
  induction n with
  | zero =>
    intro v1_16 M17 h
    rw [f_X11_silenceIn_L11] at h
    cases h
  | succ n ih =>
    intro v1_16 M17 h
    rw [f_X11_silenceIn_L11] at h
    refine hz_iload_n hO dX11_silenceIn_11 rfl 1 rfl ?_
    refine hz_sipush (v := (200 : Int32)) hO dX11_silenceIn_12 (by decide) ?_
    refine hz_icmp_gt (tgt := 41) hO dX11_silenceIn_15 (by decide) (fun hc18 => ?_) (fun hc18 => ?_)
    · rw [if_pos hc18] at h
      exact hz_ls [0] rfl (gkk41 M17 h)
    · rw [if_neg hc18] at h
      refine hz_aload_n hO dX11_silenceIn_18 rfl 0 rfl ?_
      obtain ⟨r19, M20, hq21, h⟩ := hz_ct_e h
      refine hz_callVi (as := []) (rest := []) hO (c_X11_isSilence l w hN hq21) hz_cal_X11_isSilence hz_K_9 hz_sh_178 (hz_lt_178 hN) tw_8_74 (Nat.le_of_ble_eq_true rfl) rfl rfl (Nat.le_of_ble_eq_true rfl) dX11_silenceIn_19 ?_
      refine hz_if_eq (tgt := 31) hO dX11_silenceIn_22 (by decide) (fun hc22 => ?_) (fun hc22 => ?_)
      · rw [if_pos hc22] at h
        refine hz_aload_n hO dX11_silenceIn_31 rfl 0 rfl ?_
        obtain ⟨r23, M24, hq25, h⟩ := hz_ct_e h
        refine hz_callVv (as := []) (rest := []) hO (c_X11_minute l w hN hq25) hz_cal_X11_minute hz_K_9 hz_sh_178 (hz_lt_178 hN) tw_7_197 (Nat.le_of_ble_eq_true rfl) rfl rfl (Nat.le_of_ble_eq_true rfl) dX11_silenceIn_32 ?_
        obtain ⟨x26, h_x26, h⟩ := hz_lt_e h
        refine hz_iinc (k := 1) (v := x26) (ls1 := [(1, .int x26), (0, .ref (hz_ad w 178))]) hO dX11_silenceIn_35 rfl (by rw [h_x26]; rfl) (Nat.le_of_ble_eq_true rfl) rfl ?_
        refine hz_goto (tgt := 11) hO dX11_silenceIn_38 (by decide) ?_
        exact hz_ls [1, 0] rfl (ih x26 M24 h)
      · rw [if_neg hc22] at h
        exact hz_ls [0, 1] rfl (gkk25 v1_16 M20 h)
set_option maxRecDepth 100000 in
set_option maxHeartbeats 4000000 in
theorem c_X11_silenceIn (l : Launch) (w : hz_C) {N : Nat} (hN : 193 ≤ N) {M : hz_M} {rE : Int32} {ME : hz_M} (h : f_X11_silenceIn M = some (rE, ME)) : hz_Ct l yX11_silenceIn cX11_silenceIn 2 (some .int) 4 w N [.ref (hz_ad w 178)] M (hz_Qi w N rE ME) := by
  refine hz_ofW (by decide) rfl (Nat.le_of_ble_eq_true rfl) tw_8_228 ?_
  intro p e s m args below meth c hO
  show hz_G p l e 4 hz_z0 s m args below meth c w N 2 _ M 0 [(0, .ref (hz_ad w 178))] []
  unfold f_X11_silenceIn at h
  refine hz_aload_n hO dX11_silenceIn_0 rfl 0 rfl ?_
  refine hz_iconst (v := (0 : Int32)) hO dX11_silenceIn_1 (by decide) ?_
  obtain ⟨M1, h_M1, h⟩ := hz_lm_e h
  refine hz_putI (k := 8) (ty := .int) hO hz_K_9 tyX11_ok nmX11 hz_sh_178 (hz_lt_178 hN) rfl (Nat.le_of_ble_eq_true rfl) tw_6_237 rfl rfl rfl rfl rfl dX11_silenceIn_2 ?_
  refine hz_nameM h_M1 ?_
  refine hz_aload_n hO dX11_silenceIn_5 rfl 0 rfl ?_
  obtain ⟨r2, M3, hq4, h⟩ := hz_ct_e h
  refine hz_callVv (as := []) (rest := []) hO (c_X11_tries l w hN hq4) hz_cal_X11_tries hz_K_9 hz_sh_178 (hz_lt_178 hN) tw_8_209 (Nat.le_of_ble_eq_true rfl) rfl rfl (Nat.le_of_ble_eq_true rfl) dX11_silenceIn_6 ?_
  refine hz_iconst (v := (0 : Int32)) hO dX11_silenceIn_9 (by decide) ?_
  refine hz_istore_n (ls1 := [(1, .int (0 : Int32)), (0, .ref (hz_ad w 178))]) hO dX11_silenceIn_10 rfl (Nat.le_of_ble_eq_true rfl) rfl ?_
  obtain ⟨k9, hk9, h⟩ := hz_jn_e h
  have gk9 : ∀  (M5 : hz_M), k9 M5 = some (rE, ME) → hz_G p l e 4 hz_z0 s m args below meth c w N 2 (MQ below (hz_Qi w N rE ME) args s 0 0 (hz_A w)) M5 41 [(0, .ref (hz_ad w 178))] [] := by
    intro M5 h
    rw [hk9] at h
    dsimp only at h
    refine hz_aload_n hO dX11_silenceIn_41 rfl 0 rfl ?_
    refine hz_iconst (v := (-1 : Int32)) hO dX11_silenceIn_42 (by decide) ?_
    obtain ⟨r6, M7, hq8, h⟩ := hz_ct_e h
    refine hz_callVi (as := [.int (-1 : Int32)]) (rest := []) hO (c_X11_back l w hN (-1 : Int32) hq8) hz_cal_X11_back hz_K_9 hz_sh_178 (hz_lt_178 hN) tw_8_213 (Nat.le_of_ble_eq_true rfl) rfl rfl (Nat.le_of_ble_eq_true rfl) dX11_silenceIn_43 ?_
    exact hz_nameM (hz_some_e h).2.symm (hz_name (hz_some_e h).1.symm (hz_iret hO dX11_silenceIn_46))
  clear hk9
  obtain ⟨k15, hk15, h⟩ := hz_jn_e h
  have gk15 : ∀ (v1_10 : Int32) (M11 : hz_M), k15 v1_10 M11 = some (rE, ME) → hz_G p l e 4 hz_z0 s m args below meth c w N 2 (MQ below (hz_Qi w N rE ME) args s 0 0 (hz_A w)) M11 25 [(0, .ref (hz_ad w 178)), (1, .int v1_10)] [] := by
    intro v1_10 M11 h
    rw [hk15] at h
    dsimp only at h
    refine hz_aload_n hO dX11_silenceIn_25 rfl 0 rfl ?_
    refine hz_iload_n hO dX11_silenceIn_26 rfl 1 rfl ?_
    obtain ⟨r12, M13, hq14, h⟩ := hz_ct_e h
    refine hz_callVi (as := [.int v1_10]) (rest := []) hO (c_X11_back l w hN v1_10 hq14) hz_cal_X11_back hz_K_9 hz_sh_178 (hz_lt_178 hN) tw_8_213 (Nat.le_of_ble_eq_true rfl) rfl rfl (Nat.le_of_ble_eq_true rfl) dX11_silenceIn_27 ?_
    exact hz_nameM (hz_some_e h).2.symm (hz_name (hz_some_e h).1.symm (hz_iret hO dX11_silenceIn_30))
  clear hk15
  exact hz_ls [1, 0] rfl (g_X11_silenceIn_L11 hN hO _ gk15 _ gk9 _ (0 : Int32) M3 h)
def f_X11_ifValve (a1 : Int32) (a2 : Int32) (M : hz_M) : hz_O :=
  hz_lm (hz_set M 178 8 (0 : Int32)) fun M1 =>
  hz_ct (f_X11_isValve a1 M1) fun r2 M3 =>
  hz_jn (fun (v1_5 : Int32) (v2_6 : Int32) (q7 : Int32) (M8 : hz_M) =>
    hz_ct (f_X11_right q7 M8) fun r9 M10 =>
    if r9 = 0 then
      some ((0 : Int32), M10)
    else
      hz_ct (f_X11_tries M10) fun r13 M14 =>
      hz_gd (hz_in ((21 : Int32) + v1_5) 185) <|
      hz_lm (hz_set M14 179 (Int32.toNatClampNeg ((21 : Int32) + v1_5)) v2_6) fun M17 =>
      hz_ct (f_X11_nextHeat M17) fun r18 M19 =>
      hz_ct (f_X11_back r18 M19) fun r21 M22 =>
      some (r21, M22)
    ) fun k24 =>
  hz_jn (fun (v1_25 : Int32) (v2_26 : Int32) (M27 : hz_M) =>
    k24 v1_25 v2_26 (0 : Int32) M27
    ) fun k28 =>
  if r2 = 0 then
    k28 a1 a2 M3
  else
    hz_ct (f_X11_in a2 (0 : Int32) (9 : Int32) M3) fun r30 M31 =>
    if r30 = 0 then
      k28 a1 a2 M31
    else
      k24 a1 a2 (1 : Int32) M31
set_option maxRecDepth 100000 in
set_option maxHeartbeats 4000000 in
theorem c_X11_ifValve (l : Launch) (w : hz_C) {N : Nat} (hN : 193 ≤ N) (a1 : Int32) (a2 : Int32) {M : hz_M} {rE : Int32} {ME : hz_M} (h : f_X11_ifValve a1 a2 M = some (rE, ME)) : hz_Ct l yX11_ifValve cX11_ifValve 3 (some .int) 2 w N [.ref (hz_ad w 178), .int a1, .int a2] M (hz_Qi w N rE ME) := by
  refine hz_ofW (by decide) rfl (Nat.le_of_ble_eq_true rfl) tw_8_232 ?_
  intro p e s m args below meth c hO
  show hz_G p l e 2 hz_z0 s m args below meth c w N 3 _ M 0 [(0, .ref (hz_ad w 178)), (1, .int a1), (2, .int a2)] []
  unfold f_X11_ifValve at h
  refine hz_aload_n hO dX11_ifValve_0 rfl 0 rfl ?_
  refine hz_iconst (v := (0 : Int32)) hO dX11_ifValve_1 (by decide) ?_
  obtain ⟨M1, h_M1, h⟩ := hz_lm_e h
  refine hz_putI (k := 8) (ty := .int) hO hz_K_9 tyX11_ok nmX11 hz_sh_178 (hz_lt_178 hN) rfl (Nat.le_of_ble_eq_true rfl) tw_6_237 rfl rfl rfl rfl rfl dX11_ifValve_2 ?_
  refine hz_nameM h_M1 ?_
  refine hz_aload_n hO dX11_ifValve_5 rfl 0 rfl ?_
  refine hz_aload_n hO dX11_ifValve_6 rfl 0 rfl ?_
  refine hz_iload_n hO dX11_ifValve_7 rfl 1 rfl ?_
  obtain ⟨r2, M3, hq4, h⟩ := hz_ct_e h
  refine hz_callVi (as := [.int a1]) (rest := [.ref (hz_ad w 178)]) hO (c_X11_isValve l w hN a1 hq4) hz_cal_X11_isValve hz_K_9 hz_sh_178 (hz_lt_178 hN) tw_7_181 (Nat.le_of_ble_eq_true rfl) rfl rfl (Nat.le_of_ble_eq_true rfl) dX11_ifValve_8 ?_
  obtain ⟨k24, hk24, h⟩ := hz_jn_e h
  have gk24 : ∀ (v1_5 : Int32) (v2_6 : Int32) (q7 : Int32) (M8 : hz_M), k24 v1_5 v2_6 q7 M8 = some (rE, ME) → hz_G p l e 2 hz_z0 s m args below meth c w N 3 (MQ below (hz_Qi w N rE ME) args s 0 0 (hz_A w)) M8 29 [(0, .ref (hz_ad w 178)), (1, .int v1_5), (2, .int v2_6)] [.int q7, .ref (hz_ad w 178)] := by
    intro v1_5 v2_6 q7 M8 h
    rw [hk24] at h
    dsimp only at h
    obtain ⟨r9, M10, hq11, h⟩ := hz_ct_e h
    refine hz_callVi (as := [.int q7]) (rest := []) hO (c_X11_right l w hN q7 hq11) hz_cal_X11_right hz_K_9 hz_sh_178 (hz_lt_178 hN) tw_8_82 (Nat.le_of_ble_eq_true rfl) rfl rfl (Nat.le_of_ble_eq_true rfl) dX11_ifValve_29 ?_
    refine hz_if_ne (tgt := 37) hO dX11_ifValve_32 (by decide) (fun hc12 => ?_) (fun hc12 => ?_)
    · rw [if_neg hc12] at h
      refine hz_aload_n hO dX11_ifValve_37 rfl 0 rfl ?_
      obtain ⟨r13, M14, hq15, h⟩ := hz_ct_e h
      refine hz_callVv (as := []) (rest := []) hO (c_X11_tries l w hN hq15) hz_cal_X11_tries hz_K_9 hz_sh_178 (hz_lt_178 hN) tw_8_209 (Nat.le_of_ble_eq_true rfl) rfl rfl (Nat.le_of_ble_eq_true rfl) dX11_ifValve_38 ?_
      refine hz_aload_n hO dX11_ifValve_41 rfl 0 rfl ?_
      refine hz_getR (k := 0) hO 179 hz_K_9 hz_sh_178 (hz_lt_178 hN) rfl (Nat.le_of_ble_eq_true rfl) tw_6_229 rfl dX11_ifValve_42 ?_
      refine hz_bipush (v := (21 : Int32)) hO dX11_ifValve_45 (by decide) ?_
      refine hz_iload_n hO dX11_ifValve_47 rfl 1 rfl ?_
      refine hz_iadd hO dX11_ifValve_48 ?_
      refine hz_iload_n hO dX11_ifValve_49 rfl 2 rfl ?_
      obtain ⟨hg16, h⟩ := hz_gd_e h
      obtain ⟨M17, h_M17, h⟩ := hz_lm_e h
      refine hz_iast hO hz_sh_179 (hz_lt_179 hN) hg16 dX11_ifValve_50 ?_
      refine hz_nameM h_M17 ?_
      refine hz_aload_n hO dX11_ifValve_51 rfl 0 rfl ?_
      refine hz_aload_n hO dX11_ifValve_52 rfl 0 rfl ?_
      obtain ⟨r18, M19, hq20, h⟩ := hz_ct_e h
      refine hz_callVi (as := []) (rest := [.ref (hz_ad w 178)]) hO (c_X11_nextHeat l w hN hq20) hz_cal_X11_nextHeat hz_K_9 hz_sh_178 (hz_lt_178 hN) tw_7_201 (Nat.le_of_ble_eq_true rfl) rfl rfl (Nat.le_of_ble_eq_true rfl) dX11_ifValve_53 ?_
      obtain ⟨r21, M22, hq23, h⟩ := hz_ct_e h
      refine hz_callVi (as := [.int r18]) (rest := []) hO (c_X11_back l w hN r18 hq23) hz_cal_X11_back hz_K_9 hz_sh_178 (hz_lt_178 hN) tw_8_213 (Nat.le_of_ble_eq_true rfl) rfl rfl (Nat.le_of_ble_eq_true rfl) dX11_ifValve_56 ?_
      exact hz_nameM (hz_some_e h).2.symm (hz_name (hz_some_e h).1.symm (hz_iret hO dX11_ifValve_59))
    · rw [if_pos hc12] at h
      refine hz_iconst (v := (0 : Int32)) hO dX11_ifValve_35 (by decide) ?_
      exact hz_nameM (hz_some_e h).2.symm (hz_name (hz_some_e h).1.symm (hz_iret hO dX11_ifValve_36))
  clear hk24
  obtain ⟨k28, hk28, h⟩ := hz_jn_e h
  have gk28 : ∀ (v1_25 : Int32) (v2_26 : Int32) (M27 : hz_M), k28 v1_25 v2_26 M27 = some (rE, ME) → hz_G p l e 2 hz_z0 s m args below meth c w N 3 (MQ below (hz_Qi w N rE ME) args s 0 0 (hz_A w)) M27 28 [(0, .ref (hz_ad w 178)), (1, .int v1_25), (2, .int v2_26)] [.ref (hz_ad w 178)] := by
    intro v1_25 v2_26 M27 h
    rw [hk28] at h
    dsimp only at h
    refine hz_iconst (v := (0 : Int32)) hO dX11_ifValve_28 (by decide) ?_
    exact hz_ls [0, 1, 2] rfl (gk24 v1_25 v2_26 (0 : Int32) M27 h)
  clear hk28
  refine hz_if_eq (tgt := 28) hO dX11_ifValve_11 (by decide) (fun hc29 => ?_) (fun hc29 => ?_)
  · rw [if_pos hc29] at h
    exact hz_ls [0, 1, 2] rfl (gk28 a1 a2 M3 h)
  · rw [if_neg hc29] at h
    refine hz_iload_n hO dX11_ifValve_14 rfl 2 rfl ?_
    refine hz_iconst (v := (0 : Int32)) hO dX11_ifValve_15 (by decide) ?_
    refine hz_bipush (v := (9 : Int32)) hO dX11_ifValve_16 (by decide) ?_
    obtain ⟨r30, M31, hq32, h⟩ := hz_ct_e h
    refine hz_callSi (as := [.int a2, .int (0 : Int32), .int (9 : Int32)]) (rest := [.ref (hz_ad w 178)]) hO (c_X11_in l w hN a2 (0 : Int32) (9 : Int32) hq32) hz_cal_X11_in tw_6_171 (Nat.le_of_ble_eq_true rfl) rfl rfl (Nat.le_of_ble_eq_true rfl) dX11_ifValve_18 ?_
    refine hz_if_eq (tgt := 28) hO dX11_ifValve_21 (by decide) (fun hc33 => ?_) (fun hc33 => ?_)
    · rw [if_pos hc33] at h
      exact hz_ls [0, 1, 2] rfl (gk28 a1 a2 M31 h)
    · rw [if_neg hc33] at h
      refine hz_iconst (v := (1 : Int32)) hO dX11_ifValve_24 (by decide) ?_
      refine hz_goto (tgt := 29) hO dX11_ifValve_25 (by decide) ?_
      exact hz_ls [0, 1, 2] rfl (gk24 a1 a2 (1 : Int32) M31 h)
def f_X11_keeps_L52 (kk86 : hz_M → hz_O) : Nat → Int32 → hz_M → hz_O
  | 0, _, _ => none
  | n + 1, v1_5, M6 =>
    if (185 : Int32) ≤ v1_5 then
      kk86 M6
    else
      hz_gd (hz_in v1_5 185) <|
      hz_gd (hz_in (((185 : Int32) * (M6 178 6)) + v1_5) 1480) <|
      hz_lm (hz_set M6 182 (Int32.toNatClampNeg (((185 : Int32) * (M6 178 6)) + v1_5)) (M6 179 (Int32.toNatClampNeg v1_5))) fun M10 =>
      hz_lt (v1_5 + (1 : Int32)) fun x11 =>
      f_X11_keeps_L52 kk86 n x11 M10
def f_X11_keeps_L11 (kk40 : hz_M → hz_O) : Nat → Int32 → hz_M → hz_O
  | 0, _, _ => none
  | n + 1, v1_17, M18 =>
    if (1295 : Int32) ≤ v1_17 then
      kk40 M18
    else
      hz_gd (hz_in (v1_17 + (185 : Int32)) 1480) <|
      hz_gd (hz_in v1_17 1480) <|
      hz_lm (hz_set M18 182 (Int32.toNatClampNeg v1_17) (M18 182 (Int32.toNatClampNeg (v1_17 + (185 : Int32))))) fun M22 =>
      hz_lt (v1_17 + (1 : Int32)) fun x23 =>
      f_X11_keeps_L11 kk40 n x23 M22
def f_X11_keeps (M : hz_M) : hz_O :=
  hz_jn (fun  (M1 : hz_M) =>
    hz_jn (fun  (M2 : hz_M) =>
      hz_lm (hz_set M2 178 6 ((M2 178 6) + (1 : Int32))) fun M3 =>
      some (0, M3)
      ) fun k4 =>
    f_X11_keeps_L52 k4 hz_FU (0 : Int32) M1
    ) fun k12 =>
  if (M 178 6) = (8 : Int32) then
    hz_jn (fun  (M14 : hz_M) =>
      hz_lm (hz_set M14 178 6 ((M14 178 6) - (1 : Int32))) fun M15 =>
      k12 M15
      ) fun k16 =>
    f_X11_keeps_L11 k16 hz_FU (0 : Int32) M
  else
    k12 M
set_option maxRecDepth 100000 in
set_option maxHeartbeats 4000000 in
theorem g_X11_keeps_L52 {p : Program} {l : Launch} {e : Env} {s : State} {m : MethodId} {args : Array Value} {below : List Frame} {meth : Method} {c : Code} {w : hz_C} {N : Nat} (hN : 193 ≤ N) {rE : Int32} {ME : hz_M} (hO : hz_Ok p s m args meth c w cX11_keeps 2 RX11 none) (kk86 : hz_M → hz_O) (gkk86 : ∀  (M : hz_M), kk86 M = some (rE, ME) → hz_G p l e 0 hz_z0 s m args below meth c w N 2 (MQ below (hz_Qv w N ME) args s 0 0 (hz_A w)) M 86 [(0, .ref (hz_ad w 178))] []) : ∀ (n : Nat) (v1_5 : Int32) (M6 : hz_M), f_X11_keeps_L52 kk86 n v1_5 M6 = some (rE, ME) → hz_G p l e 0 hz_z0 s m args below meth c w N 2 (MQ below (hz_Qv w N ME) args s 0 0 (hz_A w)) M6 52 [(0, .ref (hz_ad w 178)), (1, .int v1_5)] [] := by
  intro n
  induction n with
  | zero =>
    intro v1_5 M6 h
    rw [f_X11_keeps_L52] at h
    cases h
  | succ n ih =>
    intro v1_5 M6 h
    rw [f_X11_keeps_L52] at h
    refine hz_iload_n hO dX11_keeps_52 rfl 1 rfl ?_
    refine hz_sipush (v := (185 : Int32)) hO dX11_keeps_53 (by decide) ?_
    refine hz_icmp_ge (tgt := 86) hO dX11_keeps_56 (by decide) (fun hc7 => ?_) (fun hc7 => ?_)
    · rw [if_pos hc7] at h
      exact hz_ls [0] rfl (gkk86 M6 h)
    · rw [if_neg hc7] at h
      refine hz_aload_n hO dX11_keeps_59 rfl 0 rfl ?_
      refine hz_getR (k := 3) hO 182 hz_K_9 hz_sh_178 (hz_lt_178 hN) rfl (Nat.le_of_ble_eq_true rfl) tw_6_232 rfl dX11_keeps_60 ?_
      refine hz_sipush (v := (185 : Int32)) hO dX11_keeps_63 (by decide) ?_
      refine hz_aload_n hO dX11_keeps_66 rfl 0 rfl ?_
      refine hz_getI (k := 6) hO hz_K_9 hz_sh_178 (hz_lt_178 hN) rfl (Nat.le_of_ble_eq_true rfl) tw_6_235 rfl dX11_keeps_67 ?_
      refine hz_imul hO dX11_keeps_70 ?_
      refine hz_iload_n hO dX11_keeps_71 rfl 1 rfl ?_
      refine hz_iadd hO dX11_keeps_72 ?_
      refine hz_aload_n hO dX11_keeps_73 rfl 0 rfl ?_
      refine hz_getR (k := 0) hO 179 hz_K_9 hz_sh_178 (hz_lt_178 hN) rfl (Nat.le_of_ble_eq_true rfl) tw_6_229 rfl dX11_keeps_74 ?_
      refine hz_iload_n hO dX11_keeps_77 rfl 1 rfl ?_
      obtain ⟨hg8, h⟩ := hz_gd_e h
      refine hz_iald hO hz_sh_179 (hz_lt_179 hN) hg8 dX11_keeps_78 ?_
      obtain ⟨hg9, h⟩ := hz_gd_e h
      obtain ⟨M10, h_M10, h⟩ := hz_lm_e h
      refine hz_iast hO hz_sh_182 (hz_lt_182 hN) hg9 dX11_keeps_79 ?_
      refine hz_nameM h_M10 ?_
      obtain ⟨x11, h_x11, h⟩ := hz_lt_e h
      refine hz_iinc (k := 1) (v := x11) (ls1 := [(1, .int x11), (0, .ref (hz_ad w 178))]) hO dX11_keeps_80 rfl (by rw [h_x11]; rfl) (Nat.le_of_ble_eq_true rfl) rfl ?_
      refine hz_goto (tgt := 52) hO dX11_keeps_83 (by decide) ?_
      exact hz_ls [1, 0] rfl (ih x11 M10 h)
set_option maxRecDepth 100000 in
set_option maxHeartbeats 4000000 in
theorem g_X11_keeps_L11 {p : Program} {l : Launch} {e : Env} {s : State} {m : MethodId} {args : Array Value} {below : List Frame} {meth : Method} {c : Code} {w : hz_C} {N : Nat} (hN : 193 ≤ N) {rE : Int32} {ME : hz_M} (hO : hz_Ok p s m args meth c w cX11_keeps 2 RX11 none) (kk40 : hz_M → hz_O) (gkk40 : ∀  (M : hz_M), kk40 M = some (rE, ME) → hz_G p l e 0 hz_z0 s m args below meth c w N 2 (MQ below (hz_Qv w N ME) args s 0 0 (hz_A w)) M 40 [(0, .ref (hz_ad w 178))] []) : ∀ (n : Nat) (v1_17 : Int32) (M18 : hz_M), f_X11_keeps_L11 kk40 n v1_17 M18 = some (rE, ME) → hz_G p l e 0 hz_z0 s m args below meth c w N 2 (MQ below (hz_Qv w N ME) args s 0 0 (hz_A w)) M18 11 [(0, .ref (hz_ad w 178)), (1, .int v1_17)] [] := by
  intro n
  induction n with
  | zero =>
    intro v1_17 M18 h
    rw [f_X11_keeps_L11] at h
    cases h
  | succ n ih =>
    intro v1_17 M18 h
    rw [f_X11_keeps_L11] at h
    refine hz_iload_n hO dX11_keeps_11 rfl 1 rfl ?_
    refine hz_sipush (v := (1295 : Int32)) hO dX11_keeps_12 (by decide) ?_
    refine hz_icmp_ge (tgt := 40) hO dX11_keeps_15 (by decide) (fun hc19 => ?_) (fun hc19 => ?_)
    · rw [if_pos hc19] at h
      exact hz_ls [0] rfl (gkk40 M18 h)
    · rw [if_neg hc19] at h
      refine hz_aload_n hO dX11_keeps_18 rfl 0 rfl ?_
      refine hz_getR (k := 3) hO 182 hz_K_9 hz_sh_178 (hz_lt_178 hN) rfl (Nat.le_of_ble_eq_true rfl) tw_6_232 rfl dX11_keeps_19 ?_
      refine hz_iload_n hO dX11_keeps_22 rfl 1 rfl ?_
      refine hz_aload_n hO dX11_keeps_23 rfl 0 rfl ?_
      refine hz_getR (k := 3) hO 182 hz_K_9 hz_sh_178 (hz_lt_178 hN) rfl (Nat.le_of_ble_eq_true rfl) tw_6_232 rfl dX11_keeps_24 ?_
      refine hz_iload_n hO dX11_keeps_27 rfl 1 rfl ?_
      refine hz_sipush (v := (185 : Int32)) hO dX11_keeps_28 (by decide) ?_
      refine hz_iadd hO dX11_keeps_31 ?_
      obtain ⟨hg20, h⟩ := hz_gd_e h
      refine hz_iald hO hz_sh_182 (hz_lt_182 hN) hg20 dX11_keeps_32 ?_
      obtain ⟨hg21, h⟩ := hz_gd_e h
      obtain ⟨M22, h_M22, h⟩ := hz_lm_e h
      refine hz_iast hO hz_sh_182 (hz_lt_182 hN) hg21 dX11_keeps_33 ?_
      refine hz_nameM h_M22 ?_
      obtain ⟨x23, h_x23, h⟩ := hz_lt_e h
      refine hz_iinc (k := 1) (v := x23) (ls1 := [(1, .int x23), (0, .ref (hz_ad w 178))]) hO dX11_keeps_34 rfl (by rw [h_x23]; rfl) (Nat.le_of_ble_eq_true rfl) rfl ?_
      refine hz_goto (tgt := 11) hO dX11_keeps_37 (by decide) ?_
      exact hz_ls [1, 0] rfl (ih x23 M22 h)
set_option maxRecDepth 100000 in
set_option maxHeartbeats 4000000 in
theorem c_X11_keeps (l : Launch) (w : hz_C) {N : Nat} (hN : 193 ≤ N) {M : hz_M} {rE : Int32} {ME : hz_M} (h : f_X11_keeps M = some (rE, ME)) : hz_Ct l yX11_keeps cX11_keeps 2 none 0 w N [.ref (hz_ad w 178)] M (hz_Qv w N ME) := by
  refine hz_ofW (by decide) rfl (Nat.le_of_ble_eq_true rfl) tw_7_140 ?_
  intro p e s m args below meth c hO
  show hz_G p l e 0 hz_z0 s m args below meth c w N 2 _ M 0 [(0, .ref (hz_ad w 178))] []
  unfold f_X11_keeps at h
  refine hz_aload_n hO dX11_keeps_0 rfl 0 rfl ?_
  refine hz_getI (k := 6) hO hz_K_9 hz_sh_178 (hz_lt_178 hN) rfl (Nat.le_of_ble_eq_true rfl) tw_6_235 rfl dX11_keeps_1 ?_
  refine hz_bipush (v := (8 : Int32)) hO dX11_keeps_4 (by decide) ?_
  obtain ⟨k12, hk12, h⟩ := hz_jn_e h
  have gk12 : ∀  (M1 : hz_M), k12 M1 = some (rE, ME) → hz_G p l e 0 hz_z0 s m args below meth c w N 2 (MQ below (hz_Qv w N ME) args s 0 0 (hz_A w)) M1 50 [(0, .ref (hz_ad w 178))] [] := by
    intro M1 h
    rw [hk12] at h
    dsimp only at h
    refine hz_iconst (v := (0 : Int32)) hO dX11_keeps_50 (by decide) ?_
    refine hz_istore_n (ls1 := [(1, .int (0 : Int32)), (0, .ref (hz_ad w 178))]) hO dX11_keeps_51 rfl (Nat.le_of_ble_eq_true rfl) rfl ?_
    obtain ⟨k4, hk4, h⟩ := hz_jn_e h
    have gk4 : ∀  (M2 : hz_M), k4 M2 = some (rE, ME) → hz_G p l e 0 hz_z0 s m args below meth c w N 2 (MQ below (hz_Qv w N ME) args s 0 0 (hz_A w)) M2 86 [(0, .ref (hz_ad w 178))] [] := by
      intro M2 h
      rw [hk4] at h
      dsimp only at h
      refine hz_aload_n hO dX11_keeps_86 rfl 0 rfl ?_
      refine hz_dup hO dX11_keeps_87 rfl ?_
      refine hz_getI (k := 6) hO hz_K_9 hz_sh_178 (hz_lt_178 hN) rfl (Nat.le_of_ble_eq_true rfl) tw_6_235 rfl dX11_keeps_88 ?_
      refine hz_iconst (v := (1 : Int32)) hO dX11_keeps_91 (by decide) ?_
      refine hz_iadd hO dX11_keeps_92 ?_
      obtain ⟨M3, h_M3, h⟩ := hz_lm_e h
      refine hz_putI (k := 6) (ty := .int) hO hz_K_9 tyX11_ok nmX11 hz_sh_178 (hz_lt_178 hN) rfl (Nat.le_of_ble_eq_true rfl) tw_6_235 rfl rfl rfl rfl rfl dX11_keeps_93 ?_
      refine hz_nameM h_M3 ?_
      exact hz_nameM (hz_some_e h).2.symm (hz_vret hO dX11_keeps_96)
    clear hk4
    exact hz_ls [1, 0] rfl (g_X11_keeps_L52 hN hO _ gk4 _ (0 : Int32) M1 h)
  clear hk12
  refine hz_icmp_ne (tgt := 50) hO dX11_keeps_6 (by decide) (fun hc13 => ?_) (fun hc13 => ?_)
  · rw [if_neg hc13] at h
    exact hz_ls [0] rfl (gk12 M h)
  · rw [if_pos hc13] at h
    refine hz_iconst (v := (0 : Int32)) hO dX11_keeps_9 (by decide) ?_
    refine hz_istore_n (ls1 := [(1, .int (0 : Int32)), (0, .ref (hz_ad w 178))]) hO dX11_keeps_10 rfl (Nat.le_of_ble_eq_true rfl) rfl ?_
    obtain ⟨k16, hk16, h⟩ := hz_jn_e h
    have gk16 : ∀  (M14 : hz_M), k16 M14 = some (rE, ME) → hz_G p l e 0 hz_z0 s m args below meth c w N 2 (MQ below (hz_Qv w N ME) args s 0 0 (hz_A w)) M14 40 [(0, .ref (hz_ad w 178))] [] := by
      intro M14 h
      rw [hk16] at h
      dsimp only at h
      refine hz_aload_n hO dX11_keeps_40 rfl 0 rfl ?_
      refine hz_dup hO dX11_keeps_41 rfl ?_
      refine hz_getI (k := 6) hO hz_K_9 hz_sh_178 (hz_lt_178 hN) rfl (Nat.le_of_ble_eq_true rfl) tw_6_235 rfl dX11_keeps_42 ?_
      refine hz_iconst (v := (1 : Int32)) hO dX11_keeps_45 (by decide) ?_
      refine hz_isub hO dX11_keeps_46 ?_
      obtain ⟨M15, h_M15, h⟩ := hz_lm_e h
      refine hz_putI (k := 6) (ty := .int) hO hz_K_9 tyX11_ok nmX11 hz_sh_178 (hz_lt_178 hN) rfl (Nat.le_of_ble_eq_true rfl) tw_6_235 rfl rfl rfl rfl rfl dX11_keeps_47 ?_
      refine hz_nameM h_M15 ?_
      exact hz_ls [0] rfl (gk12 M15 h)
    clear hk16
    exact hz_ls [1, 0] rfl (g_X11_keeps_L11 hN hO _ gk16 _ (0 : Int32) M h)
def f_X11_changes (M : hz_M) : hz_O :=
  if (M 178 24) = 0 then
    hz_ct (f_X11_keeps M) fun r2 M3 =>
    some (0, M3)
  else
    some (0, M)
set_option maxRecDepth 100000 in
set_option maxHeartbeats 4000000 in
theorem c_X11_changes (l : Launch) (w : hz_C) {N : Nat} (hN : 193 ≤ N) {M : hz_M} {rE : Int32} {ME : hz_M} (h : f_X11_changes M = some (rE, ME)) : hz_Ct l yX11_changes cX11_changes 1 none 1 w N [.ref (hz_ad w 178)] M (hz_Qv w N ME) := by
  refine hz_ofW (by decide) rfl (Nat.le_of_ble_eq_true rfl) tw_7_156 ?_
  intro p e s m args below meth c hO
  show hz_G p l e 1 hz_z0 s m args below meth c w N 1 _ M 0 [(0, .ref (hz_ad w 178))] []
  unfold f_X11_changes at h
  refine hz_aload_n hO dX11_changes_0 rfl 0 rfl ?_
  refine hz_getI (k := 24) hO hz_K_9 hz_sh_178 (hz_lt_178 hN) rfl (Nat.le_of_ble_eq_true rfl) tw_7_13 rfl dX11_changes_1 ?_
  refine hz_if_ne (tgt := 11) hO dX11_changes_4 (by decide) (fun hc1 => ?_) (fun hc1 => ?_)
  · rw [if_neg hc1] at h
    exact hz_nameM (hz_some_e h).2.symm (hz_vret hO dX11_changes_11)
  · rw [if_pos hc1] at h
    refine hz_aload_n hO dX11_changes_7 rfl 0 rfl ?_
    obtain ⟨r2, M3, hq4, h⟩ := hz_ct_e h
    refine hz_callVv (as := []) (rest := []) hO (c_X11_keeps l w hN hq4) hz_cal_X11_keeps hz_K_9 hz_sh_178 (hz_lt_178 hN) tw_7_137 (Nat.le_of_ble_eq_true rfl) rfl rfl (Nat.le_of_ble_eq_true rfl) dX11_changes_8 ?_
    exact hz_nameM (hz_some_e h).2.symm (hz_vret hO dX11_changes_11)
def f_X11_refuses (a1 : Int32) (M : hz_M) : hz_O :=
  hz_lm (hz_set M 178 7 ((M 178 7) + (1 : Int32))) fun M1 =>
  some (a1, M1)
set_option maxRecDepth 100000 in
set_option maxHeartbeats 4000000 in
theorem c_X11_refuses (l : Launch) (w : hz_C) {N : Nat} (hN : 193 ≤ N) (a1 : Int32) {M : hz_M} {rE : Int32} {ME : hz_M} (h : f_X11_refuses a1 M = some (rE, ME)) : hz_Ct l yX11_refuses cX11_refuses 2 (some .int) 0 w N [.ref (hz_ad w 178), .int a1] M (hz_Qi w N rE ME) := by
  refine hz_ofW (by decide) rfl (Nat.le_of_ble_eq_true rfl) tw_7_196 ?_
  intro p e s m args below meth c hO
  show hz_G p l e 0 hz_z0 s m args below meth c w N 2 _ M 0 [(0, .ref (hz_ad w 178)), (1, .int a1)] []
  unfold f_X11_refuses at h
  refine hz_aload_n hO dX11_refuses_0 rfl 0 rfl ?_
  refine hz_dup hO dX11_refuses_1 rfl ?_
  refine hz_getI (k := 7) hO hz_K_9 hz_sh_178 (hz_lt_178 hN) rfl (Nat.le_of_ble_eq_true rfl) tw_6_236 rfl dX11_refuses_2 ?_
  refine hz_iconst (v := (1 : Int32)) hO dX11_refuses_5 (by decide) ?_
  refine hz_iadd hO dX11_refuses_6 ?_
  obtain ⟨M1, h_M1, h⟩ := hz_lm_e h
  refine hz_putI (k := 7) (ty := .int) hO hz_K_9 tyX11_ok nmX11 hz_sh_178 (hz_lt_178 hN) rfl (Nat.le_of_ble_eq_true rfl) tw_6_236 rfl rfl rfl rfl rfl dX11_refuses_7 ?_
  refine hz_nameM h_M1 ?_
  refine hz_iload_n hO dX11_refuses_10 rfl 1 rfl ?_
  exact hz_nameM (hz_some_e h).2.symm (hz_name (hz_some_e h).1.symm (hz_iret hO dX11_refuses_11))
def f_X11_entering (a1 : Int32) (M : hz_M) : hz_O :=
  hz_ct (f_X11_noEntering a1 M) fun r1 M2 =>
  if r1 = 0 then
    hz_ct (f_X11_changes M2) fun r5 M6 =>
    hz_ct (f_X11_driestOne M6) fun r8 M9 =>
    hz_ct (f_X11_freeLocker M9) fun r11 M12 =>
    hz_ct (f_X11_puts a1 (3 : Int32) r11 M12) fun r14 M15 =>
    hz_ct (f_X11_puts a1 (4 : Int32) r8 M15) fun r17 M18 =>
    hz_ct (f_X11_putT r8 (1 : Int32) (-1 : Int32) M18) fun r20 M21 =>
    hz_ct (f_X11_puts a1 (2 : Int32) (0 : Int32) M21) fun r23 M24 =>
    hz_ct (f_X11_puts a1 (5 : Int32) (0 : Int32) M24) fun r26 M27 =>
    hz_ct (f_X11_counts (0 : Int32) (1 : Int32) M27) fun r29 M30 =>
    hz_ct (f_X11_of a1 (3 : Int32) M30) fun r32 M33 =>
    some (r32, M33)
  else
    hz_ct (f_X11_refuses (-2 : Int32) M2) fun r35 M36 =>
    some (r35, M36)
set_option maxRecDepth 100000 in
set_option maxHeartbeats 4000000 in
theorem c_X11_entering (l : Launch) (w : hz_C) {N : Nat} (hN : 193 ≤ N) (a1 : Int32) {M : hz_M} {rE : Int32} {ME : hz_M} (h : f_X11_entering a1 M = some (rE, ME)) : hz_Ct l yX11_entering cX11_entering 3 (some .int) 4 w N [.ref (hz_ad w 178), .int a1] M (hz_Qi w N rE ME) := by
  refine hz_ofW (by decide) rfl (Nat.le_of_ble_eq_true rfl) tw_7_233 ?_
  intro p e s m args below meth c hO
  show hz_G p l e 4 hz_z0 s m args below meth c w N 3 _ M 0 [(0, .ref (hz_ad w 178)), (1, .int a1)] []
  unfold f_X11_entering at h
  refine hz_aload_n hO dX11_entering_0 rfl 0 rfl ?_
  refine hz_iload_n hO dX11_entering_1 rfl 1 rfl ?_
  obtain ⟨r1, M2, hq3, h⟩ := hz_ct_e h
  refine hz_callVi (as := [.int a1]) (rest := []) hO (c_X11_noEntering l w hN a1 hq3) hz_cal_X11_noEntering hz_K_9 hz_sh_178 (hz_lt_178 hN) tw_7_234 (Nat.le_of_ble_eq_true rfl) rfl rfl (Nat.le_of_ble_eq_true rfl) dX11_entering_2 ?_
  refine hz_if_eq (tgt := 15) hO dX11_entering_5 (by decide) (fun hc4 => ?_) (fun hc4 => ?_)
  · rw [if_pos hc4] at h
    refine hz_aload_n hO dX11_entering_15 rfl 0 rfl ?_
    obtain ⟨r5, M6, hq7, h⟩ := hz_ct_e h
    refine hz_callVv (as := []) (rest := []) hO (c_X11_changes l w hN hq7) hz_cal_X11_changes hz_K_9 hz_sh_178 (hz_lt_178 hN) tw_7_153 (Nat.le_of_ble_eq_true rfl) rfl rfl (Nat.le_of_ble_eq_true rfl) dX11_entering_16 ?_
    refine hz_aload_n hO dX11_entering_19 rfl 0 rfl ?_
    obtain ⟨r8, M9, hq10, h⟩ := hz_ct_e h
    refine hz_callVi (as := []) (rest := []) hO (c_X11_driestOne l w hN hq10) hz_cal_X11_driestOne hz_K_9 hz_sh_178 (hz_lt_178 hN) tw_8_10 (Nat.le_of_ble_eq_true rfl) rfl rfl (Nat.le_of_ble_eq_true rfl) dX11_entering_20 ?_
    refine hz_istore_n (ls1 := [(2, .int r8), (0, .ref (hz_ad w 178)), (1, .int a1)]) hO dX11_entering_23 rfl (Nat.le_of_ble_eq_true rfl) rfl ?_
    refine hz_aload_n hO dX11_entering_24 rfl 1 rfl ?_
    refine hz_iload_n hO dX11_entering_25 rfl 2 rfl ?_
    refine hz_iconst (v := (3 : Int32)) hO dX11_entering_26 (by decide) ?_
    refine hz_aload_n hO dX11_entering_27 rfl 1 rfl ?_
    obtain ⟨r11, M12, hq13, h⟩ := hz_ct_e h
    refine hz_callVi (as := []) (rest := [.int (3 : Int32), .int a1, .ref (hz_ad w 178)]) hO (c_X11_freeLocker l w hN hq13) hz_cal_X11_freeLocker hz_K_9 hz_sh_178 (hz_lt_178 hN) tw_8_2 (Nat.le_of_ble_eq_true rfl) rfl rfl (Nat.le_of_ble_eq_true rfl) dX11_entering_28 ?_
    obtain ⟨r14, M15, hq16, h⟩ := hz_ct_e h
    refine hz_callVv (as := [.int a1, .int (3 : Int32), .int r11]) (rest := []) hO (c_X11_puts l w hN a1 (3 : Int32) r11 hq16) hz_cal_X11_puts hz_K_9 hz_sh_178 (hz_lt_178 hN) tw_6_221 (Nat.le_of_ble_eq_true rfl) rfl rfl (Nat.le_of_ble_eq_true rfl) dX11_entering_31 ?_
    refine hz_aload_n hO dX11_entering_34 rfl 1 rfl ?_
    refine hz_iload_n hO dX11_entering_35 rfl 2 rfl ?_
    refine hz_iconst (v := (4 : Int32)) hO dX11_entering_36 (by decide) ?_
    refine hz_iload_n hO dX11_entering_37 rfl 0 rfl ?_
    obtain ⟨r17, M18, hq19, h⟩ := hz_ct_e h
    refine hz_callVv (as := [.int a1, .int (4 : Int32), .int r8]) (rest := []) hO (c_X11_puts l w hN a1 (4 : Int32) r8 hq19) hz_cal_X11_puts hz_K_9 hz_sh_178 (hz_lt_178 hN) tw_6_221 (Nat.le_of_ble_eq_true rfl) rfl rfl (Nat.le_of_ble_eq_true rfl) dX11_entering_38 ?_
    refine hz_aload_n hO dX11_entering_41 rfl 1 rfl ?_
    refine hz_iload_n hO dX11_entering_42 rfl 0 rfl ?_
    refine hz_iconst (v := (1 : Int32)) hO dX11_entering_43 (by decide) ?_
    refine hz_iconst (v := (-1 : Int32)) hO dX11_entering_44 (by decide) ?_
    obtain ⟨r20, M21, hq22, h⟩ := hz_ct_e h
    refine hz_callVv (as := [.int r8, .int (1 : Int32), .int (-1 : Int32)]) (rest := []) hO (c_X11_putT l w hN r8 (1 : Int32) (-1 : Int32) hq22) hz_cal_X11_putT hz_K_9 hz_sh_178 (hz_lt_178 hN) tw_6_225 (Nat.le_of_ble_eq_true rfl) rfl rfl (Nat.le_of_ble_eq_true rfl) dX11_entering_45 ?_
    refine hz_aload_n hO dX11_entering_48 rfl 1 rfl ?_
    refine hz_iload_n hO dX11_entering_49 rfl 2 rfl ?_
    refine hz_iconst (v := (2 : Int32)) hO dX11_entering_50 (by decide) ?_
    refine hz_iconst (v := (0 : Int32)) hO dX11_entering_51 (by decide) ?_
    obtain ⟨r23, M24, hq25, h⟩ := hz_ct_e h
    refine hz_callVv (as := [.int a1, .int (2 : Int32), .int (0 : Int32)]) (rest := []) hO (c_X11_puts l w hN a1 (2 : Int32) (0 : Int32) hq25) hz_cal_X11_puts hz_K_9 hz_sh_178 (hz_lt_178 hN) tw_6_221 (Nat.le_of_ble_eq_true rfl) rfl rfl (Nat.le_of_ble_eq_true rfl) dX11_entering_52 ?_
    refine hz_aload_n hO dX11_entering_55 rfl 1 rfl ?_
    refine hz_iload_n hO dX11_entering_56 rfl 2 rfl ?_
    refine hz_iconst (v := (5 : Int32)) hO dX11_entering_57 (by decide) ?_
    refine hz_iconst (v := (0 : Int32)) hO dX11_entering_58 (by decide) ?_
    obtain ⟨r26, M27, hq28, h⟩ := hz_ct_e h
    refine hz_callVv (as := [.int a1, .int (5 : Int32), .int (0 : Int32)]) (rest := []) hO (c_X11_puts l w hN a1 (5 : Int32) (0 : Int32) hq28) hz_cal_X11_puts hz_K_9 hz_sh_178 (hz_lt_178 hN) tw_6_221 (Nat.le_of_ble_eq_true rfl) rfl rfl (Nat.le_of_ble_eq_true rfl) dX11_entering_59 ?_
    refine hz_aload_n hO dX11_entering_62 rfl 1 rfl ?_
    refine hz_iconst (v := (0 : Int32)) hO dX11_entering_63 (by decide) ?_
    refine hz_iconst (v := (1 : Int32)) hO dX11_entering_64 (by decide) ?_
    obtain ⟨r29, M30, hq31, h⟩ := hz_ct_e h
    refine hz_callVv (as := [.int (0 : Int32), .int (1 : Int32)]) (rest := []) hO (c_X11_counts l w hN (0 : Int32) (1 : Int32) hq31) hz_cal_X11_counts hz_K_9 hz_sh_178 (hz_lt_178 hN) tw_7_177 (Nat.le_of_ble_eq_true rfl) rfl rfl (Nat.le_of_ble_eq_true rfl) dX11_entering_65 ?_
    refine hz_aload_n hO dX11_entering_68 rfl 1 rfl ?_
    refine hz_iload_n hO dX11_entering_69 rfl 2 rfl ?_
    refine hz_iconst (v := (3 : Int32)) hO dX11_entering_70 (by decide) ?_
    obtain ⟨r32, M33, hq34, h⟩ := hz_ct_e h
    refine hz_callVi (as := [.int a1, .int (3 : Int32)]) (rest := []) hO (c_X11_of l w hN a1 (3 : Int32) hq34) hz_cal_X11_of hz_K_9 hz_sh_178 (hz_lt_178 hN) tw_6_217 (Nat.le_of_ble_eq_true rfl) rfl rfl (Nat.le_of_ble_eq_true rfl) dX11_entering_71 ?_
    exact hz_nameM (hz_some_e h).2.symm (hz_name (hz_some_e h).1.symm (hz_iret hO dX11_entering_74))
  · rw [if_neg hc4] at h
    refine hz_aload_n hO dX11_entering_8 rfl 0 rfl ?_
    refine hz_bipush (v := (-2 : Int32)) hO dX11_entering_9 (by decide) ?_
    obtain ⟨r35, M36, hq37, h⟩ := hz_ct_e h
    refine hz_callVi (as := [.int (-2 : Int32)]) (rest := []) hO (c_X11_refuses l w hN (-2 : Int32) hq37) hz_cal_X11_refuses hz_K_9 hz_sh_178 (hz_lt_178 hN) tw_7_193 (Nat.le_of_ble_eq_true rfl) rfl rfl (Nat.le_of_ble_eq_true rfl) dX11_entering_11 ?_
    exact hz_nameM (hz_some_e h).2.symm (hz_name (hz_some_e h).1.symm (hz_iret hO dX11_entering_14))
def f_X11_enter (a1 : Int32) (M : hz_M) : hz_O :=
  hz_lm (hz_set M 178 8 (0 : Int32)) fun M1 =>
  hz_ct (f_X11_isGuest a1 M1) fun r2 M3 =>
  hz_ct (f_X11_right r2 M3) fun r5 M6 =>
  if r5 = 0 then
    some ((0 : Int32), M6)
  else
    hz_ct (f_X11_entering a1 M6) fun r9 M10 =>
    some (r9, M10)
set_option maxRecDepth 100000 in
set_option maxHeartbeats 4000000 in
theorem c_X11_enter (l : Launch) (w : hz_C) {N : Nat} (hN : 193 ≤ N) (a1 : Int32) {M : hz_M} {rE : Int32} {ME : hz_M} (h : f_X11_enter a1 M = some (rE, ME)) : hz_Ct l yX11_enter cX11_enter 2 (some .int) 5 w N [.ref (hz_ad w 178), .int a1] M (hz_Qi w N rE ME) := by
  refine hz_ofW (by decide) rfl (Nat.le_of_ble_eq_true rfl) tw_8_236 ?_
  intro p e s m args below meth c hO
  show hz_G p l e 5 hz_z0 s m args below meth c w N 2 _ M 0 [(0, .ref (hz_ad w 178)), (1, .int a1)] []
  unfold f_X11_enter at h
  refine hz_aload_n hO dX11_enter_0 rfl 0 rfl ?_
  refine hz_iconst (v := (0 : Int32)) hO dX11_enter_1 (by decide) ?_
  obtain ⟨M1, h_M1, h⟩ := hz_lm_e h
  refine hz_putI (k := 8) (ty := .int) hO hz_K_9 tyX11_ok nmX11 hz_sh_178 (hz_lt_178 hN) rfl (Nat.le_of_ble_eq_true rfl) tw_6_237 rfl rfl rfl rfl rfl dX11_enter_2 ?_
  refine hz_nameM h_M1 ?_
  refine hz_aload_n hO dX11_enter_5 rfl 0 rfl ?_
  refine hz_aload_n hO dX11_enter_6 rfl 0 rfl ?_
  refine hz_iload_n hO dX11_enter_7 rfl 1 rfl ?_
  obtain ⟨r2, M3, hq4, h⟩ := hz_ct_e h
  refine hz_callVi (as := [.int a1]) (rest := [.ref (hz_ad w 178)]) hO (c_X11_isGuest l w hN a1 hq4) hz_cal_X11_isGuest hz_K_9 hz_sh_178 (hz_lt_178 hN) tw_8_102 (Nat.le_of_ble_eq_true rfl) rfl rfl (Nat.le_of_ble_eq_true rfl) dX11_enter_8 ?_
  obtain ⟨r5, M6, hq7, h⟩ := hz_ct_e h
  refine hz_callVi (as := [.int r2]) (rest := []) hO (c_X11_right l w hN r2 hq7) hz_cal_X11_right hz_K_9 hz_sh_178 (hz_lt_178 hN) tw_8_82 (Nat.le_of_ble_eq_true rfl) rfl rfl (Nat.le_of_ble_eq_true rfl) dX11_enter_11 ?_
  refine hz_if_eq (tgt := 25) hO dX11_enter_14 (by decide) (fun hc8 => ?_) (fun hc8 => ?_)
  · rw [if_pos hc8] at h
    refine hz_iconst (v := (0 : Int32)) hO dX11_enter_25 (by decide) ?_
    exact hz_nameM (hz_some_e h).2.symm (hz_name (hz_some_e h).1.symm (hz_iret hO dX11_enter_26))
  · rw [if_neg hc8] at h
    refine hz_aload_n hO dX11_enter_17 rfl 0 rfl ?_
    refine hz_iload_n hO dX11_enter_18 rfl 1 rfl ?_
    obtain ⟨r9, M10, hq11, h⟩ := hz_ct_e h
    refine hz_callVi (as := [.int a1]) (rest := []) hO (c_X11_entering l w hN a1 hq11) hz_cal_X11_entering hz_K_9 hz_sh_178 (hz_lt_178 hN) tw_7_230 (Nat.le_of_ble_eq_true rfl) rfl rfl (Nat.le_of_ble_eq_true rfl) dX11_enter_19 ?_
    refine hz_goto (tgt := 26) hO dX11_enter_22 (by decide) ?_
    exact hz_nameM (hz_some_e h).2.symm (hz_name (hz_some_e h).1.symm (hz_iret hO dX11_enter_26))
def f_X11_sitting (a1 : Int32) (a2 : Int32) (M : hz_M) : hz_O :=
  hz_ct (f_X11_noSitting a1 a2 M) fun r1 M2 =>
  if r1 = 0 then
    hz_ct (f_X11_changes M2) fun r5 M6 =>
    hz_ct (f_X11_puts a1 (2 : Int32) a2 M6) fun r8 M9 =>
    hz_ct (f_X11_warmthOf a2 M9) fun r11 M12 =>
    some (r11, M12)
  else
    hz_ct (f_X11_refuses (-2 : Int32) M2) fun r14 M15 =>
    some (r14, M15)
set_option maxRecDepth 100000 in
set_option maxHeartbeats 4000000 in
theorem c_X11_sitting (l : Launch) (w : hz_C) {N : Nat} (hN : 193 ≤ N) (a1 : Int32) (a2 : Int32) {M : hz_M} {rE : Int32} {ME : hz_M} (h : f_X11_sitting a1 a2 M = some (rE, ME)) : hz_Ct l yX11_sitting cX11_sitting 3 (some .int) 4 w N [.ref (hz_ad w 178), .int a1, .int a2] M (hz_Qi w N rE ME) := by
  refine hz_ofW (by decide) rfl (Nat.le_of_ble_eq_true rfl) tw_8_21 ?_
  intro p e s m args below meth c hO
  show hz_G p l e 4 hz_z0 s m args below meth c w N 3 _ M 0 [(0, .ref (hz_ad w 178)), (1, .int a1), (2, .int a2)] []
  unfold f_X11_sitting at h
  refine hz_aload_n hO dX11_sitting_0 rfl 0 rfl ?_
  refine hz_iload_n hO dX11_sitting_1 rfl 1 rfl ?_
  refine hz_iload_n hO dX11_sitting_2 rfl 2 rfl ?_
  obtain ⟨r1, M2, hq3, h⟩ := hz_ct_e h
  refine hz_callVi (as := [.int a1, .int a2]) (rest := []) hO (c_X11_noSitting l w hN a1 a2 hq3) hz_cal_X11_noSitting hz_K_9 hz_sh_178 (hz_lt_178 hN) tw_8_22 (Nat.le_of_ble_eq_true rfl) rfl rfl (Nat.le_of_ble_eq_true rfl) dX11_sitting_3 ?_
  refine hz_if_eq (tgt := 16) hO dX11_sitting_6 (by decide) (fun hc4 => ?_) (fun hc4 => ?_)
  · rw [if_pos hc4] at h
    refine hz_aload_n hO dX11_sitting_16 rfl 0 rfl ?_
    obtain ⟨r5, M6, hq7, h⟩ := hz_ct_e h
    refine hz_callVv (as := []) (rest := []) hO (c_X11_changes l w hN hq7) hz_cal_X11_changes hz_K_9 hz_sh_178 (hz_lt_178 hN) tw_7_153 (Nat.le_of_ble_eq_true rfl) rfl rfl (Nat.le_of_ble_eq_true rfl) dX11_sitting_17 ?_
    refine hz_aload_n hO dX11_sitting_20 rfl 0 rfl ?_
    refine hz_iload_n hO dX11_sitting_21 rfl 1 rfl ?_
    refine hz_iconst (v := (2 : Int32)) hO dX11_sitting_22 (by decide) ?_
    refine hz_iload_n hO dX11_sitting_23 rfl 2 rfl ?_
    obtain ⟨r8, M9, hq10, h⟩ := hz_ct_e h
    refine hz_callVv (as := [.int a1, .int (2 : Int32), .int a2]) (rest := []) hO (c_X11_puts l w hN a1 (2 : Int32) a2 hq10) hz_cal_X11_puts hz_K_9 hz_sh_178 (hz_lt_178 hN) tw_6_221 (Nat.le_of_ble_eq_true rfl) rfl rfl (Nat.le_of_ble_eq_true rfl) dX11_sitting_24 ?_
    refine hz_aload_n hO dX11_sitting_27 rfl 0 rfl ?_
    refine hz_iload_n hO dX11_sitting_28 rfl 2 rfl ?_
    obtain ⟨r11, M12, hq13, h⟩ := hz_ct_e h
    refine hz_callVi (as := [.int a2]) (rest := []) hO (c_X11_warmthOf l w hN a2 hq13) hz_cal_X11_warmthOf hz_K_9 hz_sh_178 (hz_lt_178 hN) tw_7_214 (Nat.le_of_ble_eq_true rfl) rfl rfl (Nat.le_of_ble_eq_true rfl) dX11_sitting_29 ?_
    exact hz_nameM (hz_some_e h).2.symm (hz_name (hz_some_e h).1.symm (hz_iret hO dX11_sitting_32))
  · rw [if_neg hc4] at h
    refine hz_aload_n hO dX11_sitting_9 rfl 0 rfl ?_
    refine hz_bipush (v := (-2 : Int32)) hO dX11_sitting_10 (by decide) ?_
    obtain ⟨r14, M15, hq16, h⟩ := hz_ct_e h
    refine hz_callVi (as := [.int (-2 : Int32)]) (rest := []) hO (c_X11_refuses l w hN (-2 : Int32) hq16) hz_cal_X11_refuses hz_K_9 hz_sh_178 (hz_lt_178 hN) tw_7_193 (Nat.le_of_ble_eq_true rfl) rfl rfl (Nat.le_of_ble_eq_true rfl) dX11_sitting_12 ?_
    exact hz_nameM (hz_some_e h).2.symm (hz_name (hz_some_e h).1.symm (hz_iret hO dX11_sitting_15))
def f_X11_sit (a1 : Int32) (a2 : Int32) (M : hz_M) : hz_O :=
  hz_lm (hz_set M 178 8 (0 : Int32)) fun M1 =>
  hz_ct (f_X11_isGuest a1 M1) fun r2 M3 =>
  hz_jn (fun (v1_5 : Int32) (v2_6 : Int32) (q7 : Int32) (M8 : hz_M) =>
    hz_ct (f_X11_right q7 M8) fun r9 M10 =>
    if r9 = 0 then
      some ((0 : Int32), M10)
    else
      hz_ct (f_X11_sitting v1_5 v2_6 M10) fun r13 M14 =>
      some (r13, M14)
    ) fun k16 =>
  hz_jn (fun (v1_17 : Int32) (v2_18 : Int32) (M19 : hz_M) =>
    k16 v1_17 v2_18 (0 : Int32) M19
    ) fun k20 =>
  if r2 = 0 then
    k20 a1 a2 M3
  else
    hz_ct (f_X11_isStep a2 M3) fun r22 M23 =>
    if r22 = 0 then
      k20 a1 a2 M23
    else
      k16 a1 a2 (1 : Int32) M23
set_option maxRecDepth 100000 in
set_option maxHeartbeats 4000000 in
theorem c_X11_sit (l : Launch) (w : hz_C) {N : Nat} (hN : 193 ≤ N) (a1 : Int32) (a2 : Int32) {M : hz_M} {rE : Int32} {ME : hz_M} (h : f_X11_sit a1 a2 M = some (rE, ME)) : hz_Ct l yX11_sit cX11_sit 3 (some .int) 5 w N [.ref (hz_ad w 178), .int a1, .int a2] M (hz_Qi w N rE ME) := by
  refine hz_ofW (by decide) rfl (Nat.le_of_ble_eq_true rfl) tw_9_0 ?_
  intro p e s m args below meth c hO
  show hz_G p l e 5 hz_z0 s m args below meth c w N 3 _ M 0 [(0, .ref (hz_ad w 178)), (1, .int a1), (2, .int a2)] []
  unfold f_X11_sit at h
  refine hz_aload_n hO dX11_sit_0 rfl 0 rfl ?_
  refine hz_iconst (v := (0 : Int32)) hO dX11_sit_1 (by decide) ?_
  obtain ⟨M1, h_M1, h⟩ := hz_lm_e h
  refine hz_putI (k := 8) (ty := .int) hO hz_K_9 tyX11_ok nmX11 hz_sh_178 (hz_lt_178 hN) rfl (Nat.le_of_ble_eq_true rfl) tw_6_237 rfl rfl rfl rfl rfl dX11_sit_2 ?_
  refine hz_nameM h_M1 ?_
  refine hz_aload_n hO dX11_sit_5 rfl 0 rfl ?_
  refine hz_aload_n hO dX11_sit_6 rfl 0 rfl ?_
  refine hz_iload_n hO dX11_sit_7 rfl 1 rfl ?_
  obtain ⟨r2, M3, hq4, h⟩ := hz_ct_e h
  refine hz_callVi (as := [.int a1]) (rest := [.ref (hz_ad w 178)]) hO (c_X11_isGuest l w hN a1 hq4) hz_cal_X11_isGuest hz_K_9 hz_sh_178 (hz_lt_178 hN) tw_8_102 (Nat.le_of_ble_eq_true rfl) rfl rfl (Nat.le_of_ble_eq_true rfl) dX11_sit_8 ?_
  obtain ⟨k16, hk16, h⟩ := hz_jn_e h
  have gk16 : ∀ (v1_5 : Int32) (v2_6 : Int32) (q7 : Int32) (M8 : hz_M), k16 v1_5 v2_6 q7 M8 = some (rE, ME) → hz_G p l e 5 hz_z0 s m args below meth c w N 3 (MQ below (hz_Qi w N rE ME) args s 0 0 (hz_A w)) M8 27 [(0, .ref (hz_ad w 178)), (1, .int v1_5), (2, .int v2_6)] [.int q7, .ref (hz_ad w 178)] := by
    intro v1_5 v2_6 q7 M8 h
    rw [hk16] at h
    dsimp only at h
    obtain ⟨r9, M10, hq11, h⟩ := hz_ct_e h
    refine hz_callVi (as := [.int q7]) (rest := []) hO (c_X11_right l w hN q7 hq11) hz_cal_X11_right hz_K_9 hz_sh_178 (hz_lt_178 hN) tw_8_82 (Nat.le_of_ble_eq_true rfl) rfl rfl (Nat.le_of_ble_eq_true rfl) dX11_sit_27 ?_
    refine hz_if_eq (tgt := 42) hO dX11_sit_30 (by decide) (fun hc12 => ?_) (fun hc12 => ?_)
    · rw [if_pos hc12] at h
      refine hz_iconst (v := (0 : Int32)) hO dX11_sit_42 (by decide) ?_
      exact hz_nameM (hz_some_e h).2.symm (hz_name (hz_some_e h).1.symm (hz_iret hO dX11_sit_43))
    · rw [if_neg hc12] at h
      refine hz_aload_n hO dX11_sit_33 rfl 0 rfl ?_
      refine hz_iload_n hO dX11_sit_34 rfl 1 rfl ?_
      refine hz_iload_n hO dX11_sit_35 rfl 2 rfl ?_
      obtain ⟨r13, M14, hq15, h⟩ := hz_ct_e h
      refine hz_callVi (as := [.int v1_5, .int v2_6]) (rest := []) hO (c_X11_sitting l w hN v1_5 v2_6 hq15) hz_cal_X11_sitting hz_K_9 hz_sh_178 (hz_lt_178 hN) tw_8_18 (Nat.le_of_ble_eq_true rfl) rfl rfl (Nat.le_of_ble_eq_true rfl) dX11_sit_36 ?_
      refine hz_goto (tgt := 43) hO dX11_sit_39 (by decide) ?_
      exact hz_nameM (hz_some_e h).2.symm (hz_name (hz_some_e h).1.symm (hz_iret hO dX11_sit_43))
  clear hk16
  obtain ⟨k20, hk20, h⟩ := hz_jn_e h
  have gk20 : ∀ (v1_17 : Int32) (v2_18 : Int32) (M19 : hz_M), k20 v1_17 v2_18 M19 = some (rE, ME) → hz_G p l e 5 hz_z0 s m args below meth c w N 3 (MQ below (hz_Qi w N rE ME) args s 0 0 (hz_A w)) M19 26 [(0, .ref (hz_ad w 178)), (1, .int v1_17), (2, .int v2_18)] [.ref (hz_ad w 178)] := by
    intro v1_17 v2_18 M19 h
    rw [hk20] at h
    dsimp only at h
    refine hz_iconst (v := (0 : Int32)) hO dX11_sit_26 (by decide) ?_
    exact hz_ls [0, 1, 2] rfl (gk16 v1_17 v2_18 (0 : Int32) M19 h)
  clear hk20
  refine hz_if_eq (tgt := 26) hO dX11_sit_11 (by decide) (fun hc21 => ?_) (fun hc21 => ?_)
  · rw [if_pos hc21] at h
    exact hz_ls [0, 1, 2] rfl (gk20 a1 a2 M3 h)
  · rw [if_neg hc21] at h
    refine hz_aload_n hO dX11_sit_14 rfl 0 rfl ?_
    refine hz_iload_n hO dX11_sit_15 rfl 2 rfl ?_
    obtain ⟨r22, M23, hq24, h⟩ := hz_ct_e h
    refine hz_callVi (as := [.int a2]) (rest := [.ref (hz_ad w 178)]) hO (c_X11_isStep l w hN a2 hq24) hz_cal_X11_isStep hz_K_9 hz_sh_178 (hz_lt_178 hN) tw_8_14 (Nat.le_of_ble_eq_true rfl) rfl rfl (Nat.le_of_ble_eq_true rfl) dX11_sit_16 ?_
    refine hz_if_eq (tgt := 26) hO dX11_sit_19 (by decide) (fun hc25 => ?_) (fun hc25 => ?_)
    · rw [if_pos hc25] at h
      exact hz_ls [0, 1, 2] rfl (gk20 a1 a2 M23 h)
    · rw [if_neg hc25] at h
      refine hz_iconst (v := (1 : Int32)) hO dX11_sit_22 (by decide) ?_
      refine hz_goto (tgt := 27) hO dX11_sit_23 (by decide) ?_
      exact hz_ls [0, 1, 2] rfl (gk16 a1 a2 (1 : Int32) M23 h)
def f_X11_halling (a1 : Int32) (M : hz_M) : hz_O :=
  hz_ct (f_X11_of a1 (2 : Int32) M) fun r1 M2 =>
  if 0 < r1 then
    hz_ct (f_X11_changes M2) fun r5 M6 =>
    hz_ct (f_X11_puts a1 (2 : Int32) (0 : Int32) M6) fun r8 M9 =>
    some (r1, M9)
  else
    hz_ct (f_X11_refuses (-3 : Int32) M2) fun r11 M12 =>
    some (r11, M12)
set_option maxRecDepth 100000 in
set_option maxHeartbeats 4000000 in
theorem c_X11_halling (l : Launch) (w : hz_C) {N : Nat} (hN : 193 ≤ N) (a1 : Int32) {M : hz_M} {rE : Int32} {ME : hz_M} (h : f_X11_halling a1 M = some (rE, ME)) : hz_Ct l yX11_halling cX11_halling 3 (some .int) 2 w N [.ref (hz_ad w 178), .int a1] M (hz_Qi w N rE ME) := by
  refine hz_ofW (by decide) rfl (Nat.le_of_ble_eq_true rfl) tw_8_37 ?_
  intro p e s m args below meth c hO
  show hz_G p l e 2 hz_z0 s m args below meth c w N 3 _ M 0 [(0, .ref (hz_ad w 178)), (1, .int a1)] []
  unfold f_X11_halling at h
  refine hz_aload_n hO dX11_halling_0 rfl 0 rfl ?_
  refine hz_iload_n hO dX11_halling_1 rfl 1 rfl ?_
  refine hz_iconst (v := (2 : Int32)) hO dX11_halling_2 (by decide) ?_
  obtain ⟨r1, M2, hq3, h⟩ := hz_ct_e h
  refine hz_callVi (as := [.int a1, .int (2 : Int32)]) (rest := []) hO (c_X11_of l w hN a1 (2 : Int32) hq3) hz_cal_X11_of hz_K_9 hz_sh_178 (hz_lt_178 hN) tw_6_217 (Nat.le_of_ble_eq_true rfl) rfl rfl (Nat.le_of_ble_eq_true rfl) dX11_halling_3 ?_
  refine hz_istore_n (ls1 := [(2, .int r1), (0, .ref (hz_ad w 178)), (1, .int a1)]) hO dX11_halling_6 rfl (Nat.le_of_ble_eq_true rfl) rfl ?_
  refine hz_iload_n hO dX11_halling_7 rfl 0 rfl ?_
  refine hz_if_gt (tgt := 18) hO dX11_halling_8 (by decide) (fun hc4 => ?_) (fun hc4 => ?_)
  · rw [if_pos hc4] at h
    refine hz_aload_n hO dX11_halling_18 rfl 1 rfl ?_
    obtain ⟨r5, M6, hq7, h⟩ := hz_ct_e h
    refine hz_callVv (as := []) (rest := []) hO (c_X11_changes l w hN hq7) hz_cal_X11_changes hz_K_9 hz_sh_178 (hz_lt_178 hN) tw_7_153 (Nat.le_of_ble_eq_true rfl) rfl rfl (Nat.le_of_ble_eq_true rfl) dX11_halling_19 ?_
    refine hz_aload_n hO dX11_halling_22 rfl 1 rfl ?_
    refine hz_iload_n hO dX11_halling_23 rfl 2 rfl ?_
    refine hz_iconst (v := (2 : Int32)) hO dX11_halling_24 (by decide) ?_
    refine hz_iconst (v := (0 : Int32)) hO dX11_halling_25 (by decide) ?_
    obtain ⟨r8, M9, hq10, h⟩ := hz_ct_e h
    refine hz_callVv (as := [.int a1, .int (2 : Int32), .int (0 : Int32)]) (rest := []) hO (c_X11_puts l w hN a1 (2 : Int32) (0 : Int32) hq10) hz_cal_X11_puts hz_K_9 hz_sh_178 (hz_lt_178 hN) tw_6_221 (Nat.le_of_ble_eq_true rfl) rfl rfl (Nat.le_of_ble_eq_true rfl) dX11_halling_26 ?_
    refine hz_iload_n hO dX11_halling_29 rfl 0 rfl ?_
    exact hz_nameM (hz_some_e h).2.symm (hz_name (hz_some_e h).1.symm (hz_iret hO dX11_halling_30))
  · rw [if_neg hc4] at h
    refine hz_aload_n hO dX11_halling_11 rfl 1 rfl ?_
    refine hz_bipush (v := (-3 : Int32)) hO dX11_halling_12 (by decide) ?_
    obtain ⟨r11, M12, hq13, h⟩ := hz_ct_e h
    refine hz_callVi (as := [.int (-3 : Int32)]) (rest := []) hO (c_X11_refuses l w hN (-3 : Int32) hq13) hz_cal_X11_refuses hz_K_9 hz_sh_178 (hz_lt_178 hN) tw_7_193 (Nat.le_of_ble_eq_true rfl) rfl rfl (Nat.le_of_ble_eq_true rfl) dX11_halling_14 ?_
    exact hz_nameM (hz_some_e h).2.symm (hz_name (hz_some_e h).1.symm (hz_iret hO dX11_halling_17))
def f_X11_hall (a1 : Int32) (M : hz_M) : hz_O :=
  hz_lm (hz_set M 178 8 (0 : Int32)) fun M1 =>
  hz_ct (f_X11_isGuest a1 M1) fun r2 M3 =>
  hz_ct (f_X11_right r2 M3) fun r5 M6 =>
  if r5 = 0 then
    some ((0 : Int32), M6)
  else
    hz_ct (f_X11_halling a1 M6) fun r9 M10 =>
    some (r9, M10)
set_option maxRecDepth 100000 in
set_option maxHeartbeats 4000000 in
theorem c_X11_hall (l : Launch) (w : hz_C) {N : Nat} (hN : 193 ≤ N) (a1 : Int32) {M : hz_M} {rE : Int32} {ME : hz_M} (h : f_X11_hall a1 M = some (rE, ME)) : hz_Ct l yX11_hall cX11_hall 2 (some .int) 3 w N [.ref (hz_ad w 178), .int a1] M (hz_Qi w N rE ME) := by
  refine hz_ofW (by decide) rfl (Nat.le_of_ble_eq_true rfl) tw_9_4 ?_
  intro p e s m args below meth c hO
  show hz_G p l e 3 hz_z0 s m args below meth c w N 2 _ M 0 [(0, .ref (hz_ad w 178)), (1, .int a1)] []
  unfold f_X11_hall at h
  refine hz_aload_n hO dX11_hall_0 rfl 0 rfl ?_
  refine hz_iconst (v := (0 : Int32)) hO dX11_hall_1 (by decide) ?_
  obtain ⟨M1, h_M1, h⟩ := hz_lm_e h
  refine hz_putI (k := 8) (ty := .int) hO hz_K_9 tyX11_ok nmX11 hz_sh_178 (hz_lt_178 hN) rfl (Nat.le_of_ble_eq_true rfl) tw_6_237 rfl rfl rfl rfl rfl dX11_hall_2 ?_
  refine hz_nameM h_M1 ?_
  refine hz_aload_n hO dX11_hall_5 rfl 0 rfl ?_
  refine hz_aload_n hO dX11_hall_6 rfl 0 rfl ?_
  refine hz_iload_n hO dX11_hall_7 rfl 1 rfl ?_
  obtain ⟨r2, M3, hq4, h⟩ := hz_ct_e h
  refine hz_callVi (as := [.int a1]) (rest := [.ref (hz_ad w 178)]) hO (c_X11_isGuest l w hN a1 hq4) hz_cal_X11_isGuest hz_K_9 hz_sh_178 (hz_lt_178 hN) tw_8_102 (Nat.le_of_ble_eq_true rfl) rfl rfl (Nat.le_of_ble_eq_true rfl) dX11_hall_8 ?_
  obtain ⟨r5, M6, hq7, h⟩ := hz_ct_e h
  refine hz_callVi (as := [.int r2]) (rest := []) hO (c_X11_right l w hN r2 hq7) hz_cal_X11_right hz_K_9 hz_sh_178 (hz_lt_178 hN) tw_8_82 (Nat.le_of_ble_eq_true rfl) rfl rfl (Nat.le_of_ble_eq_true rfl) dX11_hall_11 ?_
  refine hz_if_eq (tgt := 25) hO dX11_hall_14 (by decide) (fun hc8 => ?_) (fun hc8 => ?_)
  · rw [if_pos hc8] at h
    refine hz_iconst (v := (0 : Int32)) hO dX11_hall_25 (by decide) ?_
    exact hz_nameM (hz_some_e h).2.symm (hz_name (hz_some_e h).1.symm (hz_iret hO dX11_hall_26))
  · rw [if_neg hc8] at h
    refine hz_aload_n hO dX11_hall_17 rfl 0 rfl ?_
    refine hz_iload_n hO dX11_hall_18 rfl 1 rfl ?_
    obtain ⟨r9, M10, hq11, h⟩ := hz_ct_e h
    refine hz_callVi (as := [.int a1]) (rest := []) hO (c_X11_halling l w hN a1 hq11) hz_cal_X11_halling hz_K_9 hz_sh_178 (hz_lt_178 hN) tw_8_34 (Nat.le_of_ble_eq_true rfl) rfl rfl (Nat.le_of_ble_eq_true rfl) dX11_hall_19 ?_
    refine hz_goto (tgt := 26) hO dX11_hall_22 (by decide) ?_
    exact hz_nameM (hz_some_e h).2.symm (hz_name (hz_some_e h).1.symm (hz_iret hO dX11_hall_26))
def f_X11_hanging (a1 : Int32) (a2 : Int32) (M : hz_M) : hz_O :=
  hz_ct (f_X11_noHanging a1 a2 M) fun r1 M2 =>
  if r1 = 0 then
    hz_ct (f_X11_changes M2) fun r5 M6 =>
    hz_ct (f_X11_of a1 (4 : Int32) M6) fun r8 M9 =>
    hz_ct (f_X11_putT r8 (1 : Int32) a2 M9) fun r11 M12 =>
    hz_ct (f_X11_puts a1 (4 : Int32) (-1 : Int32) M12) fun r14 M15 =>
    some (r8, M15)
  else
    hz_ct (f_X11_refuses (-2 : Int32) M2) fun r17 M18 =>
    some (r17, M18)
set_option maxRecDepth 100000 in
set_option maxHeartbeats 4000000 in
theorem c_X11_hanging (l : Launch) (w : hz_C) {N : Nat} (hN : 193 ≤ N) (a1 : Int32) (a2 : Int32) {M : hz_M} {rE : Int32} {ME : hz_M} (h : f_X11_hanging a1 a2 M = some (rE, ME)) : hz_Ct l yX11_hanging cX11_hanging 4 (some .int) 3 w N [.ref (hz_ad w 178), .int a1, .int a2] M (hz_Qi w N rE ME) := by
  refine hz_ofW (by decide) rfl (Nat.le_of_ble_eq_true rfl) tw_8_45 ?_
  intro p e s m args below meth c hO
  show hz_G p l e 3 hz_z0 s m args below meth c w N 4 _ M 0 [(0, .ref (hz_ad w 178)), (1, .int a1), (2, .int a2)] []
  unfold f_X11_hanging at h
  refine hz_aload_n hO dX11_hanging_0 rfl 0 rfl ?_
  refine hz_iload_n hO dX11_hanging_1 rfl 1 rfl ?_
  refine hz_iload_n hO dX11_hanging_2 rfl 2 rfl ?_
  obtain ⟨r1, M2, hq3, h⟩ := hz_ct_e h
  refine hz_callVi (as := [.int a1, .int a2]) (rest := []) hO (c_X11_noHanging l w hN a1 a2 hq3) hz_cal_X11_noHanging hz_K_9 hz_sh_178 (hz_lt_178 hN) tw_8_46 (Nat.le_of_ble_eq_true rfl) rfl rfl (Nat.le_of_ble_eq_true rfl) dX11_hanging_3 ?_
  refine hz_if_eq (tgt := 16) hO dX11_hanging_6 (by decide) (fun hc4 => ?_) (fun hc4 => ?_)
  · rw [if_pos hc4] at h
    refine hz_aload_n hO dX11_hanging_16 rfl 0 rfl ?_
    obtain ⟨r5, M6, hq7, h⟩ := hz_ct_e h
    refine hz_callVv (as := []) (rest := []) hO (c_X11_changes l w hN hq7) hz_cal_X11_changes hz_K_9 hz_sh_178 (hz_lt_178 hN) tw_7_153 (Nat.le_of_ble_eq_true rfl) rfl rfl (Nat.le_of_ble_eq_true rfl) dX11_hanging_17 ?_
    refine hz_aload_n hO dX11_hanging_20 rfl 0 rfl ?_
    refine hz_iload_n hO dX11_hanging_21 rfl 1 rfl ?_
    refine hz_iconst (v := (4 : Int32)) hO dX11_hanging_22 (by decide) ?_
    obtain ⟨r8, M9, hq10, h⟩ := hz_ct_e h
    refine hz_callVi (as := [.int a1, .int (4 : Int32)]) (rest := []) hO (c_X11_of l w hN a1 (4 : Int32) hq10) hz_cal_X11_of hz_K_9 hz_sh_178 (hz_lt_178 hN) tw_6_217 (Nat.le_of_ble_eq_true rfl) rfl rfl (Nat.le_of_ble_eq_true rfl) dX11_hanging_23 ?_
    refine hz_istore_n (ls1 := [(3, .int r8), (0, .ref (hz_ad w 178)), (1, .int a1), (2, .int a2)]) hO dX11_hanging_26 rfl (Nat.le_of_ble_eq_true rfl) rfl ?_
    refine hz_aload_n hO dX11_hanging_27 rfl 1 rfl ?_
    refine hz_iload_n hO dX11_hanging_28 rfl 0 rfl ?_
    refine hz_iconst (v := (1 : Int32)) hO dX11_hanging_29 (by decide) ?_
    refine hz_iload_n hO dX11_hanging_30 rfl 3 rfl ?_
    obtain ⟨r11, M12, hq13, h⟩ := hz_ct_e h
    refine hz_callVv (as := [.int r8, .int (1 : Int32), .int a2]) (rest := []) hO (c_X11_putT l w hN r8 (1 : Int32) a2 hq13) hz_cal_X11_putT hz_K_9 hz_sh_178 (hz_lt_178 hN) tw_6_225 (Nat.le_of_ble_eq_true rfl) rfl rfl (Nat.le_of_ble_eq_true rfl) dX11_hanging_31 ?_
    refine hz_aload_n hO dX11_hanging_34 rfl 1 rfl ?_
    refine hz_iload_n hO dX11_hanging_35 rfl 2 rfl ?_
    refine hz_iconst (v := (4 : Int32)) hO dX11_hanging_36 (by decide) ?_
    refine hz_iconst (v := (-1 : Int32)) hO dX11_hanging_37 (by decide) ?_
    obtain ⟨r14, M15, hq16, h⟩ := hz_ct_e h
    refine hz_callVv (as := [.int a1, .int (4 : Int32), .int (-1 : Int32)]) (rest := []) hO (c_X11_puts l w hN a1 (4 : Int32) (-1 : Int32) hq16) hz_cal_X11_puts hz_K_9 hz_sh_178 (hz_lt_178 hN) tw_6_221 (Nat.le_of_ble_eq_true rfl) rfl rfl (Nat.le_of_ble_eq_true rfl) dX11_hanging_38 ?_
    refine hz_iload_n hO dX11_hanging_41 rfl 0 rfl ?_
    exact hz_nameM (hz_some_e h).2.symm (hz_name (hz_some_e h).1.symm (hz_iret hO dX11_hanging_42))
  · rw [if_neg hc4] at h
    refine hz_aload_n hO dX11_hanging_9 rfl 0 rfl ?_
    refine hz_bipush (v := (-2 : Int32)) hO dX11_hanging_10 (by decide) ?_
    obtain ⟨r17, M18, hq19, h⟩ := hz_ct_e h
    refine hz_callVi (as := [.int (-2 : Int32)]) (rest := []) hO (c_X11_refuses l w hN (-2 : Int32) hq19) hz_cal_X11_refuses hz_K_9 hz_sh_178 (hz_lt_178 hN) tw_7_193 (Nat.le_of_ble_eq_true rfl) rfl rfl (Nat.le_of_ble_eq_true rfl) dX11_hanging_12 ?_
    exact hz_nameM (hz_some_e h).2.symm (hz_name (hz_some_e h).1.symm (hz_iret hO dX11_hanging_15))
def f_X11_hang (a1 : Int32) (a2 : Int32) (M : hz_M) : hz_O :=
  hz_lm (hz_set M 178 8 (0 : Int32)) fun M1 =>
  hz_ct (f_X11_isGuest a1 M1) fun r2 M3 =>
  hz_jn (fun (v1_5 : Int32) (v2_6 : Int32) (q7 : Int32) (M8 : hz_M) =>
    hz_ct (f_X11_right q7 M8) fun r9 M10 =>
    if r9 = 0 then
      some ((0 : Int32), M10)
    else
      hz_ct (f_X11_hanging v1_5 v2_6 M10) fun r13 M14 =>
      some (r13, M14)
    ) fun k16 =>
  hz_jn (fun (v1_17 : Int32) (v2_18 : Int32) (M19 : hz_M) =>
    k16 v1_17 v2_18 (0 : Int32) M19
    ) fun k20 =>
  if r2 = 0 then
    k20 a1 a2 M3
  else
    hz_ct (f_X11_isPeg a2 M3) fun r22 M23 =>
    if r22 = 0 then
      k20 a1 a2 M23
    else
      k16 a1 a2 (1 : Int32) M23
set_option maxRecDepth 100000 in
set_option maxHeartbeats 4000000 in
theorem c_X11_hang (l : Launch) (w : hz_C) {N : Nat} (hN : 193 ≤ N) (a1 : Int32) (a2 : Int32) {M : hz_M} {rE : Int32} {ME : hz_M} (h : f_X11_hang a1 a2 M = some (rE, ME)) : hz_Ct l yX11_hang cX11_hang 3 (some .int) 4 w N [.ref (hz_ad w 178), .int a1, .int a2] M (hz_Qi w N rE ME) := by
  refine hz_ofW (by decide) rfl (Nat.le_of_ble_eq_true rfl) tw_9_8 ?_
  intro p e s m args below meth c hO
  show hz_G p l e 4 hz_z0 s m args below meth c w N 3 _ M 0 [(0, .ref (hz_ad w 178)), (1, .int a1), (2, .int a2)] []
  unfold f_X11_hang at h
  refine hz_aload_n hO dX11_hang_0 rfl 0 rfl ?_
  refine hz_iconst (v := (0 : Int32)) hO dX11_hang_1 (by decide) ?_
  obtain ⟨M1, h_M1, h⟩ := hz_lm_e h
  refine hz_putI (k := 8) (ty := .int) hO hz_K_9 tyX11_ok nmX11 hz_sh_178 (hz_lt_178 hN) rfl (Nat.le_of_ble_eq_true rfl) tw_6_237 rfl rfl rfl rfl rfl dX11_hang_2 ?_
  refine hz_nameM h_M1 ?_
  refine hz_aload_n hO dX11_hang_5 rfl 0 rfl ?_
  refine hz_aload_n hO dX11_hang_6 rfl 0 rfl ?_
  refine hz_iload_n hO dX11_hang_7 rfl 1 rfl ?_
  obtain ⟨r2, M3, hq4, h⟩ := hz_ct_e h
  refine hz_callVi (as := [.int a1]) (rest := [.ref (hz_ad w 178)]) hO (c_X11_isGuest l w hN a1 hq4) hz_cal_X11_isGuest hz_K_9 hz_sh_178 (hz_lt_178 hN) tw_8_102 (Nat.le_of_ble_eq_true rfl) rfl rfl (Nat.le_of_ble_eq_true rfl) dX11_hang_8 ?_
  obtain ⟨k16, hk16, h⟩ := hz_jn_e h
  have gk16 : ∀ (v1_5 : Int32) (v2_6 : Int32) (q7 : Int32) (M8 : hz_M), k16 v1_5 v2_6 q7 M8 = some (rE, ME) → hz_G p l e 4 hz_z0 s m args below meth c w N 3 (MQ below (hz_Qi w N rE ME) args s 0 0 (hz_A w)) M8 27 [(0, .ref (hz_ad w 178)), (1, .int v1_5), (2, .int v2_6)] [.int q7, .ref (hz_ad w 178)] := by
    intro v1_5 v2_6 q7 M8 h
    rw [hk16] at h
    dsimp only at h
    obtain ⟨r9, M10, hq11, h⟩ := hz_ct_e h
    refine hz_callVi (as := [.int q7]) (rest := []) hO (c_X11_right l w hN q7 hq11) hz_cal_X11_right hz_K_9 hz_sh_178 (hz_lt_178 hN) tw_8_82 (Nat.le_of_ble_eq_true rfl) rfl rfl (Nat.le_of_ble_eq_true rfl) dX11_hang_27 ?_
    refine hz_if_eq (tgt := 42) hO dX11_hang_30 (by decide) (fun hc12 => ?_) (fun hc12 => ?_)
    · rw [if_pos hc12] at h
      refine hz_iconst (v := (0 : Int32)) hO dX11_hang_42 (by decide) ?_
      exact hz_nameM (hz_some_e h).2.symm (hz_name (hz_some_e h).1.symm (hz_iret hO dX11_hang_43))
    · rw [if_neg hc12] at h
      refine hz_aload_n hO dX11_hang_33 rfl 0 rfl ?_
      refine hz_iload_n hO dX11_hang_34 rfl 1 rfl ?_
      refine hz_iload_n hO dX11_hang_35 rfl 2 rfl ?_
      obtain ⟨r13, M14, hq15, h⟩ := hz_ct_e h
      refine hz_callVi (as := [.int v1_5, .int v2_6]) (rest := []) hO (c_X11_hanging l w hN v1_5 v2_6 hq15) hz_cal_X11_hanging hz_K_9 hz_sh_178 (hz_lt_178 hN) tw_8_42 (Nat.le_of_ble_eq_true rfl) rfl rfl (Nat.le_of_ble_eq_true rfl) dX11_hang_36 ?_
      refine hz_goto (tgt := 43) hO dX11_hang_39 (by decide) ?_
      exact hz_nameM (hz_some_e h).2.symm (hz_name (hz_some_e h).1.symm (hz_iret hO dX11_hang_43))
  clear hk16
  obtain ⟨k20, hk20, h⟩ := hz_jn_e h
  have gk20 : ∀ (v1_17 : Int32) (v2_18 : Int32) (M19 : hz_M), k20 v1_17 v2_18 M19 = some (rE, ME) → hz_G p l e 4 hz_z0 s m args below meth c w N 3 (MQ below (hz_Qi w N rE ME) args s 0 0 (hz_A w)) M19 26 [(0, .ref (hz_ad w 178)), (1, .int v1_17), (2, .int v2_18)] [.ref (hz_ad w 178)] := by
    intro v1_17 v2_18 M19 h
    rw [hk20] at h
    dsimp only at h
    refine hz_iconst (v := (0 : Int32)) hO dX11_hang_26 (by decide) ?_
    exact hz_ls [0, 1, 2] rfl (gk16 v1_17 v2_18 (0 : Int32) M19 h)
  clear hk20
  refine hz_if_eq (tgt := 26) hO dX11_hang_11 (by decide) (fun hc21 => ?_) (fun hc21 => ?_)
  · rw [if_pos hc21] at h
    exact hz_ls [0, 1, 2] rfl (gk20 a1 a2 M3 h)
  · rw [if_neg hc21] at h
    refine hz_aload_n hO dX11_hang_14 rfl 0 rfl ?_
    refine hz_iload_n hO dX11_hang_15 rfl 2 rfl ?_
    obtain ⟨r22, M23, hq24, h⟩ := hz_ct_e h
    refine hz_callVi (as := [.int a2]) (rest := [.ref (hz_ad w 178)]) hO (c_X11_isPeg l w hN a2 hq24) hz_cal_X11_isPeg hz_K_9 hz_sh_178 (hz_lt_178 hN) tw_8_38 (Nat.le_of_ble_eq_true rfl) rfl rfl (Nat.le_of_ble_eq_true rfl) dX11_hang_16 ?_
    refine hz_if_eq (tgt := 26) hO dX11_hang_19 (by decide) (fun hc25 => ?_) (fun hc25 => ?_)
    · rw [if_pos hc25] at h
      exact hz_ls [0, 1, 2] rfl (gk20 a1 a2 M23 h)
    · rw [if_neg hc25] at h
      refine hz_iconst (v := (1 : Int32)) hO dX11_hang_22 (by decide) ?_
      refine hz_goto (tgt := 27) hO dX11_hang_23 (by decide) ?_
      exact hz_ls [0, 1, 2] rfl (gk16 a1 a2 (1 : Int32) M23 h)
def f_X11_taking (a1 : Int32) (a2 : Int32) (M : hz_M) : hz_O :=
  hz_ct (f_X11_noTaking a1 a2 M) fun r1 M2 =>
  if r1 = 0 then
    hz_ct (f_X11_changes M2) fun r5 M6 =>
    hz_ct (f_X11_towelOn a2 M6) fun r8 M9 =>
    hz_ct (f_X11_putT r8 (1 : Int32) (-1 : Int32) M9) fun r11 M12 =>
    hz_ct (f_X11_puts a1 (4 : Int32) r8 M12) fun r14 M15 =>
    some (r8, M15)
  else
    hz_ct (f_X11_refuses (-2 : Int32) M2) fun r17 M18 =>
    some (r17, M18)
set_option maxRecDepth 100000 in
set_option maxHeartbeats 4000000 in
theorem c_X11_taking (l : Launch) (w : hz_C) {N : Nat} (hN : 193 ≤ N) (a1 : Int32) (a2 : Int32) {M : hz_M} {rE : Int32} {ME : hz_M} (h : f_X11_taking a1 a2 M = some (rE, ME)) : hz_Ct l yX11_taking cX11_taking 4 (some .int) 3 w N [.ref (hz_ad w 178), .int a1, .int a2] M (hz_Qi w N rE ME) := by
  refine hz_ofW (by decide) rfl (Nat.le_of_ble_eq_true rfl) tw_8_57 ?_
  intro p e s m args below meth c hO
  show hz_G p l e 3 hz_z0 s m args below meth c w N 4 _ M 0 [(0, .ref (hz_ad w 178)), (1, .int a1), (2, .int a2)] []
  unfold f_X11_taking at h
  refine hz_aload_n hO dX11_taking_0 rfl 0 rfl ?_
  refine hz_iload_n hO dX11_taking_1 rfl 1 rfl ?_
  refine hz_iload_n hO dX11_taking_2 rfl 2 rfl ?_
  obtain ⟨r1, M2, hq3, h⟩ := hz_ct_e h
  refine hz_callVi (as := [.int a1, .int a2]) (rest := []) hO (c_X11_noTaking l w hN a1 a2 hq3) hz_cal_X11_noTaking hz_K_9 hz_sh_178 (hz_lt_178 hN) tw_8_58 (Nat.le_of_ble_eq_true rfl) rfl rfl (Nat.le_of_ble_eq_true rfl) dX11_taking_3 ?_
  refine hz_if_eq (tgt := 16) hO dX11_taking_6 (by decide) (fun hc4 => ?_) (fun hc4 => ?_)
  · rw [if_pos hc4] at h
    refine hz_aload_n hO dX11_taking_16 rfl 0 rfl ?_
    obtain ⟨r5, M6, hq7, h⟩ := hz_ct_e h
    refine hz_callVv (as := []) (rest := []) hO (c_X11_changes l w hN hq7) hz_cal_X11_changes hz_K_9 hz_sh_178 (hz_lt_178 hN) tw_7_153 (Nat.le_of_ble_eq_true rfl) rfl rfl (Nat.le_of_ble_eq_true rfl) dX11_taking_17 ?_
    refine hz_aload_n hO dX11_taking_20 rfl 0 rfl ?_
    refine hz_iload_n hO dX11_taking_21 rfl 2 rfl ?_
    obtain ⟨r8, M9, hq10, h⟩ := hz_ct_e h
    refine hz_callVi (as := [.int a2]) (rest := []) hO (c_X11_towelOn l w hN a2 hq10) hz_cal_X11_towelOn hz_K_9 hz_sh_178 (hz_lt_178 hN) tw_7_173 (Nat.le_of_ble_eq_true rfl) rfl rfl (Nat.le_of_ble_eq_true rfl) dX11_taking_22 ?_
    refine hz_istore_n (ls1 := [(3, .int r8), (0, .ref (hz_ad w 178)), (1, .int a1), (2, .int a2)]) hO dX11_taking_25 rfl (Nat.le_of_ble_eq_true rfl) rfl ?_
    refine hz_aload_n hO dX11_taking_26 rfl 1 rfl ?_
    refine hz_iload_n hO dX11_taking_27 rfl 0 rfl ?_
    refine hz_iconst (v := (1 : Int32)) hO dX11_taking_28 (by decide) ?_
    refine hz_iconst (v := (-1 : Int32)) hO dX11_taking_29 (by decide) ?_
    obtain ⟨r11, M12, hq13, h⟩ := hz_ct_e h
    refine hz_callVv (as := [.int r8, .int (1 : Int32), .int (-1 : Int32)]) (rest := []) hO (c_X11_putT l w hN r8 (1 : Int32) (-1 : Int32) hq13) hz_cal_X11_putT hz_K_9 hz_sh_178 (hz_lt_178 hN) tw_6_225 (Nat.le_of_ble_eq_true rfl) rfl rfl (Nat.le_of_ble_eq_true rfl) dX11_taking_30 ?_
    refine hz_aload_n hO dX11_taking_33 rfl 1 rfl ?_
    refine hz_iload_n hO dX11_taking_34 rfl 2 rfl ?_
    refine hz_iconst (v := (4 : Int32)) hO dX11_taking_35 (by decide) ?_
    refine hz_iload_n hO dX11_taking_36 rfl 0 rfl ?_
    obtain ⟨r14, M15, hq16, h⟩ := hz_ct_e h
    refine hz_callVv (as := [.int a1, .int (4 : Int32), .int r8]) (rest := []) hO (c_X11_puts l w hN a1 (4 : Int32) r8 hq16) hz_cal_X11_puts hz_K_9 hz_sh_178 (hz_lt_178 hN) tw_6_221 (Nat.le_of_ble_eq_true rfl) rfl rfl (Nat.le_of_ble_eq_true rfl) dX11_taking_37 ?_
    refine hz_iload_n hO dX11_taking_40 rfl 0 rfl ?_
    exact hz_nameM (hz_some_e h).2.symm (hz_name (hz_some_e h).1.symm (hz_iret hO dX11_taking_41))
  · rw [if_neg hc4] at h
    refine hz_aload_n hO dX11_taking_9 rfl 0 rfl ?_
    refine hz_bipush (v := (-2 : Int32)) hO dX11_taking_10 (by decide) ?_
    obtain ⟨r17, M18, hq19, h⟩ := hz_ct_e h
    refine hz_callVi (as := [.int (-2 : Int32)]) (rest := []) hO (c_X11_refuses l w hN (-2 : Int32) hq19) hz_cal_X11_refuses hz_K_9 hz_sh_178 (hz_lt_178 hN) tw_7_193 (Nat.le_of_ble_eq_true rfl) rfl rfl (Nat.le_of_ble_eq_true rfl) dX11_taking_12 ?_
    exact hz_nameM (hz_some_e h).2.symm (hz_name (hz_some_e h).1.symm (hz_iret hO dX11_taking_15))
def f_X11_take (a1 : Int32) (a2 : Int32) (M : hz_M) : hz_O :=
  hz_lm (hz_set M 178 8 (0 : Int32)) fun M1 =>
  hz_ct (f_X11_isGuest a1 M1) fun r2 M3 =>
  hz_jn (fun (v1_5 : Int32) (v2_6 : Int32) (q7 : Int32) (M8 : hz_M) =>
    hz_ct (f_X11_right q7 M8) fun r9 M10 =>
    if r9 = 0 then
      some ((0 : Int32), M10)
    else
      hz_ct (f_X11_taking v1_5 v2_6 M10) fun r13 M14 =>
      some (r13, M14)
    ) fun k16 =>
  hz_jn (fun (v1_17 : Int32) (v2_18 : Int32) (M19 : hz_M) =>
    k16 v1_17 v2_18 (0 : Int32) M19
    ) fun k20 =>
  if r2 = 0 then
    k20 a1 a2 M3
  else
    hz_ct (f_X11_isPeg a2 M3) fun r22 M23 =>
    if r22 = 0 then
      k20 a1 a2 M23
    else
      k16 a1 a2 (1 : Int32) M23
set_option maxRecDepth 100000 in
set_option maxHeartbeats 4000000 in
theorem c_X11_take (l : Launch) (w : hz_C) {N : Nat} (hN : 193 ≤ N) (a1 : Int32) (a2 : Int32) {M : hz_M} {rE : Int32} {ME : hz_M} (h : f_X11_take a1 a2 M = some (rE, ME)) : hz_Ct l yX11_take cX11_take 3 (some .int) 4 w N [.ref (hz_ad w 178), .int a1, .int a2] M (hz_Qi w N rE ME) := by
  refine hz_ofW (by decide) rfl (Nat.le_of_ble_eq_true rfl) tw_9_12 ?_
  intro p e s m args below meth c hO
  show hz_G p l e 4 hz_z0 s m args below meth c w N 3 _ M 0 [(0, .ref (hz_ad w 178)), (1, .int a1), (2, .int a2)] []
  unfold f_X11_take at h
  refine hz_aload_n hO dX11_take_0 rfl 0 rfl ?_
  refine hz_iconst (v := (0 : Int32)) hO dX11_take_1 (by decide) ?_
  obtain ⟨M1, h_M1, h⟩ := hz_lm_e h
  refine hz_putI (k := 8) (ty := .int) hO hz_K_9 tyX11_ok nmX11 hz_sh_178 (hz_lt_178 hN) rfl (Nat.le_of_ble_eq_true rfl) tw_6_237 rfl rfl rfl rfl rfl dX11_take_2 ?_
  refine hz_nameM h_M1 ?_
  refine hz_aload_n hO dX11_take_5 rfl 0 rfl ?_
  refine hz_aload_n hO dX11_take_6 rfl 0 rfl ?_
  refine hz_iload_n hO dX11_take_7 rfl 1 rfl ?_
  obtain ⟨r2, M3, hq4, h⟩ := hz_ct_e h
  refine hz_callVi (as := [.int a1]) (rest := [.ref (hz_ad w 178)]) hO (c_X11_isGuest l w hN a1 hq4) hz_cal_X11_isGuest hz_K_9 hz_sh_178 (hz_lt_178 hN) tw_8_102 (Nat.le_of_ble_eq_true rfl) rfl rfl (Nat.le_of_ble_eq_true rfl) dX11_take_8 ?_
  obtain ⟨k16, hk16, h⟩ := hz_jn_e h
  have gk16 : ∀ (v1_5 : Int32) (v2_6 : Int32) (q7 : Int32) (M8 : hz_M), k16 v1_5 v2_6 q7 M8 = some (rE, ME) → hz_G p l e 4 hz_z0 s m args below meth c w N 3 (MQ below (hz_Qi w N rE ME) args s 0 0 (hz_A w)) M8 27 [(0, .ref (hz_ad w 178)), (1, .int v1_5), (2, .int v2_6)] [.int q7, .ref (hz_ad w 178)] := by
    intro v1_5 v2_6 q7 M8 h
    rw [hk16] at h
    dsimp only at h
    obtain ⟨r9, M10, hq11, h⟩ := hz_ct_e h
    refine hz_callVi (as := [.int q7]) (rest := []) hO (c_X11_right l w hN q7 hq11) hz_cal_X11_right hz_K_9 hz_sh_178 (hz_lt_178 hN) tw_8_82 (Nat.le_of_ble_eq_true rfl) rfl rfl (Nat.le_of_ble_eq_true rfl) dX11_take_27 ?_
    refine hz_if_eq (tgt := 42) hO dX11_take_30 (by decide) (fun hc12 => ?_) (fun hc12 => ?_)
    · rw [if_pos hc12] at h
      refine hz_iconst (v := (0 : Int32)) hO dX11_take_42 (by decide) ?_
      exact hz_nameM (hz_some_e h).2.symm (hz_name (hz_some_e h).1.symm (hz_iret hO dX11_take_43))
    · rw [if_neg hc12] at h
      refine hz_aload_n hO dX11_take_33 rfl 0 rfl ?_
      refine hz_iload_n hO dX11_take_34 rfl 1 rfl ?_
      refine hz_iload_n hO dX11_take_35 rfl 2 rfl ?_
      obtain ⟨r13, M14, hq15, h⟩ := hz_ct_e h
      refine hz_callVi (as := [.int v1_5, .int v2_6]) (rest := []) hO (c_X11_taking l w hN v1_5 v2_6 hq15) hz_cal_X11_taking hz_K_9 hz_sh_178 (hz_lt_178 hN) tw_8_54 (Nat.le_of_ble_eq_true rfl) rfl rfl (Nat.le_of_ble_eq_true rfl) dX11_take_36 ?_
      refine hz_goto (tgt := 43) hO dX11_take_39 (by decide) ?_
      exact hz_nameM (hz_some_e h).2.symm (hz_name (hz_some_e h).1.symm (hz_iret hO dX11_take_43))
  clear hk16
  obtain ⟨k20, hk20, h⟩ := hz_jn_e h
  have gk20 : ∀ (v1_17 : Int32) (v2_18 : Int32) (M19 : hz_M), k20 v1_17 v2_18 M19 = some (rE, ME) → hz_G p l e 4 hz_z0 s m args below meth c w N 3 (MQ below (hz_Qi w N rE ME) args s 0 0 (hz_A w)) M19 26 [(0, .ref (hz_ad w 178)), (1, .int v1_17), (2, .int v2_18)] [.ref (hz_ad w 178)] := by
    intro v1_17 v2_18 M19 h
    rw [hk20] at h
    dsimp only at h
    refine hz_iconst (v := (0 : Int32)) hO dX11_take_26 (by decide) ?_
    exact hz_ls [0, 1, 2] rfl (gk16 v1_17 v2_18 (0 : Int32) M19 h)
  clear hk20
  refine hz_if_eq (tgt := 26) hO dX11_take_11 (by decide) (fun hc21 => ?_) (fun hc21 => ?_)
  · rw [if_pos hc21] at h
    exact hz_ls [0, 1, 2] rfl (gk20 a1 a2 M3 h)
  · rw [if_neg hc21] at h
    refine hz_aload_n hO dX11_take_14 rfl 0 rfl ?_
    refine hz_iload_n hO dX11_take_15 rfl 2 rfl ?_
    obtain ⟨r22, M23, hq24, h⟩ := hz_ct_e h
    refine hz_callVi (as := [.int a2]) (rest := [.ref (hz_ad w 178)]) hO (c_X11_isPeg l w hN a2 hq24) hz_cal_X11_isPeg hz_K_9 hz_sh_178 (hz_lt_178 hN) tw_8_38 (Nat.le_of_ble_eq_true rfl) rfl rfl (Nat.le_of_ble_eq_true rfl) dX11_take_16 ?_
    refine hz_if_eq (tgt := 26) hO dX11_take_19 (by decide) (fun hc25 => ?_) (fun hc25 => ?_)
    · rw [if_pos hc25] at h
      exact hz_ls [0, 1, 2] rfl (gk20 a1 a2 M23 h)
    · rw [if_neg hc25] at h
      refine hz_iconst (v := (1 : Int32)) hO dX11_take_22 (by decide) ?_
      refine hz_goto (tgt := 27) hO dX11_take_23 (by decide) ?_
      exact hz_ls [0, 1, 2] rfl (gk16 a1 a2 (1 : Int32) M23 h)
def f_X11_goesOut (a1 : Int32) (M : hz_M) : hz_O :=
  hz_ct (f_X11_of a1 (3 : Int32) M) fun r1 M2 =>
  hz_ct (f_X11_puts a1 (3 : Int32) (-1 : Int32) M2) fun r4 M5 =>
  hz_ct (f_X11_puts a1 (4 : Int32) (-1 : Int32) M5) fun r7 M8 =>
  hz_ct (f_X11_puts a1 (2 : Int32) (-1 : Int32) M8) fun r10 M11 =>
  hz_ct (f_X11_counts (1 : Int32) (1 : Int32) M11) fun r13 M14 =>
  some (r1, M14)
set_option maxRecDepth 100000 in
set_option maxHeartbeats 4000000 in
theorem c_X11_goesOut (l : Launch) (w : hz_C) {N : Nat} (hN : 193 ≤ N) (a1 : Int32) {M : hz_M} {rE : Int32} {ME : hz_M} (h : f_X11_goesOut a1 M = some (rE, ME)) : hz_Ct l yX11_goesOut cX11_goesOut 3 (some .int) 1 w N [.ref (hz_ad w 178), .int a1] M (hz_Qi w N rE ME) := by
  refine hz_ofW (by decide) rfl (Nat.le_of_ble_eq_true rfl) tw_8_69 ?_
  intro p e s m args below meth c hO
  show hz_G p l e 1 hz_z0 s m args below meth c w N 3 _ M 0 [(0, .ref (hz_ad w 178)), (1, .int a1)] []
  unfold f_X11_goesOut at h
  refine hz_aload_n hO dX11_goesOut_0 rfl 0 rfl ?_
  refine hz_iload_n hO dX11_goesOut_1 rfl 1 rfl ?_
  refine hz_iconst (v := (3 : Int32)) hO dX11_goesOut_2 (by decide) ?_
  obtain ⟨r1, M2, hq3, h⟩ := hz_ct_e h
  refine hz_callVi (as := [.int a1, .int (3 : Int32)]) (rest := []) hO (c_X11_of l w hN a1 (3 : Int32) hq3) hz_cal_X11_of hz_K_9 hz_sh_178 (hz_lt_178 hN) tw_6_217 (Nat.le_of_ble_eq_true rfl) rfl rfl (Nat.le_of_ble_eq_true rfl) dX11_goesOut_3 ?_
  refine hz_istore_n (ls1 := [(2, .int r1), (0, .ref (hz_ad w 178)), (1, .int a1)]) hO dX11_goesOut_6 rfl (Nat.le_of_ble_eq_true rfl) rfl ?_
  refine hz_aload_n hO dX11_goesOut_7 rfl 1 rfl ?_
  refine hz_iload_n hO dX11_goesOut_8 rfl 2 rfl ?_
  refine hz_iconst (v := (3 : Int32)) hO dX11_goesOut_9 (by decide) ?_
  refine hz_iconst (v := (-1 : Int32)) hO dX11_goesOut_10 (by decide) ?_
  obtain ⟨r4, M5, hq6, h⟩ := hz_ct_e h
  refine hz_callVv (as := [.int a1, .int (3 : Int32), .int (-1 : Int32)]) (rest := []) hO (c_X11_puts l w hN a1 (3 : Int32) (-1 : Int32) hq6) hz_cal_X11_puts hz_K_9 hz_sh_178 (hz_lt_178 hN) tw_6_221 (Nat.le_of_ble_eq_true rfl) rfl rfl (Nat.le_of_ble_eq_true rfl) dX11_goesOut_11 ?_
  refine hz_aload_n hO dX11_goesOut_14 rfl 1 rfl ?_
  refine hz_iload_n hO dX11_goesOut_15 rfl 2 rfl ?_
  refine hz_iconst (v := (4 : Int32)) hO dX11_goesOut_16 (by decide) ?_
  refine hz_iconst (v := (-1 : Int32)) hO dX11_goesOut_17 (by decide) ?_
  obtain ⟨r7, M8, hq9, h⟩ := hz_ct_e h
  refine hz_callVv (as := [.int a1, .int (4 : Int32), .int (-1 : Int32)]) (rest := []) hO (c_X11_puts l w hN a1 (4 : Int32) (-1 : Int32) hq9) hz_cal_X11_puts hz_K_9 hz_sh_178 (hz_lt_178 hN) tw_6_221 (Nat.le_of_ble_eq_true rfl) rfl rfl (Nat.le_of_ble_eq_true rfl) dX11_goesOut_18 ?_
  refine hz_aload_n hO dX11_goesOut_21 rfl 1 rfl ?_
  refine hz_iload_n hO dX11_goesOut_22 rfl 2 rfl ?_
  refine hz_iconst (v := (2 : Int32)) hO dX11_goesOut_23 (by decide) ?_
  refine hz_iconst (v := (-1 : Int32)) hO dX11_goesOut_24 (by decide) ?_
  obtain ⟨r10, M11, hq12, h⟩ := hz_ct_e h
  refine hz_callVv (as := [.int a1, .int (2 : Int32), .int (-1 : Int32)]) (rest := []) hO (c_X11_puts l w hN a1 (2 : Int32) (-1 : Int32) hq12) hz_cal_X11_puts hz_K_9 hz_sh_178 (hz_lt_178 hN) tw_6_221 (Nat.le_of_ble_eq_true rfl) rfl rfl (Nat.le_of_ble_eq_true rfl) dX11_goesOut_25 ?_
  refine hz_aload_n hO dX11_goesOut_28 rfl 1 rfl ?_
  refine hz_iconst (v := (1 : Int32)) hO dX11_goesOut_29 (by decide) ?_
  refine hz_iconst (v := (1 : Int32)) hO dX11_goesOut_30 (by decide) ?_
  obtain ⟨r13, M14, hq15, h⟩ := hz_ct_e h
  refine hz_callVv (as := [.int (1 : Int32), .int (1 : Int32)]) (rest := []) hO (c_X11_counts l w hN (1 : Int32) (1 : Int32) hq15) hz_cal_X11_counts hz_K_9 hz_sh_178 (hz_lt_178 hN) tw_7_177 (Nat.le_of_ble_eq_true rfl) rfl rfl (Nat.le_of_ble_eq_true rfl) dX11_goesOut_31 ?_
  refine hz_iload_n hO dX11_goesOut_34 rfl 0 rfl ?_
  exact hz_nameM (hz_some_e h).2.symm (hz_name (hz_some_e h).1.symm (hz_iret hO dX11_goesOut_35))
def f_X11_leaving (a1 : Int32) (M : hz_M) : hz_O :=
  hz_ct (f_X11_noLeaving a1 M) fun r1 M2 =>
  if r1 = 0 then
    hz_ct (f_X11_changes M2) fun r5 M6 =>
    hz_ct (f_X11_goesOut a1 M6) fun r8 M9 =>
    some (r8, M9)
  else
    hz_ct (f_X11_refuses (-2 : Int32) M2) fun r11 M12 =>
    some (r11, M12)
set_option maxRecDepth 100000 in
set_option maxHeartbeats 4000000 in
theorem c_X11_leaving (l : Launch) (w : hz_C) {N : Nat} (hN : 193 ≤ N) (a1 : Int32) {M : hz_M} {rE : Int32} {ME : hz_M} (h : f_X11_leaving a1 M = some (rE, ME)) : hz_Ct l yX11_leaving cX11_leaving 2 (some .int) 2 w N [.ref (hz_ad w 178), .int a1] M (hz_Qi w N rE ME) := by
  refine hz_ofW (by decide) rfl (Nat.le_of_ble_eq_true rfl) tw_8_65 ?_
  intro p e s m args below meth c hO
  show hz_G p l e 2 hz_z0 s m args below meth c w N 2 _ M 0 [(0, .ref (hz_ad w 178)), (1, .int a1)] []
  unfold f_X11_leaving at h
  refine hz_aload_n hO dX11_leaving_0 rfl 0 rfl ?_
  refine hz_iload_n hO dX11_leaving_1 rfl 1 rfl ?_
  obtain ⟨r1, M2, hq3, h⟩ := hz_ct_e h
  refine hz_callVi (as := [.int a1]) (rest := []) hO (c_X11_noLeaving l w hN a1 hq3) hz_cal_X11_noLeaving hz_K_9 hz_sh_178 (hz_lt_178 hN) tw_8_50 (Nat.le_of_ble_eq_true rfl) rfl rfl (Nat.le_of_ble_eq_true rfl) dX11_leaving_2 ?_
  refine hz_if_eq (tgt := 15) hO dX11_leaving_5 (by decide) (fun hc4 => ?_) (fun hc4 => ?_)
  · rw [if_pos hc4] at h
    refine hz_aload_n hO dX11_leaving_15 rfl 0 rfl ?_
    obtain ⟨r5, M6, hq7, h⟩ := hz_ct_e h
    refine hz_callVv (as := []) (rest := []) hO (c_X11_changes l w hN hq7) hz_cal_X11_changes hz_K_9 hz_sh_178 (hz_lt_178 hN) tw_7_153 (Nat.le_of_ble_eq_true rfl) rfl rfl (Nat.le_of_ble_eq_true rfl) dX11_leaving_16 ?_
    refine hz_aload_n hO dX11_leaving_19 rfl 0 rfl ?_
    refine hz_iload_n hO dX11_leaving_20 rfl 1 rfl ?_
    obtain ⟨r8, M9, hq10, h⟩ := hz_ct_e h
    refine hz_callVi (as := [.int a1]) (rest := []) hO (c_X11_goesOut l w hN a1 hq10) hz_cal_X11_goesOut hz_K_9 hz_sh_178 (hz_lt_178 hN) tw_8_66 (Nat.le_of_ble_eq_true rfl) rfl rfl (Nat.le_of_ble_eq_true rfl) dX11_leaving_21 ?_
    exact hz_nameM (hz_some_e h).2.symm (hz_name (hz_some_e h).1.symm (hz_iret hO dX11_leaving_24))
  · rw [if_neg hc4] at h
    refine hz_aload_n hO dX11_leaving_8 rfl 0 rfl ?_
    refine hz_bipush (v := (-2 : Int32)) hO dX11_leaving_9 (by decide) ?_
    obtain ⟨r11, M12, hq13, h⟩ := hz_ct_e h
    refine hz_callVi (as := [.int (-2 : Int32)]) (rest := []) hO (c_X11_refuses l w hN (-2 : Int32) hq13) hz_cal_X11_refuses hz_K_9 hz_sh_178 (hz_lt_178 hN) tw_7_193 (Nat.le_of_ble_eq_true rfl) rfl rfl (Nat.le_of_ble_eq_true rfl) dX11_leaving_11 ?_
    exact hz_nameM (hz_some_e h).2.symm (hz_name (hz_some_e h).1.symm (hz_iret hO dX11_leaving_14))
def f_X11_leave (a1 : Int32) (M : hz_M) : hz_O :=
  hz_lm (hz_set M 178 8 (0 : Int32)) fun M1 =>
  hz_ct (f_X11_isGuest a1 M1) fun r2 M3 =>
  hz_ct (f_X11_right r2 M3) fun r5 M6 =>
  if r5 = 0 then
    some ((0 : Int32), M6)
  else
    hz_ct (f_X11_leaving a1 M6) fun r9 M10 =>
    some (r9, M10)
set_option maxRecDepth 100000 in
set_option maxHeartbeats 4000000 in
theorem c_X11_leave (l : Launch) (w : hz_C) {N : Nat} (hN : 193 ≤ N) (a1 : Int32) {M : hz_M} {rE : Int32} {ME : hz_M} (h : f_X11_leave a1 M = some (rE, ME)) : hz_Ct l yX11_leave cX11_leave 2 (some .int) 3 w N [.ref (hz_ad w 178), .int a1] M (hz_Qi w N rE ME) := by
  refine hz_ofW (by decide) rfl (Nat.le_of_ble_eq_true rfl) tw_9_16 ?_
  intro p e s m args below meth c hO
  show hz_G p l e 3 hz_z0 s m args below meth c w N 2 _ M 0 [(0, .ref (hz_ad w 178)), (1, .int a1)] []
  unfold f_X11_leave at h
  refine hz_aload_n hO dX11_leave_0 rfl 0 rfl ?_
  refine hz_iconst (v := (0 : Int32)) hO dX11_leave_1 (by decide) ?_
  obtain ⟨M1, h_M1, h⟩ := hz_lm_e h
  refine hz_putI (k := 8) (ty := .int) hO hz_K_9 tyX11_ok nmX11 hz_sh_178 (hz_lt_178 hN) rfl (Nat.le_of_ble_eq_true rfl) tw_6_237 rfl rfl rfl rfl rfl dX11_leave_2 ?_
  refine hz_nameM h_M1 ?_
  refine hz_aload_n hO dX11_leave_5 rfl 0 rfl ?_
  refine hz_aload_n hO dX11_leave_6 rfl 0 rfl ?_
  refine hz_iload_n hO dX11_leave_7 rfl 1 rfl ?_
  obtain ⟨r2, M3, hq4, h⟩ := hz_ct_e h
  refine hz_callVi (as := [.int a1]) (rest := [.ref (hz_ad w 178)]) hO (c_X11_isGuest l w hN a1 hq4) hz_cal_X11_isGuest hz_K_9 hz_sh_178 (hz_lt_178 hN) tw_8_102 (Nat.le_of_ble_eq_true rfl) rfl rfl (Nat.le_of_ble_eq_true rfl) dX11_leave_8 ?_
  obtain ⟨r5, M6, hq7, h⟩ := hz_ct_e h
  refine hz_callVi (as := [.int r2]) (rest := []) hO (c_X11_right l w hN r2 hq7) hz_cal_X11_right hz_K_9 hz_sh_178 (hz_lt_178 hN) tw_8_82 (Nat.le_of_ble_eq_true rfl) rfl rfl (Nat.le_of_ble_eq_true rfl) dX11_leave_11 ?_
  refine hz_if_eq (tgt := 25) hO dX11_leave_14 (by decide) (fun hc8 => ?_) (fun hc8 => ?_)
  · rw [if_pos hc8] at h
    refine hz_iconst (v := (0 : Int32)) hO dX11_leave_25 (by decide) ?_
    exact hz_nameM (hz_some_e h).2.symm (hz_name (hz_some_e h).1.symm (hz_iret hO dX11_leave_26))
  · rw [if_neg hc8] at h
    refine hz_aload_n hO dX11_leave_17 rfl 0 rfl ?_
    refine hz_iload_n hO dX11_leave_18 rfl 1 rfl ?_
    obtain ⟨r9, M10, hq11, h⟩ := hz_ct_e h
    refine hz_callVi (as := [.int a1]) (rest := []) hO (c_X11_leaving l w hN a1 hq11) hz_cal_X11_leaving hz_K_9 hz_sh_178 (hz_lt_178 hN) tw_8_62 (Nat.le_of_ble_eq_true rfl) rfl rfl (Nat.le_of_ble_eq_true rfl) dX11_leave_19 ?_
    refine hz_goto (tgt := 26) hO dX11_leave_22 (by decide) ?_
    exact hz_nameM (hz_some_e h).2.symm (hz_name (hz_some_e h).1.symm (hz_iret hO dX11_leave_26))
def f_X11_speaking (a1 : Int32) (M : hz_M) : hz_O :=
  hz_ct (f_X11_of a1 (2 : Int32) M) fun r1 M2 =>
  if r1 = (-1 : Int32) then
    hz_ct (f_X11_refuses (-4 : Int32) M2) fun r46 M47 =>
    some (r46, M47)
  else
    hz_ct (f_X11_changes M2) fun r5 M6 =>
    hz_ct (f_X11_isSilence M6) fun r8 M9 =>
    if r8 = 0 then
      hz_ct (f_X11_of a1 (6 : Int32) M9) fun r43 M44 =>
      some (r43, M44)
    else
      hz_ct (f_X11_of a1 (6 : Int32) M9) fun r12 M13 =>
      hz_ct (f_X11_puts a1 (6 : Int32) (r12 + (1 : Int32)) M13) fun r15 M16 =>
      hz_ct (f_X11_counts (3 : Int32) (1 : Int32) M16) fun r18 M19 =>
      hz_ct (f_X11_of a1 (6 : Int32) M19) fun r21 M22 =>
      if (3 : Int32) ≤ r21 then
        hz_ct (f_X11_goesOut a1 M22) fun r25 M26 =>
        hz_ct (f_X11_puts a1 (6 : Int32) (0 : Int32) M26) fun r28 M29 =>
        hz_ct (f_X11_today M29) fun r31 M32 =>
        hz_ct (f_X11_puts a1 (7 : Int32) r31 M32) fun r34 M35 =>
        hz_ct (f_X11_counts (2 : Int32) (1 : Int32) M35) fun r37 M38 =>
        some ((3 : Int32), M38)
      else
        hz_ct (f_X11_of a1 (6 : Int32) M22) fun r40 M41 =>
        some (r40, M41)
set_option maxRecDepth 100000 in
set_option maxHeartbeats 4000000 in
theorem c_X11_speaking (l : Launch) (w : hz_C) {N : Nat} (hN : 193 ≤ N) (a1 : Int32) {M : hz_M} {rE : Int32} {ME : hz_M} (h : f_X11_speaking a1 M = some (rE, ME)) : hz_Ct l yX11_speaking cX11_speaking 3 (some .int) 2 w N [.ref (hz_ad w 178), .int a1] M (hz_Qi w N rE ME) := by
  refine hz_ofW (by decide) rfl (Nat.le_of_ble_eq_true rfl) tw_8_73 ?_
  intro p e s m args below meth c hO
  show hz_G p l e 2 hz_z0 s m args below meth c w N 3 _ M 0 [(0, .ref (hz_ad w 178)), (1, .int a1)] []
  unfold f_X11_speaking at h
  refine hz_aload_n hO dX11_speaking_0 rfl 0 rfl ?_
  refine hz_iload_n hO dX11_speaking_1 rfl 1 rfl ?_
  refine hz_iconst (v := (2 : Int32)) hO dX11_speaking_2 (by decide) ?_
  obtain ⟨r1, M2, hq3, h⟩ := hz_ct_e h
  refine hz_callVi (as := [.int a1, .int (2 : Int32)]) (rest := []) hO (c_X11_of l w hN a1 (2 : Int32) hq3) hz_cal_X11_of hz_K_9 hz_sh_178 (hz_lt_178 hN) tw_6_217 (Nat.le_of_ble_eq_true rfl) rfl rfl (Nat.le_of_ble_eq_true rfl) dX11_speaking_3 ?_
  refine hz_iconst (v := (-1 : Int32)) hO dX11_speaking_6 (by decide) ?_
  refine hz_icmp_ne (tgt := 17) hO dX11_speaking_7 (by decide) (fun hc4 => ?_) (fun hc4 => ?_)
  · rw [if_neg hc4] at h
    refine hz_aload_n hO dX11_speaking_17 rfl 0 rfl ?_
    obtain ⟨r5, M6, hq7, h⟩ := hz_ct_e h
    refine hz_callVv (as := []) (rest := []) hO (c_X11_changes l w hN hq7) hz_cal_X11_changes hz_K_9 hz_sh_178 (hz_lt_178 hN) tw_7_153 (Nat.le_of_ble_eq_true rfl) rfl rfl (Nat.le_of_ble_eq_true rfl) dX11_speaking_18 ?_
    refine hz_aload_n hO dX11_speaking_21 rfl 0 rfl ?_
    obtain ⟨r8, M9, hq10, h⟩ := hz_ct_e h
    refine hz_callVi (as := []) (rest := []) hO (c_X11_isSilence l w hN hq10) hz_cal_X11_isSilence hz_K_9 hz_sh_178 (hz_lt_178 hN) tw_8_74 (Nat.le_of_ble_eq_true rfl) rfl rfl (Nat.le_of_ble_eq_true rfl) dX11_speaking_22 ?_
    refine hz_if_ne (tgt := 36) hO dX11_speaking_25 (by decide) (fun hc11 => ?_) (fun hc11 => ?_)
    · rw [if_neg hc11] at h
      refine hz_aload_n hO dX11_speaking_36 rfl 0 rfl ?_
      refine hz_iload_n hO dX11_speaking_37 rfl 1 rfl ?_
      refine hz_bipush (v := (6 : Int32)) hO dX11_speaking_38 (by decide) ?_
      refine hz_aload_n hO dX11_speaking_40 rfl 0 rfl ?_
      refine hz_iload_n hO dX11_speaking_41 rfl 1 rfl ?_
      refine hz_bipush (v := (6 : Int32)) hO dX11_speaking_42 (by decide) ?_
      obtain ⟨r12, M13, hq14, h⟩ := hz_ct_e h
      refine hz_callVi (as := [.int a1, .int (6 : Int32)]) (rest := [.int (6 : Int32), .int a1, .ref (hz_ad w 178)]) hO (c_X11_of l w hN a1 (6 : Int32) hq14) hz_cal_X11_of hz_K_9 hz_sh_178 (hz_lt_178 hN) tw_6_217 (Nat.le_of_ble_eq_true rfl) rfl rfl (Nat.le_of_ble_eq_true rfl) dX11_speaking_44 ?_
      refine hz_iconst (v := (1 : Int32)) hO dX11_speaking_47 (by decide) ?_
      refine hz_iadd hO dX11_speaking_48 ?_
      obtain ⟨r15, M16, hq17, h⟩ := hz_ct_e h
      refine hz_callVv (as := [.int a1, .int (6 : Int32), .int (r12 + (1 : Int32))]) (rest := []) hO (c_X11_puts l w hN a1 (6 : Int32) (r12 + (1 : Int32)) hq17) hz_cal_X11_puts hz_K_9 hz_sh_178 (hz_lt_178 hN) tw_6_221 (Nat.le_of_ble_eq_true rfl) rfl rfl (Nat.le_of_ble_eq_true rfl) dX11_speaking_49 ?_
      refine hz_aload_n hO dX11_speaking_52 rfl 0 rfl ?_
      refine hz_iconst (v := (3 : Int32)) hO dX11_speaking_53 (by decide) ?_
      refine hz_iconst (v := (1 : Int32)) hO dX11_speaking_54 (by decide) ?_
      obtain ⟨r18, M19, hq20, h⟩ := hz_ct_e h
      refine hz_callVv (as := [.int (3 : Int32), .int (1 : Int32)]) (rest := []) hO (c_X11_counts l w hN (3 : Int32) (1 : Int32) hq20) hz_cal_X11_counts hz_K_9 hz_sh_178 (hz_lt_178 hN) tw_7_177 (Nat.le_of_ble_eq_true rfl) rfl rfl (Nat.le_of_ble_eq_true rfl) dX11_speaking_55 ?_
      refine hz_aload_n hO dX11_speaking_58 rfl 0 rfl ?_
      refine hz_iload_n hO dX11_speaking_59 rfl 1 rfl ?_
      refine hz_bipush (v := (6 : Int32)) hO dX11_speaking_60 (by decide) ?_
      obtain ⟨r21, M22, hq23, h⟩ := hz_ct_e h
      refine hz_callVi (as := [.int a1, .int (6 : Int32)]) (rest := []) hO (c_X11_of l w hN a1 (6 : Int32) hq23) hz_cal_X11_of hz_K_9 hz_sh_178 (hz_lt_178 hN) tw_6_217 (Nat.le_of_ble_eq_true rfl) rfl rfl (Nat.le_of_ble_eq_true rfl) dX11_speaking_62 ?_
      refine hz_iconst (v := (3 : Int32)) hO dX11_speaking_65 (by decide) ?_
      refine hz_icmp_ge (tgt := 77) hO dX11_speaking_66 (by decide) (fun hc24 => ?_) (fun hc24 => ?_)
      · rw [if_pos hc24] at h
        refine hz_aload_n hO dX11_speaking_77 rfl 0 rfl ?_
        refine hz_iload_n hO dX11_speaking_78 rfl 1 rfl ?_
        obtain ⟨r25, M26, hq27, h⟩ := hz_ct_e h
        refine hz_callVi (as := [.int a1]) (rest := []) hO (c_X11_goesOut l w hN a1 hq27) hz_cal_X11_goesOut hz_K_9 hz_sh_178 (hz_lt_178 hN) tw_8_66 (Nat.le_of_ble_eq_true rfl) rfl rfl (Nat.le_of_ble_eq_true rfl) dX11_speaking_79 ?_
        refine hz_istore_n (ls1 := [(2, .int r25), (0, .ref (hz_ad w 178)), (1, .int a1)]) hO dX11_speaking_82 rfl (Nat.le_of_ble_eq_true rfl) rfl ?_
        refine hz_aload_n hO dX11_speaking_83 rfl 1 rfl ?_
        refine hz_iload_n hO dX11_speaking_84 rfl 2 rfl ?_
        refine hz_bipush (v := (6 : Int32)) hO dX11_speaking_85 (by decide) ?_
        refine hz_iconst (v := (0 : Int32)) hO dX11_speaking_87 (by decide) ?_
        obtain ⟨r28, M29, hq30, h⟩ := hz_ct_e h
        refine hz_callVv (as := [.int a1, .int (6 : Int32), .int (0 : Int32)]) (rest := []) hO (c_X11_puts l w hN a1 (6 : Int32) (0 : Int32) hq30) hz_cal_X11_puts hz_K_9 hz_sh_178 (hz_lt_178 hN) tw_6_221 (Nat.le_of_ble_eq_true rfl) rfl rfl (Nat.le_of_ble_eq_true rfl) dX11_speaking_88 ?_
        refine hz_aload_n hO dX11_speaking_91 rfl 1 rfl ?_
        refine hz_iload_n hO dX11_speaking_92 rfl 2 rfl ?_
        refine hz_bipush (v := (7 : Int32)) hO dX11_speaking_93 (by decide) ?_
        refine hz_aload_n hO dX11_speaking_95 rfl 1 rfl ?_
        obtain ⟨r31, M32, hq33, h⟩ := hz_ct_e h
        refine hz_callVi (as := []) (rest := [.int (7 : Int32), .int a1, .ref (hz_ad w 178)]) hO (c_X11_today l w hN hq33) hz_cal_X11_today hz_K_9 hz_sh_178 (hz_lt_178 hN) tw_7_238 (Nat.le_of_ble_eq_true rfl) rfl rfl (Nat.le_of_ble_eq_true rfl) dX11_speaking_96 ?_
        obtain ⟨r34, M35, hq36, h⟩ := hz_ct_e h
        refine hz_callVv (as := [.int a1, .int (7 : Int32), .int r31]) (rest := []) hO (c_X11_puts l w hN a1 (7 : Int32) r31 hq36) hz_cal_X11_puts hz_K_9 hz_sh_178 (hz_lt_178 hN) tw_6_221 (Nat.le_of_ble_eq_true rfl) rfl rfl (Nat.le_of_ble_eq_true rfl) dX11_speaking_99 ?_
        refine hz_aload_n hO dX11_speaking_102 rfl 1 rfl ?_
        refine hz_iconst (v := (2 : Int32)) hO dX11_speaking_103 (by decide) ?_
        refine hz_iconst (v := (1 : Int32)) hO dX11_speaking_104 (by decide) ?_
        obtain ⟨r37, M38, hq39, h⟩ := hz_ct_e h
        refine hz_callVv (as := [.int (2 : Int32), .int (1 : Int32)]) (rest := []) hO (c_X11_counts l w hN (2 : Int32) (1 : Int32) hq39) hz_cal_X11_counts hz_K_9 hz_sh_178 (hz_lt_178 hN) tw_7_177 (Nat.le_of_ble_eq_true rfl) rfl rfl (Nat.le_of_ble_eq_true rfl) dX11_speaking_105 ?_
        refine hz_iconst (v := (3 : Int32)) hO dX11_speaking_108 (by decide) ?_
        exact hz_nameM (hz_some_e h).2.symm (hz_name (hz_some_e h).1.symm (hz_iret hO dX11_speaking_109))
      · rw [if_neg hc24] at h
        refine hz_aload_n hO dX11_speaking_69 rfl 0 rfl ?_
        refine hz_iload_n hO dX11_speaking_70 rfl 1 rfl ?_
        refine hz_bipush (v := (6 : Int32)) hO dX11_speaking_71 (by decide) ?_
        obtain ⟨r40, M41, hq42, h⟩ := hz_ct_e h
        refine hz_callVi (as := [.int a1, .int (6 : Int32)]) (rest := []) hO (c_X11_of l w hN a1 (6 : Int32) hq42) hz_cal_X11_of hz_K_9 hz_sh_178 (hz_lt_178 hN) tw_6_217 (Nat.le_of_ble_eq_true rfl) rfl rfl (Nat.le_of_ble_eq_true rfl) dX11_speaking_73 ?_
        exact hz_nameM (hz_some_e h).2.symm (hz_name (hz_some_e h).1.symm (hz_iret hO dX11_speaking_76))
    · rw [if_pos hc11] at h
      refine hz_aload_n hO dX11_speaking_28 rfl 0 rfl ?_
      refine hz_iload_n hO dX11_speaking_29 rfl 1 rfl ?_
      refine hz_bipush (v := (6 : Int32)) hO dX11_speaking_30 (by decide) ?_
      obtain ⟨r43, M44, hq45, h⟩ := hz_ct_e h
      refine hz_callVi (as := [.int a1, .int (6 : Int32)]) (rest := []) hO (c_X11_of l w hN a1 (6 : Int32) hq45) hz_cal_X11_of hz_K_9 hz_sh_178 (hz_lt_178 hN) tw_6_217 (Nat.le_of_ble_eq_true rfl) rfl rfl (Nat.le_of_ble_eq_true rfl) dX11_speaking_32 ?_
      exact hz_nameM (hz_some_e h).2.symm (hz_name (hz_some_e h).1.symm (hz_iret hO dX11_speaking_35))
  · rw [if_pos hc4] at h
    refine hz_aload_n hO dX11_speaking_10 rfl 0 rfl ?_
    refine hz_bipush (v := (-4 : Int32)) hO dX11_speaking_11 (by decide) ?_
    obtain ⟨r46, M47, hq48, h⟩ := hz_ct_e h
    refine hz_callVi (as := [.int (-4 : Int32)]) (rest := []) hO (c_X11_refuses l w hN (-4 : Int32) hq48) hz_cal_X11_refuses hz_K_9 hz_sh_178 (hz_lt_178 hN) tw_7_193 (Nat.le_of_ble_eq_true rfl) rfl rfl (Nat.le_of_ble_eq_true rfl) dX11_speaking_13 ?_
    exact hz_nameM (hz_some_e h).2.symm (hz_name (hz_some_e h).1.symm (hz_iret hO dX11_speaking_16))
def f_X11_speak (a1 : Int32) (M : hz_M) : hz_O :=
  hz_lm (hz_set M 178 8 (0 : Int32)) fun M1 =>
  hz_ct (f_X11_isGuest a1 M1) fun r2 M3 =>
  hz_ct (f_X11_right r2 M3) fun r5 M6 =>
  if r5 = 0 then
    some ((0 : Int32), M6)
  else
    hz_ct (f_X11_speaking a1 M6) fun r9 M10 =>
    some (r9, M10)
set_option maxRecDepth 100000 in
set_option maxHeartbeats 4000000 in
theorem c_X11_speak (l : Launch) (w : hz_C) {N : Nat} (hN : 193 ≤ N) (a1 : Int32) {M : hz_M} {rE : Int32} {ME : hz_M} (h : f_X11_speak a1 M = some (rE, ME)) : hz_Ct l yX11_speak cX11_speak 2 (some .int) 3 w N [.ref (hz_ad w 178), .int a1] M (hz_Qi w N rE ME) := by
  refine hz_ofW (by decide) rfl (Nat.le_of_ble_eq_true rfl) tw_9_20 ?_
  intro p e s m args below meth c hO
  show hz_G p l e 3 hz_z0 s m args below meth c w N 2 _ M 0 [(0, .ref (hz_ad w 178)), (1, .int a1)] []
  unfold f_X11_speak at h
  refine hz_aload_n hO dX11_speak_0 rfl 0 rfl ?_
  refine hz_iconst (v := (0 : Int32)) hO dX11_speak_1 (by decide) ?_
  obtain ⟨M1, h_M1, h⟩ := hz_lm_e h
  refine hz_putI (k := 8) (ty := .int) hO hz_K_9 tyX11_ok nmX11 hz_sh_178 (hz_lt_178 hN) rfl (Nat.le_of_ble_eq_true rfl) tw_6_237 rfl rfl rfl rfl rfl dX11_speak_2 ?_
  refine hz_nameM h_M1 ?_
  refine hz_aload_n hO dX11_speak_5 rfl 0 rfl ?_
  refine hz_aload_n hO dX11_speak_6 rfl 0 rfl ?_
  refine hz_iload_n hO dX11_speak_7 rfl 1 rfl ?_
  obtain ⟨r2, M3, hq4, h⟩ := hz_ct_e h
  refine hz_callVi (as := [.int a1]) (rest := [.ref (hz_ad w 178)]) hO (c_X11_isGuest l w hN a1 hq4) hz_cal_X11_isGuest hz_K_9 hz_sh_178 (hz_lt_178 hN) tw_8_102 (Nat.le_of_ble_eq_true rfl) rfl rfl (Nat.le_of_ble_eq_true rfl) dX11_speak_8 ?_
  obtain ⟨r5, M6, hq7, h⟩ := hz_ct_e h
  refine hz_callVi (as := [.int r2]) (rest := []) hO (c_X11_right l w hN r2 hq7) hz_cal_X11_right hz_K_9 hz_sh_178 (hz_lt_178 hN) tw_8_82 (Nat.le_of_ble_eq_true rfl) rfl rfl (Nat.le_of_ble_eq_true rfl) dX11_speak_11 ?_
  refine hz_if_eq (tgt := 25) hO dX11_speak_14 (by decide) (fun hc8 => ?_) (fun hc8 => ?_)
  · rw [if_pos hc8] at h
    refine hz_iconst (v := (0 : Int32)) hO dX11_speak_25 (by decide) ?_
    exact hz_nameM (hz_some_e h).2.symm (hz_name (hz_some_e h).1.symm (hz_iret hO dX11_speak_26))
  · rw [if_neg hc8] at h
    refine hz_aload_n hO dX11_speak_17 rfl 0 rfl ?_
    refine hz_iload_n hO dX11_speak_18 rfl 1 rfl ?_
    obtain ⟨r9, M10, hq11, h⟩ := hz_ct_e h
    refine hz_callVi (as := [.int a1]) (rest := []) hO (c_X11_speaking l w hN a1 hq11) hz_cal_X11_speaking hz_K_9 hz_sh_178 (hz_lt_178 hN) tw_8_70 (Nat.le_of_ble_eq_true rfl) rfl rfl (Nat.le_of_ble_eq_true rfl) dX11_speak_19 ?_
    refine hz_goto (tgt := 26) hO dX11_speak_22 (by decide) ?_
    exact hz_nameM (hz_some_e h).2.symm (hz_name (hz_some_e h).1.symm (hz_iret hO dX11_speak_26))
def f_X11_washing_L8 (kk55 : Int32 → hz_M → hz_O) : Nat → Int32 → Int32 → hz_M → hz_O
  | 0, _, _, _ => none
  | n + 1, v1_10, v2_11, M12 =>
    if (M12 179 (Int32.toNatClampNeg (2 : Int32))) ≤ v2_11 then
      kk55 v1_10 M12
    else
      hz_ct (f_X11_isInBasket v2_11 M12) fun r14 M15 =>
      hz_jn (fun (v1_17 : Int32) (v2_18 : Int32) (M19 : hz_M) =>
        hz_lt (v2_18 + (1 : Int32)) fun x20 =>
        f_X11_washing_L8 kk55 n v1_17 x20 M19
        ) fun k21 =>
      if r14 = 0 then
        k21 v1_10 v2_11 M15
      else
        hz_ct (f_X11_freePeg M15) fun r23 M24 =>
        hz_ct (f_X11_putT v2_11 (1 : Int32) r23 M24) fun r26 M27 =>
        hz_ct (f_X11_putT v2_11 (0 : Int32) (0 : Int32) M27) fun r29 M30 =>
        hz_lt (v1_10 + (1 : Int32)) fun x32 =>
        k21 x32 v2_11 M30
def f_X11_washing (M : hz_M) : hz_O :=
  hz_ct (f_X11_changes M) fun r1 M2 =>
  hz_jn (fun (v1_4 : Int32) (M5 : hz_M) =>
    hz_ct (f_X11_counts (5 : Int32) v1_4 M5) fun r6 M7 =>
    some (v1_4, M7)
    ) fun k9 =>
  f_X11_washing_L8 k9 hz_FU (0 : Int32) (0 : Int32) M2
set_option maxRecDepth 100000 in
set_option maxHeartbeats 4000000 in
theorem g_X11_washing_L8 {p : Program} {l : Launch} {e : Env} {s : State} {m : MethodId} {args : Array Value} {below : List Frame} {meth : Method} {c : Code} {w : hz_C} {N : Nat} (hN : 193 ≤ N) {rE : Int32} {ME : hz_M} (hO : hz_Ok p s m args meth c w cX11_washing 3 RX11 (some .int)) (kk55 : Int32 → hz_M → hz_O) (gkk55 : ∀ (v1_4 : Int32) (M : hz_M), kk55 v1_4 M = some (rE, ME) → hz_G p l e 3 hz_z0 s m args below meth c w N 3 (MQ below (hz_Qi w N rE ME) args s 0 0 (hz_A w)) M 55 [(0, .ref (hz_ad w 178)), (1, .int v1_4)] []) : ∀ (n : Nat) (v1_10 : Int32) (v2_11 : Int32) (M12 : hz_M), f_X11_washing_L8 kk55 n v1_10 v2_11 M12 = some (rE, ME) → hz_G p l e 3 hz_z0 s m args below meth c w N 3 (MQ below (hz_Qi w N rE ME) args s 0 0 (hz_A w)) M12 8 [(0, .ref (hz_ad w 178)), (1, .int v1_10), (2, .int v2_11)] [] := by
  intro n
  induction n with
  | zero =>
    intro v1_10 v2_11 M12 h
    rw [f_X11_washing_L8] at h
    cases h
  | succ n ih =>
    intro v1_10 v2_11 M12 h
    rw [f_X11_washing_L8] at h
    refine hz_iload_n hO dX11_washing_8 rfl 2 rfl ?_
    refine hz_aload_n hO dX11_washing_9 rfl 0 rfl ?_
    refine hz_getR (k := 0) hO 179 hz_K_9 hz_sh_178 (hz_lt_178 hN) rfl (Nat.le_of_ble_eq_true rfl) tw_6_229 rfl dX11_washing_10 ?_
    refine hz_iconst (v := (2 : Int32)) hO dX11_washing_13 (by decide) ?_
    refine hz_iald hO hz_sh_179 (hz_lt_179 hN) (by decide) dX11_washing_14 ?_
    refine hz_icmp_ge (tgt := 55) hO dX11_washing_15 (by decide) (fun hc13 => ?_) (fun hc13 => ?_)
    · rw [if_pos hc13] at h
      exact hz_ls [0, 1] rfl (gkk55 v1_10 M12 h)
    · rw [if_neg hc13] at h
      refine hz_aload_n hO dX11_washing_18 rfl 0 rfl ?_
      refine hz_iload_n hO dX11_washing_19 rfl 2 rfl ?_
      obtain ⟨r14, M15, hq16, h⟩ := hz_ct_e h
      refine hz_callVi (as := [.int v2_11]) (rest := []) hO (c_X11_isInBasket l w hN v2_11 hq16) hz_cal_X11_isInBasket hz_K_9 hz_sh_178 (hz_lt_178 hN) tw_7_157 (Nat.le_of_ble_eq_true rfl) rfl rfl (Nat.le_of_ble_eq_true rfl) dX11_washing_20 ?_
      obtain ⟨k21, hk21, h⟩ := hz_jn_e h
      have gk21 : ∀ (v1_17 : Int32) (v2_18 : Int32) (M19 : hz_M), k21 v1_17 v2_18 M19 = some (rE, ME) → hz_G p l e 3 hz_z0 s m args below meth c w N 3 (MQ below (hz_Qi w N rE ME) args s 0 0 (hz_A w)) M19 49 [(0, .ref (hz_ad w 178)), (1, .int v1_17), (2, .int v2_18)] [] := by
        intro v1_17 v2_18 M19 h
        rw [hk21] at h
        dsimp only at h
        obtain ⟨x20, h_x20, h⟩ := hz_lt_e h
        refine hz_iinc (k := 2) (v := x20) (ls1 := [(2, .int x20), (0, .ref (hz_ad w 178)), (1, .int v1_17)]) hO dX11_washing_49 rfl (by rw [h_x20]; rfl) (Nat.le_of_ble_eq_true rfl) rfl ?_
        refine hz_goto (tgt := 8) hO dX11_washing_52 (by decide) ?_
        exact hz_ls [1, 2, 0] rfl (ih v1_17 x20 M19 h)
      clear hk21
      refine hz_if_ne (tgt := 29) hO dX11_washing_23 (by decide) (fun hc22 => ?_) (fun hc22 => ?_)
      · rw [if_neg hc22] at h
        refine hz_aload_n hO dX11_washing_29 rfl 0 rfl ?_
        refine hz_iload_n hO dX11_washing_30 rfl 2 rfl ?_
        refine hz_iconst (v := (1 : Int32)) hO dX11_washing_31 (by decide) ?_
        refine hz_aload_n hO dX11_washing_32 rfl 0 rfl ?_
        obtain ⟨r23, M24, hq25, h⟩ := hz_ct_e h
        refine hz_callVi (as := []) (rest := [.int (1 : Int32), .int v2_11, .ref (hz_ad w 178)]) hO (c_X11_freePeg l w hN hq25) hz_cal_X11_freePeg hz_K_9 hz_sh_178 (hz_lt_178 hN) tw_7_169 (Nat.le_of_ble_eq_true rfl) rfl rfl (Nat.le_of_ble_eq_true rfl) dX11_washing_33 ?_
        obtain ⟨r26, M27, hq28, h⟩ := hz_ct_e h
        refine hz_callVv (as := [.int v2_11, .int (1 : Int32), .int r23]) (rest := []) hO (c_X11_putT l w hN v2_11 (1 : Int32) r23 hq28) hz_cal_X11_putT hz_K_9 hz_sh_178 (hz_lt_178 hN) tw_6_225 (Nat.le_of_ble_eq_true rfl) rfl rfl (Nat.le_of_ble_eq_true rfl) dX11_washing_36 ?_
        refine hz_aload_n hO dX11_washing_39 rfl 0 rfl ?_
        refine hz_iload_n hO dX11_washing_40 rfl 2 rfl ?_
        refine hz_iconst (v := (0 : Int32)) hO dX11_washing_41 (by decide) ?_
        refine hz_iconst (v := (0 : Int32)) hO dX11_washing_42 (by decide) ?_
        obtain ⟨r29, M30, hq31, h⟩ := hz_ct_e h
        refine hz_callVv (as := [.int v2_11, .int (0 : Int32), .int (0 : Int32)]) (rest := []) hO (c_X11_putT l w hN v2_11 (0 : Int32) (0 : Int32) hq31) hz_cal_X11_putT hz_K_9 hz_sh_178 (hz_lt_178 hN) tw_6_225 (Nat.le_of_ble_eq_true rfl) rfl rfl (Nat.le_of_ble_eq_true rfl) dX11_washing_43 ?_
        obtain ⟨x32, h_x32, h⟩ := hz_lt_e h
        refine hz_iinc (k := 1) (v := x32) (ls1 := [(1, .int x32), (0, .ref (hz_ad w 178)), (2, .int v2_11)]) hO dX11_washing_46 rfl (by rw [h_x32]; rfl) (Nat.le_of_ble_eq_true rfl) rfl ?_
        exact hz_ls [1, 0, 2] rfl (gk21 x32 v2_11 M30 h)
      · rw [if_pos hc22] at h
        refine hz_goto (tgt := 49) hO dX11_washing_26 (by decide) ?_
        exact hz_ls [0, 1, 2] rfl (gk21 v1_10 v2_11 M15 h)
set_option maxRecDepth 100000 in
set_option maxHeartbeats 4000000 in
theorem c_X11_washing (l : Launch) (w : hz_C) {N : Nat} (hN : 193 ≤ N) {M : hz_M} {rE : Int32} {ME : hz_M} (h : f_X11_washing M = some (rE, ME)) : hz_Ct l yX11_washing cX11_washing 3 (some .int) 3 w N [.ref (hz_ad w 178)] M (hz_Qi w N rE ME) := by
  refine hz_ofW (by decide) rfl (Nat.le_of_ble_eq_true rfl) tw_7_152 ?_
  intro p e s m args below meth c hO
  show hz_G p l e 3 hz_z0 s m args below meth c w N 3 _ M 0 [(0, .ref (hz_ad w 178))] []
  unfold f_X11_washing at h
  refine hz_aload_n hO dX11_washing_0 rfl 0 rfl ?_
  obtain ⟨r1, M2, hq3, h⟩ := hz_ct_e h
  refine hz_callVv (as := []) (rest := []) hO (c_X11_changes l w hN hq3) hz_cal_X11_changes hz_K_9 hz_sh_178 (hz_lt_178 hN) tw_7_153 (Nat.le_of_ble_eq_true rfl) rfl rfl (Nat.le_of_ble_eq_true rfl) dX11_washing_1 ?_
  refine hz_iconst (v := (0 : Int32)) hO dX11_washing_4 (by decide) ?_
  refine hz_istore_n (ls1 := [(1, .int (0 : Int32)), (0, .ref (hz_ad w 178))]) hO dX11_washing_5 rfl (Nat.le_of_ble_eq_true rfl) rfl ?_
  refine hz_iconst (v := (0 : Int32)) hO dX11_washing_6 (by decide) ?_
  refine hz_istore_n (ls1 := [(2, .int (0 : Int32)), (1, .int (0 : Int32)), (0, .ref (hz_ad w 178))]) hO dX11_washing_7 rfl (Nat.le_of_ble_eq_true rfl) rfl ?_
  obtain ⟨k9, hk9, h⟩ := hz_jn_e h
  have gk9 : ∀ (v1_4 : Int32) (M5 : hz_M), k9 v1_4 M5 = some (rE, ME) → hz_G p l e 3 hz_z0 s m args below meth c w N 3 (MQ below (hz_Qi w N rE ME) args s 0 0 (hz_A w)) M5 55 [(0, .ref (hz_ad w 178)), (1, .int v1_4)] [] := by
    intro v1_4 M5 h
    rw [hk9] at h
    dsimp only at h
    refine hz_aload_n hO dX11_washing_55 rfl 0 rfl ?_
    refine hz_iconst (v := (5 : Int32)) hO dX11_washing_56 (by decide) ?_
    refine hz_iload_n hO dX11_washing_57 rfl 1 rfl ?_
    obtain ⟨r6, M7, hq8, h⟩ := hz_ct_e h
    refine hz_callVv (as := [.int (5 : Int32), .int v1_4]) (rest := []) hO (c_X11_counts l w hN (5 : Int32) v1_4 hq8) hz_cal_X11_counts hz_K_9 hz_sh_178 (hz_lt_178 hN) tw_7_177 (Nat.le_of_ble_eq_true rfl) rfl rfl (Nat.le_of_ble_eq_true rfl) dX11_washing_58 ?_
    refine hz_iload_n hO dX11_washing_61 rfl 1 rfl ?_
    exact hz_nameM (hz_some_e h).2.symm (hz_name (hz_some_e h).1.symm (hz_iret hO dX11_washing_62))
  clear hk9
  exact hz_ls [2, 1, 0] rfl (g_X11_washing_L8 hN hO _ gk9 _ (0 : Int32) (0 : Int32) M2 h)
def f_X11_wash (M : hz_M) : hz_O :=
  hz_lm (hz_set M 178 8 (0 : Int32)) fun M1 =>
  hz_ct (f_X11_washing M1) fun r2 M3 =>
  some (r2, M3)
set_option maxRecDepth 100000 in
set_option maxHeartbeats 4000000 in
theorem c_X11_wash (l : Launch) (w : hz_C) {N : Nat} (hN : 193 ≤ N) {M : hz_M} {rE : Int32} {ME : hz_M} (h : f_X11_wash M = some (rE, ME)) : hz_Ct l yX11_wash cX11_wash 1 (some .int) 4 w N [.ref (hz_ad w 178)] M (hz_Qi w N rE ME) := by
  refine hz_ofW (by decide) rfl (Nat.le_of_ble_eq_true rfl) tw_9_24 ?_
  intro p e s m args below meth c hO
  show hz_G p l e 4 hz_z0 s m args below meth c w N 1 _ M 0 [(0, .ref (hz_ad w 178))] []
  unfold f_X11_wash at h
  refine hz_aload_n hO dX11_wash_0 rfl 0 rfl ?_
  refine hz_iconst (v := (0 : Int32)) hO dX11_wash_1 (by decide) ?_
  obtain ⟨M1, h_M1, h⟩ := hz_lm_e h
  refine hz_putI (k := 8) (ty := .int) hO hz_K_9 tyX11_ok nmX11 hz_sh_178 (hz_lt_178 hN) rfl (Nat.le_of_ble_eq_true rfl) tw_6_237 rfl rfl rfl rfl rfl dX11_wash_2 ?_
  refine hz_nameM h_M1 ?_
  refine hz_aload_n hO dX11_wash_5 rfl 0 rfl ?_
  obtain ⟨r2, M3, hq4, h⟩ := hz_ct_e h
  refine hz_callVi (as := []) (rest := []) hO (c_X11_washing l w hN hq4) hz_cal_X11_washing hz_K_9 hz_sh_178 (hz_lt_178 hN) tw_7_149 (Nat.le_of_ble_eq_true rfl) rfl rfl (Nat.le_of_ble_eq_true rfl) dX11_wash_6 ?_
  exact hz_nameM (hz_some_e h).2.symm (hz_name (hz_some_e h).1.symm (hz_iret hO dX11_wash_9))
def f_X11_valving (a1 : Int32) (a2 : Int32) (M : hz_M) : hz_O :=
  hz_ct (f_X11_changes M) fun r1 M2 =>
  hz_gd (hz_in ((21 : Int32) + a1) 185) <|
  hz_lt ((M2 179 (Int32.toNatClampNeg ((21 : Int32) + a1)))) fun x5 =>
  hz_gd (hz_in ((21 : Int32) + a1) 185) <|
  hz_lm (hz_set M2 179 (Int32.toNatClampNeg ((21 : Int32) + a1)) a2) fun M7 =>
  some (x5, M7)
set_option maxRecDepth 100000 in
set_option maxHeartbeats 4000000 in
theorem c_X11_valving (l : Launch) (w : hz_C) {N : Nat} (hN : 193 ≤ N) (a1 : Int32) (a2 : Int32) {M : hz_M} {rE : Int32} {ME : hz_M} (h : f_X11_valving a1 a2 M = some (rE, ME)) : hz_Ct l yX11_valving cX11_valving 4 (some .int) 2 w N [.ref (hz_ad w 178), .int a1, .int a2] M (hz_Qi w N rE ME) := by
  refine hz_ofW (by decide) rfl (Nat.le_of_ble_eq_true rfl) tw_7_188 ?_
  intro p e s m args below meth c hO
  show hz_G p l e 2 hz_z0 s m args below meth c w N 4 _ M 0 [(0, .ref (hz_ad w 178)), (1, .int a1), (2, .int a2)] []
  unfold f_X11_valving at h
  refine hz_aload_n hO dX11_valving_0 rfl 0 rfl ?_
  obtain ⟨r1, M2, hq3, h⟩ := hz_ct_e h
  refine hz_callVv (as := []) (rest := []) hO (c_X11_changes l w hN hq3) hz_cal_X11_changes hz_K_9 hz_sh_178 (hz_lt_178 hN) tw_7_153 (Nat.le_of_ble_eq_true rfl) rfl rfl (Nat.le_of_ble_eq_true rfl) dX11_valving_1 ?_
  refine hz_aload_n hO dX11_valving_4 rfl 0 rfl ?_
  refine hz_getR (k := 0) hO 179 hz_K_9 hz_sh_178 (hz_lt_178 hN) rfl (Nat.le_of_ble_eq_true rfl) tw_6_229 rfl dX11_valving_5 ?_
  refine hz_bipush (v := (21 : Int32)) hO dX11_valving_8 (by decide) ?_
  refine hz_iload_n hO dX11_valving_10 rfl 1 rfl ?_
  refine hz_iadd hO dX11_valving_11 ?_
  obtain ⟨hg4, h⟩ := hz_gd_e h
  refine hz_iald hO hz_sh_179 (hz_lt_179 hN) hg4 dX11_valving_12 ?_
  obtain ⟨x5, h_x5, h⟩ := hz_lt_e h
  refine hz_name h_x5 ?_
  refine hz_istore_n (ls1 := [(3, .int x5), (0, .ref (hz_ad w 178)), (1, .int a1), (2, .int a2)]) hO dX11_valving_13 rfl (Nat.le_of_ble_eq_true rfl) rfl ?_
  refine hz_aload_n hO dX11_valving_14 rfl 1 rfl ?_
  refine hz_getR (k := 0) hO 179 hz_K_9 hz_sh_178 (hz_lt_178 hN) rfl (Nat.le_of_ble_eq_true rfl) tw_6_229 rfl dX11_valving_15 ?_
  refine hz_bipush (v := (21 : Int32)) hO dX11_valving_18 (by decide) ?_
  refine hz_iload_n hO dX11_valving_20 rfl 2 rfl ?_
  refine hz_iadd hO dX11_valving_21 ?_
  refine hz_iload_n hO dX11_valving_22 rfl 3 rfl ?_
  obtain ⟨hg6, h⟩ := hz_gd_e h
  obtain ⟨M7, h_M7, h⟩ := hz_lm_e h
  refine hz_iast hO hz_sh_179 (hz_lt_179 hN) hg6 dX11_valving_23 ?_
  refine hz_nameM h_M7 ?_
  refine hz_iload_n hO dX11_valving_24 rfl 0 rfl ?_
  exact hz_nameM (hz_some_e h).2.symm (hz_name (hz_some_e h).1.symm (hz_iret hO dX11_valving_25))
def f_X11_valve (a1 : Int32) (a2 : Int32) (M : hz_M) : hz_O :=
  hz_lm (hz_set M 178 8 (0 : Int32)) fun M1 =>
  hz_ct (f_X11_isValve a1 M1) fun r2 M3 =>
  hz_jn (fun (v1_5 : Int32) (v2_6 : Int32) (q7 : Int32) (M8 : hz_M) =>
    hz_ct (f_X11_right q7 M8) fun r9 M10 =>
    if r9 = 0 then
      some ((0 : Int32), M10)
    else
      hz_ct (f_X11_valving v1_5 v2_6 M10) fun r13 M14 =>
      some (r13, M14)
    ) fun k16 =>
  hz_jn (fun (v1_17 : Int32) (v2_18 : Int32) (M19 : hz_M) =>
    k16 v1_17 v2_18 (0 : Int32) M19
    ) fun k20 =>
  if r2 = 0 then
    k20 a1 a2 M3
  else
    hz_ct (f_X11_in a2 (0 : Int32) (9 : Int32) M3) fun r22 M23 =>
    if r22 = 0 then
      k20 a1 a2 M23
    else
      k16 a1 a2 (1 : Int32) M23
set_option maxRecDepth 100000 in
set_option maxHeartbeats 4000000 in
theorem c_X11_valve (l : Launch) (w : hz_C) {N : Nat} (hN : 193 ≤ N) (a1 : Int32) (a2 : Int32) {M : hz_M} {rE : Int32} {ME : hz_M} (h : f_X11_valve a1 a2 M = some (rE, ME)) : hz_Ct l yX11_valve cX11_valve 3 (some .int) 3 w N [.ref (hz_ad w 178), .int a1, .int a2] M (hz_Qi w N rE ME) := by
  refine hz_ofW (by decide) rfl (Nat.le_of_ble_eq_true rfl) tw_9_28 ?_
  intro p e s m args below meth c hO
  show hz_G p l e 3 hz_z0 s m args below meth c w N 3 _ M 0 [(0, .ref (hz_ad w 178)), (1, .int a1), (2, .int a2)] []
  unfold f_X11_valve at h
  refine hz_aload_n hO dX11_valve_0 rfl 0 rfl ?_
  refine hz_iconst (v := (0 : Int32)) hO dX11_valve_1 (by decide) ?_
  obtain ⟨M1, h_M1, h⟩ := hz_lm_e h
  refine hz_putI (k := 8) (ty := .int) hO hz_K_9 tyX11_ok nmX11 hz_sh_178 (hz_lt_178 hN) rfl (Nat.le_of_ble_eq_true rfl) tw_6_237 rfl rfl rfl rfl rfl dX11_valve_2 ?_
  refine hz_nameM h_M1 ?_
  refine hz_aload_n hO dX11_valve_5 rfl 0 rfl ?_
  refine hz_aload_n hO dX11_valve_6 rfl 0 rfl ?_
  refine hz_iload_n hO dX11_valve_7 rfl 1 rfl ?_
  obtain ⟨r2, M3, hq4, h⟩ := hz_ct_e h
  refine hz_callVi (as := [.int a1]) (rest := [.ref (hz_ad w 178)]) hO (c_X11_isValve l w hN a1 hq4) hz_cal_X11_isValve hz_K_9 hz_sh_178 (hz_lt_178 hN) tw_7_181 (Nat.le_of_ble_eq_true rfl) rfl rfl (Nat.le_of_ble_eq_true rfl) dX11_valve_8 ?_
  obtain ⟨k16, hk16, h⟩ := hz_jn_e h
  have gk16 : ∀ (v1_5 : Int32) (v2_6 : Int32) (q7 : Int32) (M8 : hz_M), k16 v1_5 v2_6 q7 M8 = some (rE, ME) → hz_G p l e 3 hz_z0 s m args below meth c w N 3 (MQ below (hz_Qi w N rE ME) args s 0 0 (hz_A w)) M8 29 [(0, .ref (hz_ad w 178)), (1, .int v1_5), (2, .int v2_6)] [.int q7, .ref (hz_ad w 178)] := by
    intro v1_5 v2_6 q7 M8 h
    rw [hk16] at h
    dsimp only at h
    obtain ⟨r9, M10, hq11, h⟩ := hz_ct_e h
    refine hz_callVi (as := [.int q7]) (rest := []) hO (c_X11_right l w hN q7 hq11) hz_cal_X11_right hz_K_9 hz_sh_178 (hz_lt_178 hN) tw_8_82 (Nat.le_of_ble_eq_true rfl) rfl rfl (Nat.le_of_ble_eq_true rfl) dX11_valve_29 ?_
    refine hz_if_eq (tgt := 44) hO dX11_valve_32 (by decide) (fun hc12 => ?_) (fun hc12 => ?_)
    · rw [if_pos hc12] at h
      refine hz_iconst (v := (0 : Int32)) hO dX11_valve_44 (by decide) ?_
      exact hz_nameM (hz_some_e h).2.symm (hz_name (hz_some_e h).1.symm (hz_iret hO dX11_valve_45))
    · rw [if_neg hc12] at h
      refine hz_aload_n hO dX11_valve_35 rfl 0 rfl ?_
      refine hz_iload_n hO dX11_valve_36 rfl 1 rfl ?_
      refine hz_iload_n hO dX11_valve_37 rfl 2 rfl ?_
      obtain ⟨r13, M14, hq15, h⟩ := hz_ct_e h
      refine hz_callVi (as := [.int v1_5, .int v2_6]) (rest := []) hO (c_X11_valving l w hN v1_5 v2_6 hq15) hz_cal_X11_valving hz_K_9 hz_sh_178 (hz_lt_178 hN) tw_7_185 (Nat.le_of_ble_eq_true rfl) rfl rfl (Nat.le_of_ble_eq_true rfl) dX11_valve_38 ?_
      refine hz_goto (tgt := 45) hO dX11_valve_41 (by decide) ?_
      exact hz_nameM (hz_some_e h).2.symm (hz_name (hz_some_e h).1.symm (hz_iret hO dX11_valve_45))
  clear hk16
  obtain ⟨k20, hk20, h⟩ := hz_jn_e h
  have gk20 : ∀ (v1_17 : Int32) (v2_18 : Int32) (M19 : hz_M), k20 v1_17 v2_18 M19 = some (rE, ME) → hz_G p l e 3 hz_z0 s m args below meth c w N 3 (MQ below (hz_Qi w N rE ME) args s 0 0 (hz_A w)) M19 28 [(0, .ref (hz_ad w 178)), (1, .int v1_17), (2, .int v2_18)] [.ref (hz_ad w 178)] := by
    intro v1_17 v2_18 M19 h
    rw [hk20] at h
    dsimp only at h
    refine hz_iconst (v := (0 : Int32)) hO dX11_valve_28 (by decide) ?_
    exact hz_ls [0, 1, 2] rfl (gk16 v1_17 v2_18 (0 : Int32) M19 h)
  clear hk20
  refine hz_if_eq (tgt := 28) hO dX11_valve_11 (by decide) (fun hc21 => ?_) (fun hc21 => ?_)
  · rw [if_pos hc21] at h
    exact hz_ls [0, 1, 2] rfl (gk20 a1 a2 M3 h)
  · rw [if_neg hc21] at h
    refine hz_iload_n hO dX11_valve_14 rfl 2 rfl ?_
    refine hz_iconst (v := (0 : Int32)) hO dX11_valve_15 (by decide) ?_
    refine hz_bipush (v := (9 : Int32)) hO dX11_valve_16 (by decide) ?_
    obtain ⟨r22, M23, hq24, h⟩ := hz_ct_e h
    refine hz_callSi (as := [.int a2, .int (0 : Int32), .int (9 : Int32)]) (rest := [.ref (hz_ad w 178)]) hO (c_X11_in l w hN a2 (0 : Int32) (9 : Int32) hq24) hz_cal_X11_in tw_6_171 (Nat.le_of_ble_eq_true rfl) rfl rfl (Nat.le_of_ble_eq_true rfl) dX11_valve_18 ?_
    refine hz_if_eq (tgt := 28) hO dX11_valve_21 (by decide) (fun hc25 => ?_) (fun hc25 => ?_)
    · rw [if_pos hc25] at h
      exact hz_ls [0, 1, 2] rfl (gk20 a1 a2 M23 h)
    · rw [if_neg hc25] at h
      refine hz_iconst (v := (1 : Int32)) hO dX11_valve_24 (by decide) ?_
      refine hz_goto (tgt := 29) hO dX11_valve_25 (by decide) ?_
      exact hz_ls [0, 1, 2] rfl (gk16 a1 a2 (1 : Int32) M23 h)
def f_X11_waiting_L36 (kk51 : Int32 → hz_M → hz_O) : Nat → Int32 → Int32 → Int32 → hz_M → hz_O
  | 0, _, _, _, _ => none
  | n + 1, v1_9, v2_10, v3_11, M12 =>
    if v1_9 ≤ v3_11 then
      kk51 v2_10 M12
    else
      hz_ct (f_X11_minute M12) fun r14 M15 =>
      hz_lt (v3_11 + (1 : Int32)) fun x17 =>
      f_X11_waiting_L36 kk51 n v1_9 v2_10 x17 M15
def f_X11_waiting (a1 : Int32) (M : hz_M) : hz_O :=
  if ((M 179 (Int32.toNatClampNeg (8 : Int32))) + a1) ≤ (9999 : Int32) then
    hz_ct (f_X11_changes M) fun r2 M3 =>
    hz_lt ((M3 179 (Int32.toNatClampNeg (16 : Int32)))) fun x5 =>
    hz_jn (fun (v2_6 : Int32) (M7 : hz_M) =>
      some (((M7 179 (Int32.toNatClampNeg (16 : Int32))) - v2_6), M7)
      ) fun k8 =>
    f_X11_waiting_L36 k8 hz_FU a1 x5 (0 : Int32) M3
  else
    hz_ct (f_X11_refuses (-5 : Int32) M) fun r18 M19 =>
    some (r18, M19)
set_option maxRecDepth 100000 in
set_option maxHeartbeats 4000000 in
theorem g_X11_waiting_L36 {p : Program} {l : Launch} {e : Env} {s : State} {m : MethodId} {args : Array Value} {below : List Frame} {meth : Method} {c : Code} {w : hz_C} {N : Nat} (hN : 193 ≤ N) {rE : Int32} {ME : hz_M} (hO : hz_Ok p s m args meth c w cX11_waiting 4 RX11 (some .int)) (kk51 : Int32 → hz_M → hz_O) (gkk51 : ∀ (v2_6 : Int32) (M : hz_M), kk51 v2_6 M = some (rE, ME) → hz_G p l e 4 hz_z0 s m args below meth c w N 4 (MQ below (hz_Qi w N rE ME) args s 0 0 (hz_A w)) M 51 [(0, .ref (hz_ad w 178)), (2, .int v2_6)] []) : ∀ (n : Nat) (v1_9 : Int32) (v2_10 : Int32) (v3_11 : Int32) (M12 : hz_M), f_X11_waiting_L36 kk51 n v1_9 v2_10 v3_11 M12 = some (rE, ME) → hz_G p l e 4 hz_z0 s m args below meth c w N 4 (MQ below (hz_Qi w N rE ME) args s 0 0 (hz_A w)) M12 36 [(0, .ref (hz_ad w 178)), (1, .int v1_9), (2, .int v2_10), (3, .int v3_11)] [] := by
  intro n
  induction n with
  | zero =>
    intro v1_9 v2_10 v3_11 M12 h
    rw [f_X11_waiting_L36] at h
    cases h
  | succ n ih =>
    intro v1_9 v2_10 v3_11 M12 h
    rw [f_X11_waiting_L36] at h
    refine hz_iload_n hO dX11_waiting_36 rfl 3 rfl ?_
    refine hz_iload_n hO dX11_waiting_37 rfl 1 rfl ?_
    refine hz_icmp_ge (tgt := 51) hO dX11_waiting_38 (by decide) (fun hc13 => ?_) (fun hc13 => ?_)
    · rw [if_pos hc13] at h
      exact hz_ls [0, 2] rfl (gkk51 v2_10 M12 h)
    · rw [if_neg hc13] at h
      refine hz_aload_n hO dX11_waiting_41 rfl 0 rfl ?_
      obtain ⟨r14, M15, hq16, h⟩ := hz_ct_e h
      refine hz_callVv (as := []) (rest := []) hO (c_X11_minute l w hN hq16) hz_cal_X11_minute hz_K_9 hz_sh_178 (hz_lt_178 hN) tw_7_197 (Nat.le_of_ble_eq_true rfl) rfl rfl (Nat.le_of_ble_eq_true rfl) dX11_waiting_42 ?_
      obtain ⟨x17, h_x17, h⟩ := hz_lt_e h
      refine hz_iinc (k := 3) (v := x17) (ls1 := [(3, .int x17), (0, .ref (hz_ad w 178)), (1, .int v1_9), (2, .int v2_10)]) hO dX11_waiting_45 rfl (by rw [h_x17]; rfl) (Nat.le_of_ble_eq_true rfl) rfl ?_
      refine hz_goto (tgt := 36) hO dX11_waiting_48 (by decide) ?_
      exact hz_ls [1, 2, 3, 0] rfl (ih v1_9 v2_10 x17 M15 h)
set_option maxRecDepth 100000 in
set_option maxHeartbeats 4000000 in
theorem c_X11_waiting (l : Launch) (w : hz_C) {N : Nat} (hN : 193 ≤ N) (a1 : Int32) {M : hz_M} {rE : Int32} {ME : hz_M} (h : f_X11_waiting a1 M = some (rE, ME)) : hz_Ct l yX11_waiting cX11_waiting 4 (some .int) 4 w N [.ref (hz_ad w 178), .int a1] M (hz_Qi w N rE ME) := by
  refine hz_ofW (by decide) rfl (Nat.le_of_ble_eq_true rfl) tw_7_192 ?_
  intro p e s m args below meth c hO
  show hz_G p l e 4 hz_z0 s m args below meth c w N 4 _ M 0 [(0, .ref (hz_ad w 178)), (1, .int a1)] []
  unfold f_X11_waiting at h
  refine hz_aload_n hO dX11_waiting_0 rfl 0 rfl ?_
  refine hz_getR (k := 0) hO 179 hz_K_9 hz_sh_178 (hz_lt_178 hN) rfl (Nat.le_of_ble_eq_true rfl) tw_6_229 rfl dX11_waiting_1 ?_
  refine hz_bipush (v := (8 : Int32)) hO dX11_waiting_4 (by decide) ?_
  refine hz_iald hO hz_sh_179 (hz_lt_179 hN) (by decide) dX11_waiting_6 ?_
  refine hz_iload_n hO dX11_waiting_7 rfl 1 rfl ?_
  refine hz_iadd hO dX11_waiting_8 ?_
  refine hz_sipush (v := (9999 : Int32)) hO dX11_waiting_9 (by decide) ?_
  refine hz_icmp_le (tgt := 22) hO dX11_waiting_12 (by decide) (fun hc1 => ?_) (fun hc1 => ?_)
  · rw [if_pos hc1] at h
    refine hz_aload_n hO dX11_waiting_22 rfl 0 rfl ?_
    obtain ⟨r2, M3, hq4, h⟩ := hz_ct_e h
    refine hz_callVv (as := []) (rest := []) hO (c_X11_changes l w hN hq4) hz_cal_X11_changes hz_K_9 hz_sh_178 (hz_lt_178 hN) tw_7_153 (Nat.le_of_ble_eq_true rfl) rfl rfl (Nat.le_of_ble_eq_true rfl) dX11_waiting_23 ?_
    refine hz_aload_n hO dX11_waiting_26 rfl 0 rfl ?_
    refine hz_getR (k := 0) hO 179 hz_K_9 hz_sh_178 (hz_lt_178 hN) rfl (Nat.le_of_ble_eq_true rfl) tw_6_229 rfl dX11_waiting_27 ?_
    refine hz_bipush (v := (16 : Int32)) hO dX11_waiting_30 (by decide) ?_
    refine hz_iald hO hz_sh_179 (hz_lt_179 hN) (by decide) dX11_waiting_32 ?_
    obtain ⟨x5, h_x5, h⟩ := hz_lt_e h
    refine hz_name h_x5 ?_
    refine hz_istore_n (ls1 := [(2, .int x5), (0, .ref (hz_ad w 178)), (1, .int a1)]) hO dX11_waiting_33 rfl (Nat.le_of_ble_eq_true rfl) rfl ?_
    refine hz_iconst (v := (0 : Int32)) hO dX11_waiting_34 (by decide) ?_
    refine hz_istore_n (ls1 := [(3, .int (0 : Int32)), (2, .int x5), (0, .ref (hz_ad w 178)), (1, .int a1)]) hO dX11_waiting_35 rfl (Nat.le_of_ble_eq_true rfl) rfl ?_
    obtain ⟨k8, hk8, h⟩ := hz_jn_e h
    have gk8 : ∀ (v2_6 : Int32) (M7 : hz_M), k8 v2_6 M7 = some (rE, ME) → hz_G p l e 4 hz_z0 s m args below meth c w N 4 (MQ below (hz_Qi w N rE ME) args s 0 0 (hz_A w)) M7 51 [(0, .ref (hz_ad w 178)), (2, .int v2_6)] [] := by
      intro v2_6 M7 h
      rw [hk8] at h
      dsimp only at h
      refine hz_aload_n hO dX11_waiting_51 rfl 0 rfl ?_
      refine hz_getR (k := 0) hO 179 hz_K_9 hz_sh_178 (hz_lt_178 hN) rfl (Nat.le_of_ble_eq_true rfl) tw_6_229 rfl dX11_waiting_52 ?_
      refine hz_bipush (v := (16 : Int32)) hO dX11_waiting_55 (by decide) ?_
      refine hz_iald hO hz_sh_179 (hz_lt_179 hN) (by decide) dX11_waiting_57 ?_
      refine hz_iload_n hO dX11_waiting_58 rfl 1 rfl ?_
      refine hz_isub hO dX11_waiting_59 ?_
      exact hz_nameM (hz_some_e h).2.symm (hz_name (hz_some_e h).1.symm (hz_iret hO dX11_waiting_60))
    clear hk8
    exact hz_ls [2, 3, 1, 0] rfl (g_X11_waiting_L36 hN hO _ gk8 _ a1 x5 (0 : Int32) M3 h)
  · rw [if_neg hc1] at h
    refine hz_aload_n hO dX11_waiting_15 rfl 0 rfl ?_
    refine hz_bipush (v := (-5 : Int32)) hO dX11_waiting_16 (by decide) ?_
    obtain ⟨r18, M19, hq20, h⟩ := hz_ct_e h
    refine hz_callVi (as := [.int (-5 : Int32)]) (rest := []) hO (c_X11_refuses l w hN (-5 : Int32) hq20) hz_cal_X11_refuses hz_K_9 hz_sh_178 (hz_lt_178 hN) tw_7_193 (Nat.le_of_ble_eq_true rfl) rfl rfl (Nat.le_of_ble_eq_true rfl) dX11_waiting_18 ?_
    exact hz_nameM (hz_some_e h).2.symm (hz_name (hz_some_e h).1.symm (hz_iret hO dX11_waiting_21))
def f_X11_waits (a1 : Int32) (M : hz_M) : hz_O :=
  hz_lm (hz_set M 178 8 (0 : Int32)) fun M1 =>
  hz_ct (f_X11_in a1 (1 : Int32) (60 : Int32) M1) fun r2 M3 =>
  hz_ct (f_X11_right r2 M3) fun r5 M6 =>
  if r5 = 0 then
    some ((0 : Int32), M6)
  else
    hz_ct (f_X11_waiting a1 M6) fun r9 M10 =>
    some (r9, M10)
set_option maxRecDepth 100000 in
set_option maxHeartbeats 4000000 in
theorem c_X11_waits (l : Launch) (w : hz_C) {N : Nat} (hN : 193 ≤ N) (a1 : Int32) {M : hz_M} {rE : Int32} {ME : hz_M} (h : f_X11_waits a1 M = some (rE, ME)) : hz_Ct l yX11_waits cX11_waits 2 (some .int) 5 w N [.ref (hz_ad w 178), .int a1] M (hz_Qi w N rE ME) := by
  refine hz_ofW (by decide) rfl (Nat.le_of_ble_eq_true rfl) tw_9_32 ?_
  intro p e s m args below meth c hO
  show hz_G p l e 5 hz_z0 s m args below meth c w N 2 _ M 0 [(0, .ref (hz_ad w 178)), (1, .int a1)] []
  unfold f_X11_waits at h
  refine hz_aload_n hO dX11_waits_0 rfl 0 rfl ?_
  refine hz_iconst (v := (0 : Int32)) hO dX11_waits_1 (by decide) ?_
  obtain ⟨M1, h_M1, h⟩ := hz_lm_e h
  refine hz_putI (k := 8) (ty := .int) hO hz_K_9 tyX11_ok nmX11 hz_sh_178 (hz_lt_178 hN) rfl (Nat.le_of_ble_eq_true rfl) tw_6_237 rfl rfl rfl rfl rfl dX11_waits_2 ?_
  refine hz_nameM h_M1 ?_
  refine hz_aload_n hO dX11_waits_5 rfl 0 rfl ?_
  refine hz_iload_n hO dX11_waits_6 rfl 1 rfl ?_
  refine hz_iconst (v := (1 : Int32)) hO dX11_waits_7 (by decide) ?_
  refine hz_bipush (v := (60 : Int32)) hO dX11_waits_8 (by decide) ?_
  obtain ⟨r2, M3, hq4, h⟩ := hz_ct_e h
  refine hz_callSi (as := [.int a1, .int (1 : Int32), .int (60 : Int32)]) (rest := [.ref (hz_ad w 178)]) hO (c_X11_in l w hN a1 (1 : Int32) (60 : Int32) hq4) hz_cal_X11_in tw_6_171 (Nat.le_of_ble_eq_true rfl) rfl rfl (Nat.le_of_ble_eq_true rfl) dX11_waits_10 ?_
  obtain ⟨r5, M6, hq7, h⟩ := hz_ct_e h
  refine hz_callVi (as := [.int r2]) (rest := []) hO (c_X11_right l w hN r2 hq7) hz_cal_X11_right hz_K_9 hz_sh_178 (hz_lt_178 hN) tw_8_82 (Nat.le_of_ble_eq_true rfl) rfl rfl (Nat.le_of_ble_eq_true rfl) dX11_waits_13 ?_
  refine hz_if_eq (tgt := 27) hO dX11_waits_16 (by decide) (fun hc8 => ?_) (fun hc8 => ?_)
  · rw [if_pos hc8] at h
    refine hz_iconst (v := (0 : Int32)) hO dX11_waits_27 (by decide) ?_
    exact hz_nameM (hz_some_e h).2.symm (hz_name (hz_some_e h).1.symm (hz_iret hO dX11_waits_28))
  · rw [if_neg hc8] at h
    refine hz_aload_n hO dX11_waits_19 rfl 0 rfl ?_
    refine hz_iload_n hO dX11_waits_20 rfl 1 rfl ?_
    obtain ⟨r9, M10, hq11, h⟩ := hz_ct_e h
    refine hz_callVi (as := [.int a1]) (rest := []) hO (c_X11_waiting l w hN a1 hq11) hz_cal_X11_waiting hz_K_9 hz_sh_178 (hz_lt_178 hN) tw_7_189 (Nat.le_of_ble_eq_true rfl) rfl rfl (Nat.le_of_ble_eq_true rfl) dX11_waits_21 ?_
    refine hz_goto (tgt := 28) hO dX11_waits_24 (by decide) ?_
    exact hz_nameM (hz_some_e h).2.symm (hz_name (hz_some_e h).1.symm (hz_iret hO dX11_waits_28))
def f_X11_set (a1 : Int32) (a2 : Int32) (M : hz_M) : hz_O :=
  hz_lm (hz_set M 178 8 (0 : Int32)) fun M1 =>
  hz_ct (f_X11_in a1 (6 : Int32) (8 : Int32) M1) fun r2 M3 =>
  hz_jn (fun (v1_5 : Int32) (v2_6 : Int32) (q7 : Int32) (M8 : hz_M) =>
    hz_ct (f_X11_right q7 M8) fun r9 M10 =>
    if r9 = 0 then
      some ((0 : Int32), M10)
    else
      hz_ct (f_X11_changes M10) fun r13 M14 =>
      hz_gd (hz_in (v1_5 - (1 : Int32)) 185) <|
      hz_lt ((M14 179 (Int32.toNatClampNeg (v1_5 - (1 : Int32))))) fun x17 =>
      hz_gd (hz_in (v1_5 - (1 : Int32)) 185) <|
      hz_lm (hz_set M14 179 (Int32.toNatClampNeg (v1_5 - (1 : Int32))) v2_6) fun M19 =>
      some (x17, M19)
    ) fun k20 =>
  hz_jn (fun (v1_21 : Int32) (v2_22 : Int32) (M23 : hz_M) =>
    k20 v1_21 v2_22 (0 : Int32) M23
    ) fun k24 =>
  if r2 = 0 then
    k24 a1 a2 M3
  else
    hz_jn (fun (v1_26 : Int32) (v2_27 : Int32) (q28 : Int32) (q29 : Int32) (M30 : hz_M) =>
      hz_jn (fun (v1_31 : Int32) (v2_32 : Int32) (q33 : Int32) (q34 : Int32) (q35 : Int32) (M36 : hz_M) =>
        hz_ct (f_X11_in q35 q34 q33 M36) fun r37 M38 =>
        if r37 = 0 then
          k24 v1_31 v2_32 M38
        else
          k20 v1_31 v2_32 (1 : Int32) M38
        ) fun k41 =>
      if v1_26 = (6 : Int32) then
        k41 v1_26 v2_27 (9 : Int32) q28 q29 M30
      else
        if v1_26 = (7 : Int32) then
          k41 v1_26 v2_27 (60 : Int32) q28 q29 M30
        else
          k41 v1_26 v2_27 (30 : Int32) q28 q29 M30
      ) fun k44 =>
    if a1 = (6 : Int32) then
      k44 a1 a2 (1 : Int32) a2 M3
    else
      if a1 = (7 : Int32) then
        k44 a1 a2 (2 : Int32) a2 M3
      else
        k44 a1 a2 (0 : Int32) a2 M3
set_option maxRecDepth 100000 in
set_option maxHeartbeats 4000000 in
theorem c_X11_set (l : Launch) (w : hz_C) {N : Nat} (hN : 193 ≤ N) (a1 : Int32) (a2 : Int32) {M : hz_M} {rE : Int32} {ME : hz_M} (h : f_X11_set a1 a2 M = some (rE, ME)) : hz_Ct l yX11_set cX11_set 4 (some .int) 2 w N [.ref (hz_ad w 178), .int a1, .int a2] M (hz_Qi w N rE ME) := by
  refine hz_ofW (by decide) rfl (Nat.le_of_ble_eq_true rfl) tw_9_36 ?_
  intro p e s m args below meth c hO
  show hz_G p l e 2 hz_z0 s m args below meth c w N 4 _ M 0 [(0, .ref (hz_ad w 178)), (1, .int a1), (2, .int a2)] []
  unfold f_X11_set at h
  refine hz_aload_n hO dX11_set_0 rfl 0 rfl ?_
  refine hz_iconst (v := (0 : Int32)) hO dX11_set_1 (by decide) ?_
  obtain ⟨M1, h_M1, h⟩ := hz_lm_e h
  refine hz_putI (k := 8) (ty := .int) hO hz_K_9 tyX11_ok nmX11 hz_sh_178 (hz_lt_178 hN) rfl (Nat.le_of_ble_eq_true rfl) tw_6_237 rfl rfl rfl rfl rfl dX11_set_2 ?_
  refine hz_nameM h_M1 ?_
  refine hz_aload_n hO dX11_set_5 rfl 0 rfl ?_
  refine hz_iload_n hO dX11_set_6 rfl 1 rfl ?_
  refine hz_bipush (v := (6 : Int32)) hO dX11_set_7 (by decide) ?_
  refine hz_bipush (v := (8 : Int32)) hO dX11_set_9 (by decide) ?_
  obtain ⟨r2, M3, hq4, h⟩ := hz_ct_e h
  refine hz_callSi (as := [.int a1, .int (6 : Int32), .int (8 : Int32)]) (rest := [.ref (hz_ad w 178)]) hO (c_X11_in l w hN a1 (6 : Int32) (8 : Int32) hq4) hz_cal_X11_in tw_6_171 (Nat.le_of_ble_eq_true rfl) rfl rfl (Nat.le_of_ble_eq_true rfl) dX11_set_11 ?_
  obtain ⟨k20, hk20, h⟩ := hz_jn_e h
  have gk20 : ∀ (v1_5 : Int32) (v2_6 : Int32) (q7 : Int32) (M8 : hz_M), k20 v1_5 v2_6 q7 M8 = some (rE, ME) → hz_G p l e 2 hz_z0 s m args below meth c w N 4 (MQ below (hz_Qi w N rE ME) args s 0 0 (hz_A w)) M8 74 [(0, .ref (hz_ad w 178)), (1, .int v1_5), (2, .int v2_6)] [.int q7, .ref (hz_ad w 178)] := by
    intro v1_5 v2_6 q7 M8 h
    rw [hk20] at h
    dsimp only at h
    obtain ⟨r9, M10, hq11, h⟩ := hz_ct_e h
    refine hz_callVi (as := [.int q7]) (rest := []) hO (c_X11_right l w hN q7 hq11) hz_cal_X11_right hz_K_9 hz_sh_178 (hz_lt_178 hN) tw_8_82 (Nat.le_of_ble_eq_true rfl) rfl rfl (Nat.le_of_ble_eq_true rfl) dX11_set_74 ?_
    refine hz_if_ne (tgt := 82) hO dX11_set_77 (by decide) (fun hc12 => ?_) (fun hc12 => ?_)
    · rw [if_neg hc12] at h
      refine hz_aload_n hO dX11_set_82 rfl 0 rfl ?_
      obtain ⟨r13, M14, hq15, h⟩ := hz_ct_e h
      refine hz_callVv (as := []) (rest := []) hO (c_X11_changes l w hN hq15) hz_cal_X11_changes hz_K_9 hz_sh_178 (hz_lt_178 hN) tw_7_153 (Nat.le_of_ble_eq_true rfl) rfl rfl (Nat.le_of_ble_eq_true rfl) dX11_set_83 ?_
      refine hz_aload_n hO dX11_set_86 rfl 0 rfl ?_
      refine hz_getR (k := 0) hO 179 hz_K_9 hz_sh_178 (hz_lt_178 hN) rfl (Nat.le_of_ble_eq_true rfl) tw_6_229 rfl dX11_set_87 ?_
      refine hz_iload_n hO dX11_set_90 rfl 1 rfl ?_
      refine hz_iconst (v := (1 : Int32)) hO dX11_set_91 (by decide) ?_
      refine hz_isub hO dX11_set_92 ?_
      obtain ⟨hg16, h⟩ := hz_gd_e h
      refine hz_iald hO hz_sh_179 (hz_lt_179 hN) hg16 dX11_set_93 ?_
      obtain ⟨x17, h_x17, h⟩ := hz_lt_e h
      refine hz_name h_x17 ?_
      refine hz_istore_n (ls1 := [(3, .int x17), (0, .ref (hz_ad w 178)), (1, .int v1_5), (2, .int v2_6)]) hO dX11_set_94 rfl (Nat.le_of_ble_eq_true rfl) rfl ?_
      refine hz_aload_n hO dX11_set_95 rfl 1 rfl ?_
      refine hz_getR (k := 0) hO 179 hz_K_9 hz_sh_178 (hz_lt_178 hN) rfl (Nat.le_of_ble_eq_true rfl) tw_6_229 rfl dX11_set_96 ?_
      refine hz_iload_n hO dX11_set_99 rfl 2 rfl ?_
      refine hz_iconst (v := (1 : Int32)) hO dX11_set_100 (by decide) ?_
      refine hz_isub hO dX11_set_101 ?_
      refine hz_iload_n hO dX11_set_102 rfl 3 rfl ?_
      obtain ⟨hg18, h⟩ := hz_gd_e h
      obtain ⟨M19, h_M19, h⟩ := hz_lm_e h
      refine hz_iast hO hz_sh_179 (hz_lt_179 hN) hg18 dX11_set_103 ?_
      refine hz_nameM h_M19 ?_
      refine hz_iload_n hO dX11_set_104 rfl 0 rfl ?_
      exact hz_nameM (hz_some_e h).2.symm (hz_name (hz_some_e h).1.symm (hz_iret hO dX11_set_105))
    · rw [if_pos hc12] at h
      refine hz_iconst (v := (0 : Int32)) hO dX11_set_80 (by decide) ?_
      exact hz_nameM (hz_some_e h).2.symm (hz_name (hz_some_e h).1.symm (hz_iret hO dX11_set_81))
  clear hk20
  obtain ⟨k24, hk24, h⟩ := hz_jn_e h
  have gk24 : ∀ (v1_21 : Int32) (v2_22 : Int32) (M23 : hz_M), k24 v1_21 v2_22 M23 = some (rE, ME) → hz_G p l e 2 hz_z0 s m args below meth c w N 4 (MQ below (hz_Qi w N rE ME) args s 0 0 (hz_A w)) M23 73 [(0, .ref (hz_ad w 178)), (1, .int v1_21), (2, .int v2_22)] [.ref (hz_ad w 178)] := by
    intro v1_21 v2_22 M23 h
    rw [hk24] at h
    dsimp only at h
    refine hz_iconst (v := (0 : Int32)) hO dX11_set_73 (by decide) ?_
    exact hz_ls [0, 1, 2] rfl (gk20 v1_21 v2_22 (0 : Int32) M23 h)
  clear hk24
  refine hz_if_eq (tgt := 73) hO dX11_set_14 (by decide) (fun hc25 => ?_) (fun hc25 => ?_)
  · rw [if_pos hc25] at h
    exact hz_ls [0, 1, 2] rfl (gk24 a1 a2 M3 h)
  · rw [if_neg hc25] at h
    refine hz_iload_n hO dX11_set_17 rfl 2 rfl ?_
    refine hz_iload_n hO dX11_set_18 rfl 1 rfl ?_
    refine hz_bipush (v := (6 : Int32)) hO dX11_set_19 (by decide) ?_
    obtain ⟨k44, hk44, h⟩ := hz_jn_e h
    have gk44 : ∀ (v1_26 : Int32) (v2_27 : Int32) (q28 : Int32) (q29 : Int32) (M30 : hz_M), k44 v1_26 v2_27 q28 q29 M30 = some (rE, ME) → hz_G p l e 2 hz_z0 s m args below meth c w N 4 (MQ below (hz_Qi w N rE ME) args s 0 0 (hz_A w)) M30 39 [(0, .ref (hz_ad w 178)), (1, .int v1_26), (2, .int v2_27)] [.int q28, .int q29, .ref (hz_ad w 178)] := by
      intro v1_26 v2_27 q28 q29 M30 h
      rw [hk44] at h
      dsimp only at h
      refine hz_iload_n hO dX11_set_39 rfl 1 rfl ?_
      refine hz_bipush (v := (6 : Int32)) hO dX11_set_40 (by decide) ?_
      obtain ⟨k41, hk41, h⟩ := hz_jn_e h
      have gk41 : ∀ (v1_31 : Int32) (v2_32 : Int32) (q33 : Int32) (q34 : Int32) (q35 : Int32) (M36 : hz_M), k41 v1_31 v2_32 q33 q34 q35 M36 = some (rE, ME) → hz_G p l e 2 hz_z0 s m args below meth c w N 4 (MQ below (hz_Qi w N rE ME) args s 0 0 (hz_A w)) M36 63 [(0, .ref (hz_ad w 178)), (1, .int v1_31), (2, .int v2_32)] [.int q33, .int q34, .int q35, .ref (hz_ad w 178)] := by
        intro v1_31 v2_32 q33 q34 q35 M36 h
        rw [hk41] at h
        dsimp only at h
        obtain ⟨r37, M38, hq39, h⟩ := hz_ct_e h
        refine hz_callSi (as := [.int q35, .int q34, .int q33]) (rest := [.ref (hz_ad w 178)]) hO (c_X11_in l w hN q35 q34 q33 hq39) hz_cal_X11_in tw_6_171 (Nat.le_of_ble_eq_true rfl) rfl rfl (Nat.le_of_ble_eq_true rfl) dX11_set_63 ?_
        refine hz_if_eq (tgt := 73) hO dX11_set_66 (by decide) (fun hc40 => ?_) (fun hc40 => ?_)
        · rw [if_pos hc40] at h
          exact hz_ls [0, 1, 2] rfl (gk24 v1_31 v2_32 M38 h)
        · rw [if_neg hc40] at h
          refine hz_iconst (v := (1 : Int32)) hO dX11_set_69 (by decide) ?_
          refine hz_goto (tgt := 74) hO dX11_set_70 (by decide) ?_
          exact hz_ls [0, 1, 2] rfl (gk20 v1_31 v2_32 (1 : Int32) M38 h)
      clear hk41
      refine hz_icmp_ne (tgt := 50) hO dX11_set_42 (by decide) (fun hc42 => ?_) (fun hc42 => ?_)
      · rw [if_neg hc42] at h
        refine hz_iload_n hO dX11_set_50 rfl 1 rfl ?_
        refine hz_bipush (v := (7 : Int32)) hO dX11_set_51 (by decide) ?_
        refine hz_icmp_ne (tgt := 61) hO dX11_set_53 (by decide) (fun hc43 => ?_) (fun hc43 => ?_)
        · rw [if_neg hc43] at h
          refine hz_bipush (v := (30 : Int32)) hO dX11_set_61 (by decide) ?_
          exact hz_ls [0, 1, 2] rfl (gk41 v1_26 v2_27 (30 : Int32) q28 q29 M30 h)
        · rw [if_pos hc43] at h
          refine hz_bipush (v := (60 : Int32)) hO dX11_set_56 (by decide) ?_
          refine hz_goto (tgt := 63) hO dX11_set_58 (by decide) ?_
          exact hz_ls [0, 1, 2] rfl (gk41 v1_26 v2_27 (60 : Int32) q28 q29 M30 h)
      · rw [if_pos hc42] at h
        refine hz_bipush (v := (9 : Int32)) hO dX11_set_45 (by decide) ?_
        refine hz_goto (tgt := 63) hO dX11_set_47 (by decide) ?_
        exact hz_ls [0, 1, 2] rfl (gk41 v1_26 v2_27 (9 : Int32) q28 q29 M30 h)
    clear hk44
    refine hz_icmp_ne (tgt := 28) hO dX11_set_21 (by decide) (fun hc45 => ?_) (fun hc45 => ?_)
    · rw [if_neg hc45] at h
      refine hz_iload_n hO dX11_set_28 rfl 1 rfl ?_
      refine hz_bipush (v := (7 : Int32)) hO dX11_set_29 (by decide) ?_
      refine hz_icmp_ne (tgt := 38) hO dX11_set_31 (by decide) (fun hc46 => ?_) (fun hc46 => ?_)
      · rw [if_neg hc46] at h
        refine hz_iconst (v := (0 : Int32)) hO dX11_set_38 (by decide) ?_
        exact hz_ls [0, 1, 2] rfl (gk44 a1 a2 (0 : Int32) a2 M3 h)
      · rw [if_pos hc46] at h
        refine hz_iconst (v := (2 : Int32)) hO dX11_set_34 (by decide) ?_
        refine hz_goto (tgt := 39) hO dX11_set_35 (by decide) ?_
        exact hz_ls [0, 1, 2] rfl (gk44 a1 a2 (2 : Int32) a2 M3 h)
    · rw [if_pos hc45] at h
      refine hz_iconst (v := (1 : Int32)) hO dX11_set_24 (by decide) ?_
      refine hz_goto (tgt := 39) hO dX11_set_25 (by decide) ?_
      exact hz_ls [0, 1, 2] rfl (gk44 a1 a2 (1 : Int32) a2 M3 h)
def f_X11_writes (a1 : Int32) (M : hz_M) : hz_O :=
  hz_gd (hz_in (M 178 27) 400) <|
  hz_lm (hz_set M 191 (Int32.toNatClampNeg (M 178 27)) a1) fun M2 =>
  hz_lm (hz_set M2 178 27 ((M2 178 27) + (1 : Int32))) fun M3 =>
  some (0, M3)
set_option maxRecDepth 100000 in
set_option maxHeartbeats 4000000 in
theorem c_X11_writes (l : Launch) (w : hz_C) {N : Nat} (hN : 193 ≤ N) (a1 : Int32) {M : hz_M} {rE : Int32} {ME : hz_M} (h : f_X11_writes a1 M = some (rE, ME)) : hz_Ct l yX11_writes cX11_writes 2 none 0 w N [.ref (hz_ad w 178), .int a1] M (hz_Qv w N ME) := by
  refine hz_ofW (by decide) rfl (Nat.le_of_ble_eq_true rfl) tw_9_48 ?_
  intro p e s m args below meth c hO
  show hz_G p l e 0 hz_z0 s m args below meth c w N 2 _ M 0 [(0, .ref (hz_ad w 178)), (1, .int a1)] []
  unfold f_X11_writes at h
  refine hz_aload_n hO dX11_writes_0 rfl 0 rfl ?_
  refine hz_getR (k := 25) hO 191 hz_K_9 hz_sh_178 (hz_lt_178 hN) rfl (Nat.le_of_ble_eq_true rfl) tw_7_14 rfl dX11_writes_1 ?_
  refine hz_aload_n hO dX11_writes_4 rfl 0 rfl ?_
  refine hz_getI (k := 27) hO hz_K_9 hz_sh_178 (hz_lt_178 hN) rfl (Nat.le_of_ble_eq_true rfl) tw_7_16 rfl dX11_writes_5 ?_
  refine hz_iload_n hO dX11_writes_8 rfl 1 rfl ?_
  obtain ⟨hg1, h⟩ := hz_gd_e h
  obtain ⟨M2, h_M2, h⟩ := hz_lm_e h
  refine hz_iast hO hz_sh_191 (hz_lt_191 hN) hg1 dX11_writes_9 ?_
  refine hz_nameM h_M2 ?_
  refine hz_aload_n hO dX11_writes_10 rfl 0 rfl ?_
  refine hz_dup hO dX11_writes_11 rfl ?_
  refine hz_getI (k := 27) hO hz_K_9 hz_sh_178 (hz_lt_178 hN) rfl (Nat.le_of_ble_eq_true rfl) tw_7_16 rfl dX11_writes_12 ?_
  refine hz_iconst (v := (1 : Int32)) hO dX11_writes_15 (by decide) ?_
  refine hz_iadd hO dX11_writes_16 ?_
  obtain ⟨M3, h_M3, h⟩ := hz_lm_e h
  refine hz_putI (k := 27) (ty := .int) hO hz_K_9 tyX11_ok nmX11 hz_sh_178 (hz_lt_178 hN) rfl (Nat.le_of_ble_eq_true rfl) tw_7_16 rfl rfl rfl rfl rfl dX11_writes_17 ?_
  refine hz_nameM h_M3 ?_
  exact hz_nameM (hz_some_e h).2.symm (hz_vret hO dX11_writes_20)
def f_X11_writesNumber_L34 : Nat → Int32 → hz_M → hz_O
  | 0, _, _ => none
  | n + 1, v4_4, M5 =>
    if v4_4 < 0 then
      some (0, M5)
    else
      hz_gd (hz_in v4_4 8) <|
      hz_ct (f_X11_writes (M5 192 (Int32.toNatClampNeg v4_4)) M5) fun r8 M9 =>
      hz_lt (v4_4 + (-1 : Int32)) fun x11 =>
      f_X11_writesNumber_L34 n x11 M9
def f_X11_writesNumber_L4 (kk29 : Int32 → hz_M → hz_O) : Nat → Int32 → Int32 → hz_M → hz_O
  | 0, _, _, _ => none
  | n + 1, v2_13, v3_14, M15 =>
    hz_gd (hz_in v3_14 8) <|
    hz_lm (hz_set M15 192 (Int32.toNatClampNeg v3_14) ((48 : Int32) + (v2_13 - v2_13 / (10 : Int32) * (10 : Int32)))) fun M17 =>
    hz_lt ((v2_13 / (10 : Int32))) fun x18 =>
    hz_lt (v3_14 + (1 : Int32)) fun x19 =>
    if 0 < x18 then
      f_X11_writesNumber_L4 kk29 n x18 x19 M17
    else
      kk29 x19 M17
def f_X11_writesNumber (a1 : Int32) (M : hz_M) : hz_O :=
  hz_jn (fun (v3_1 : Int32) (M2 : hz_M) =>
    hz_lt ((v3_1 - (1 : Int32))) fun x3 =>
    f_X11_writesNumber_L34 hz_FU x3 M2
    ) fun k12 =>
  f_X11_writesNumber_L4 k12 hz_FU a1 (0 : Int32) M
set_option maxRecDepth 100000 in
set_option maxHeartbeats 4000000 in
theorem g_X11_writesNumber_L34 {p : Program} {l : Launch} {e : Env} {s : State} {m : MethodId} {args : Array Value} {below : List Frame} {meth : Method} {c : Code} {w : hz_C} {N : Nat} (hN : 193 ≤ N) {rE : Int32} {ME : hz_M} (hO : hz_Ok p s m args meth c w cX11_writesNumber 5 RX11 none) : ∀ (n : Nat) (v4_4 : Int32) (M5 : hz_M), f_X11_writesNumber_L34 n v4_4 M5 = some (rE, ME) → hz_G p l e 1 hz_z0 s m args below meth c w N 5 (MQ below (hz_Qv w N ME) args s 0 0 (hz_A w)) M5 34 [(0, .ref (hz_ad w 178)), (4, .int v4_4)] [] := by
  intro n
  induction n with
  | zero =>
    intro v4_4 M5 h
    rw [f_X11_writesNumber_L34] at h
    cases h
  | succ n ih =>
    intro v4_4 M5 h
    rw [f_X11_writesNumber_L34] at h
    refine hz_iload hO dX11_writesNumber_34 1 rfl ?_
    refine hz_if_lt (tgt := 56) hO dX11_writesNumber_36 (by decide) (fun hc6 => ?_) (fun hc6 => ?_)
    · rw [if_pos hc6] at h
      exact hz_nameM (hz_some_e h).2.symm (hz_vret hO dX11_writesNumber_56)
    · rw [if_neg hc6] at h
      refine hz_aload_n hO dX11_writesNumber_39 rfl 0 rfl ?_
      refine hz_aload_n hO dX11_writesNumber_40 rfl 0 rfl ?_
      refine hz_getR (k := 26) hO 192 hz_K_9 hz_sh_178 (hz_lt_178 hN) rfl (Nat.le_of_ble_eq_true rfl) tw_7_15 rfl dX11_writesNumber_41 ?_
      refine hz_iload hO dX11_writesNumber_44 1 rfl ?_
      obtain ⟨hg7, h⟩ := hz_gd_e h
      refine hz_iald hO hz_sh_192 (hz_lt_192 hN) hg7 dX11_writesNumber_46 ?_
      obtain ⟨r8, M9, hq10, h⟩ := hz_ct_e h
      refine hz_callVv (as := [.int (M5 192 (Int32.toNatClampNeg v4_4))]) (rest := []) hO (c_X11_writes l w hN (M5 192 (Int32.toNatClampNeg v4_4)) hq10) hz_cal_X11_writes hz_K_9 hz_sh_178 (hz_lt_178 hN) tw_9_45 (Nat.le_of_ble_eq_true rfl) rfl rfl (Nat.le_of_ble_eq_true rfl) dX11_writesNumber_47 ?_
      obtain ⟨x11, h_x11, h⟩ := hz_lt_e h
      refine hz_iinc (k := 1) (v := x11) (ls1 := [(4, .int x11), (0, .ref (hz_ad w 178))]) hO dX11_writesNumber_50 rfl (by rw [h_x11]; rfl) (Nat.le_of_ble_eq_true rfl) rfl ?_
      refine hz_goto (tgt := 34) hO dX11_writesNumber_53 (by decide) ?_
      exact hz_ls [1, 0] rfl (ih x11 M9 h)
set_option maxRecDepth 100000 in
set_option maxHeartbeats 4000000 in
theorem g_X11_writesNumber_L4 {p : Program} {l : Launch} {e : Env} {s : State} {m : MethodId} {args : Array Value} {below : List Frame} {meth : Method} {c : Code} {w : hz_C} {N : Nat} (hN : 193 ≤ N) {rE : Int32} {ME : hz_M} (hO : hz_Ok p s m args meth c w cX11_writesNumber 5 RX11 none) (kk29 : Int32 → hz_M → hz_O) (gkk29 : ∀ (v3_1 : Int32) (M : hz_M), kk29 v3_1 M = some (rE, ME) → hz_G p l e 1 hz_z0 s m args below meth c w N 5 (MQ below (hz_Qv w N ME) args s 0 0 (hz_A w)) M 29 [(0, .ref (hz_ad w 178)), (3, .int v3_1)] []) : ∀ (n : Nat) (v2_13 : Int32) (v3_14 : Int32) (M15 : hz_M), f_X11_writesNumber_L4 kk29 n v2_13 v3_14 M15 = some (rE, ME) → hz_G p l e 1 hz_z0 s m args below meth c w N 5 (MQ below (hz_Qv w N ME) args s 0 0 (hz_A w)) M15 4 [(0, .ref (hz_ad w 178)), (2, .int v2_13), (3, .int v3_14)] [] := by
  intro n
  induction n with
  | zero =>
    intro v2_13 v3_14 M15 h
    rw [f_X11_writesNumber_L4] at h
    cases h
  | succ n ih =>
    intro v2_13 v3_14 M15 h
    rw [f_X11_writesNumber_L4] at h
    refine hz_aload_n hO dX11_writesNumber_4 rfl 0 rfl ?_
    refine hz_getR (k := 26) hO 192 hz_K_9 hz_sh_178 (hz_lt_178 hN) rfl (Nat.le_of_ble_eq_true rfl) tw_7_15 rfl dX11_writesNumber_5 ?_
    refine hz_iload_n hO dX11_writesNumber_8 rfl 2 rfl ?_
    refine hz_bipush (v := (48 : Int32)) hO dX11_writesNumber_9 (by decide) ?_
    refine hz_iload_n hO dX11_writesNumber_11 rfl 1 rfl ?_
    refine hz_bipush (v := (10 : Int32)) hO dX11_writesNumber_12 (by decide) ?_
    refine hz_irem hO dX11_writesNumber_14 (by decide) ?_
    refine hz_iadd hO dX11_writesNumber_15 ?_
    obtain ⟨hg16, h⟩ := hz_gd_e h
    obtain ⟨M17, h_M17, h⟩ := hz_lm_e h
    refine hz_iast hO hz_sh_192 (hz_lt_192 hN) hg16 dX11_writesNumber_16 ?_
    refine hz_nameM h_M17 ?_
    refine hz_iload_n hO dX11_writesNumber_17 rfl 1 rfl ?_
    refine hz_bipush (v := (10 : Int32)) hO dX11_writesNumber_18 (by decide) ?_
    refine hz_idiv hO dX11_writesNumber_20 (by decide) ?_
    obtain ⟨x18, h_x18, h⟩ := hz_lt_e h
    refine hz_name h_x18 ?_
    refine hz_istore_n (ls1 := [(2, .int x18), (0, .ref (hz_ad w 178)), (3, .int v3_14)]) hO dX11_writesNumber_21 rfl (Nat.le_of_ble_eq_true rfl) rfl ?_
    obtain ⟨x19, h_x19, h⟩ := hz_lt_e h
    refine hz_iinc (k := 2) (v := x19) (ls1 := [(3, .int x19), (2, .int x18), (0, .ref (hz_ad w 178))]) hO dX11_writesNumber_22 rfl (by rw [h_x19]; rfl) (Nat.le_of_ble_eq_true rfl) rfl ?_
    refine hz_iload_n hO dX11_writesNumber_25 rfl 1 rfl ?_
    refine hz_if_gt (tgt := 4) hO dX11_writesNumber_26 (by decide) (fun hc20 => ?_) (fun hc20 => ?_)
    · rw [if_pos hc20] at h
      exact hz_ls [2, 1, 0] rfl (ih x18 x19 M17 h)
    · rw [if_neg hc20] at h
      exact hz_ls [2, 0] rfl (gkk29 x19 M17 h)
set_option maxRecDepth 100000 in
set_option maxHeartbeats 4000000 in
theorem c_X11_writesNumber (l : Launch) (w : hz_C) {N : Nat} (hN : 193 ≤ N) (a1 : Int32) {M : hz_M} {rE : Int32} {ME : hz_M} (h : f_X11_writesNumber a1 M = some (rE, ME)) : hz_Ct l yX11_writesNumber cX11_writesNumber 5 none 1 w N [.ref (hz_ad w 178), .int a1] M (hz_Qv w N ME) := by
  refine hz_ofW (by decide) rfl (Nat.le_of_ble_eq_true rfl) tw_9_44 ?_
  intro p e s m args below meth c hO
  show hz_G p l e 1 hz_z0 s m args below meth c w N 5 _ M 0 [(0, .ref (hz_ad w 178)), (1, .int a1)] []
  unfold f_X11_writesNumber at h
  refine hz_iload_n hO dX11_writesNumber_0 rfl 1 rfl ?_
  refine hz_istore_n (ls1 := [(2, .int a1), (0, .ref (hz_ad w 178)), (1, .int a1)]) hO dX11_writesNumber_1 rfl (Nat.le_of_ble_eq_true rfl) rfl ?_
  refine hz_iconst (v := (0 : Int32)) hO dX11_writesNumber_2 (by decide) ?_
  refine hz_istore_n (ls1 := [(3, .int (0 : Int32)), (2, .int a1), (0, .ref (hz_ad w 178)), (1, .int a1)]) hO dX11_writesNumber_3 rfl (Nat.le_of_ble_eq_true rfl) rfl ?_
  obtain ⟨k12, hk12, h⟩ := hz_jn_e h
  have gk12 : ∀ (v3_1 : Int32) (M2 : hz_M), k12 v3_1 M2 = some (rE, ME) → hz_G p l e 1 hz_z0 s m args below meth c w N 5 (MQ below (hz_Qv w N ME) args s 0 0 (hz_A w)) M2 29 [(0, .ref (hz_ad w 178)), (3, .int v3_1)] [] := by
    intro v3_1 M2 h
    rw [hk12] at h
    dsimp only at h
    refine hz_iload_n hO dX11_writesNumber_29 rfl 1 rfl ?_
    refine hz_iconst (v := (1 : Int32)) hO dX11_writesNumber_30 (by decide) ?_
    refine hz_isub hO dX11_writesNumber_31 ?_
    obtain ⟨x3, h_x3, h⟩ := hz_lt_e h
    refine hz_name h_x3 ?_
    refine hz_istore (ls1 := [(4, .int x3), (0, .ref (hz_ad w 178)), (3, .int v3_1)]) hO dX11_writesNumber_32 (Nat.le_of_ble_eq_true rfl) rfl ?_
    exact hz_ls [1, 0] rfl (g_X11_writesNumber_L34 hN hO _ x3 M2 h)
  clear hk12
  exact hz_ls [2, 1, 0] rfl (g_X11_writesNumber_L4 hN hO _ gk12 _ a1 (0 : Int32) M h)
def f_X11_writesGuests_L47 (kk83 : Int32 → Int32 → hz_M → hz_O) : Nat → Int32 → Int32 → Int32 → hz_M → hz_O
  | 0, _, _, _, _ => none
  | n + 1, v1_31, v3_32, v4_33, M34 =>
    hz_ct (f_X11_of v3_32 (0 : Int32) M34) fun r35 M36 =>
    hz_ct (f_X11_letterOf r35 v4_33 M36) fun r38 M39 =>
    if r38 = (-1 : Int32) then
      kk83 v1_31 v3_32 M39
    else
      hz_ct (f_X11_of v3_32 (0 : Int32) M39) fun r42 M43 =>
      hz_ct (f_X11_letterOf r42 v4_33 M43) fun r45 M46 =>
      hz_ct (f_X11_writes r45 M46) fun r48 M49 =>
      hz_lt (v4_33 + (1 : Int32)) fun x51 =>
      f_X11_writesGuests_L47 kk83 n v1_31 v3_32 x51 M49
def f_X11_writesGuests_L10 (kk91 : hz_M → hz_O) : Nat → Int32 → Int32 → Int32 → hz_M → hz_O
  | 0, _, _, _, _ => none
  | n + 1, v1_9, v2_10, v3_11, M12 =>
    if (M12 179 (Int32.toNatClampNeg (11 : Int32))) ≤ v3_11 then
      kk91 M12
    else
      hz_ct (f_X11_of v3_11 (2 : Int32) M12) fun r14 M15 =>
      hz_jn (fun (v1_17 : Int32) (v2_18 : Int32) (v3_19 : Int32) (M20 : hz_M) =>
        hz_lt (v3_19 + (1 : Int32)) fun x21 =>
        f_X11_writesGuests_L10 kk91 n v1_17 v2_18 x21 M20
        ) fun k22 =>
      if r14 = v1_9 then
        hz_jn (fun (v1_24 : Int32) (v3_25 : Int32) (M26 : hz_M) =>
          hz_jn (fun (v1_27 : Int32) (v3_28 : Int32) (M29 : hz_M) =>
            k22 v1_27 (1 : Int32) v3_28 M29
            ) fun k30 =>
          f_X11_writesGuests_L47 k30 hz_FU v1_24 v3_25 (0 : Int32) M26
          ) fun k52 =>
        if v2_10 = 0 then
          k52 v1_9 v3_11 M15
        else
          hz_ct (f_X11_writes (44 : Int32) M15) fun r54 M55 =>
          k52 v1_9 v3_11 M55
      else
        k22 v1_9 v2_10 v3_11 M15
def f_X11_writesGuests (a1 : Int32) (M : hz_M) : hz_O :=
  hz_ct (f_X11_writes (58 : Int32) M) fun r1 M2 =>
  hz_jn (fun  (M4 : hz_M) =>
    hz_ct (f_X11_writes (32 : Int32) M4) fun r5 M6 =>
    some (0, M6)
    ) fun k8 =>
  f_X11_writesGuests_L10 k8 hz_FU a1 (0 : Int32) (0 : Int32) M2
set_option maxRecDepth 100000 in
set_option maxHeartbeats 4000000 in
theorem g_X11_writesGuests_L47 {p : Program} {l : Launch} {e : Env} {s : State} {m : MethodId} {args : Array Value} {below : List Frame} {meth : Method} {c : Code} {w : hz_C} {N : Nat} (hN : 193 ≤ N) {rE : Int32} {ME : hz_M} (hO : hz_Ok p s m args meth c w cX11_writesGuests 5 RX11 none) (kk83 : Int32 → Int32 → hz_M → hz_O) (gkk83 : ∀ (v1_27 : Int32) (v3_28 : Int32) (M : hz_M), kk83 v1_27 v3_28 M = some (rE, ME) → hz_G p l e 2 hz_z0 s m args below meth c w N 5 (MQ below (hz_Qv w N ME) args s 0 0 (hz_A w)) M 83 [(0, .ref (hz_ad w 178)), (1, .int v1_27), (3, .int v3_28)] []) : ∀ (n : Nat) (v1_31 : Int32) (v3_32 : Int32) (v4_33 : Int32) (M34 : hz_M), f_X11_writesGuests_L47 kk83 n v1_31 v3_32 v4_33 M34 = some (rE, ME) → hz_G p l e 2 hz_z0 s m args below meth c w N 5 (MQ below (hz_Qv w N ME) args s 0 0 (hz_A w)) M34 47 [(0, .ref (hz_ad w 178)), (1, .int v1_31), (3, .int v3_32), (4, .int v4_33)] [] := by
  intro n
  induction n with
  | zero =>
    intro v1_31 v3_32 v4_33 M34 h
    rw [f_X11_writesGuests_L47] at h
    cases h
  | succ n ih =>
    intro v1_31 v3_32 v4_33 M34 h
    rw [f_X11_writesGuests_L47] at h
    refine hz_aload_n hO dX11_writesGuests_47 rfl 0 rfl ?_
    refine hz_iload_n hO dX11_writesGuests_48 rfl 2 rfl ?_
    refine hz_iconst (v := (0 : Int32)) hO dX11_writesGuests_49 (by decide) ?_
    obtain ⟨r35, M36, hq37, h⟩ := hz_ct_e h
    refine hz_callVi (as := [.int v3_32, .int (0 : Int32)]) (rest := []) hO (c_X11_of l w hN v3_32 (0 : Int32) hq37) hz_cal_X11_of hz_K_9 hz_sh_178 (hz_lt_178 hN) tw_6_217 (Nat.le_of_ble_eq_true rfl) rfl rfl (Nat.le_of_ble_eq_true rfl) dX11_writesGuests_50 ?_
    refine hz_iload hO dX11_writesGuests_53 3 rfl ?_
    obtain ⟨r38, M39, hq40, h⟩ := hz_ct_e h
    refine hz_callSi (as := [.int r35, .int v4_33]) (rest := []) hO (c_X11_letterOf l w hN r35 v4_33 hq40) hz_cal_X11_letterOf tw_8_146 (Nat.le_of_ble_eq_true rfl) rfl rfl (Nat.le_of_ble_eq_true rfl) dX11_writesGuests_55 ?_
    refine hz_iconst (v := (-1 : Int32)) hO dX11_writesGuests_58 (by decide) ?_
    refine hz_icmp_eq (tgt := 83) hO dX11_writesGuests_59 (by decide) (fun hc41 => ?_) (fun hc41 => ?_)
    · rw [if_pos hc41] at h
      exact hz_ls [0, 1, 2] rfl (gkk83 v1_31 v3_32 M39 h)
    · rw [if_neg hc41] at h
      refine hz_aload_n hO dX11_writesGuests_62 rfl 0 rfl ?_
      refine hz_aload_n hO dX11_writesGuests_63 rfl 0 rfl ?_
      refine hz_iload_n hO dX11_writesGuests_64 rfl 2 rfl ?_
      refine hz_iconst (v := (0 : Int32)) hO dX11_writesGuests_65 (by decide) ?_
      obtain ⟨r42, M43, hq44, h⟩ := hz_ct_e h
      refine hz_callVi (as := [.int v3_32, .int (0 : Int32)]) (rest := [.ref (hz_ad w 178)]) hO (c_X11_of l w hN v3_32 (0 : Int32) hq44) hz_cal_X11_of hz_K_9 hz_sh_178 (hz_lt_178 hN) tw_6_217 (Nat.le_of_ble_eq_true rfl) rfl rfl (Nat.le_of_ble_eq_true rfl) dX11_writesGuests_66 ?_
      refine hz_iload hO dX11_writesGuests_69 3 rfl ?_
      obtain ⟨r45, M46, hq47, h⟩ := hz_ct_e h
      refine hz_callSi (as := [.int r42, .int v4_33]) (rest := [.ref (hz_ad w 178)]) hO (c_X11_letterOf l w hN r42 v4_33 hq47) hz_cal_X11_letterOf tw_8_146 (Nat.le_of_ble_eq_true rfl) rfl rfl (Nat.le_of_ble_eq_true rfl) dX11_writesGuests_71 ?_
      obtain ⟨r48, M49, hq50, h⟩ := hz_ct_e h
      refine hz_callVv (as := [.int r45]) (rest := []) hO (c_X11_writes l w hN r45 hq50) hz_cal_X11_writes hz_K_9 hz_sh_178 (hz_lt_178 hN) tw_9_45 (Nat.le_of_ble_eq_true rfl) rfl rfl (Nat.le_of_ble_eq_true rfl) dX11_writesGuests_74 ?_
      obtain ⟨x51, h_x51, h⟩ := hz_lt_e h
      refine hz_iinc (k := 3) (v := x51) (ls1 := [(4, .int x51), (0, .ref (hz_ad w 178)), (1, .int v1_31), (3, .int v3_32)]) hO dX11_writesGuests_77 rfl (by rw [h_x51]; rfl) (Nat.le_of_ble_eq_true rfl) rfl ?_
      refine hz_goto (tgt := 47) hO dX11_writesGuests_80 (by decide) ?_
      exact hz_ls [1, 2, 3, 0] rfl (ih v1_31 v3_32 x51 M49 h)
set_option maxRecDepth 100000 in
set_option maxHeartbeats 4000000 in
theorem g_X11_writesGuests_L10 {p : Program} {l : Launch} {e : Env} {s : State} {m : MethodId} {args : Array Value} {below : List Frame} {meth : Method} {c : Code} {w : hz_C} {N : Nat} (hN : 193 ≤ N) {rE : Int32} {ME : hz_M} (hO : hz_Ok p s m args meth c w cX11_writesGuests 5 RX11 none) (kk91 : hz_M → hz_O) (gkk91 : ∀  (M : hz_M), kk91 M = some (rE, ME) → hz_G p l e 2 hz_z0 s m args below meth c w N 5 (MQ below (hz_Qv w N ME) args s 0 0 (hz_A w)) M 91 [(0, .ref (hz_ad w 178))] []) : ∀ (n : Nat) (v1_9 : Int32) (v2_10 : Int32) (v3_11 : Int32) (M12 : hz_M), f_X11_writesGuests_L10 kk91 n v1_9 v2_10 v3_11 M12 = some (rE, ME) → hz_G p l e 2 hz_z0 s m args below meth c w N 5 (MQ below (hz_Qv w N ME) args s 0 0 (hz_A w)) M12 10 [(0, .ref (hz_ad w 178)), (1, .int v1_9), (2, .int v2_10), (3, .int v3_11)] [] := by
  intro n
  induction n with
  | zero =>
    intro v1_9 v2_10 v3_11 M12 h
    rw [f_X11_writesGuests_L10] at h
    cases h
  | succ n ih =>
    intro v1_9 v2_10 v3_11 M12 h
    rw [f_X11_writesGuests_L10] at h
    refine hz_iload_n hO dX11_writesGuests_10 rfl 3 rfl ?_
    refine hz_aload_n hO dX11_writesGuests_11 rfl 0 rfl ?_
    refine hz_getR (k := 0) hO 179 hz_K_9 hz_sh_178 (hz_lt_178 hN) rfl (Nat.le_of_ble_eq_true rfl) tw_6_229 rfl dX11_writesGuests_12 ?_
    refine hz_bipush (v := (11 : Int32)) hO dX11_writesGuests_15 (by decide) ?_
    refine hz_iald hO hz_sh_179 (hz_lt_179 hN) (by decide) dX11_writesGuests_17 ?_
    refine hz_icmp_ge (tgt := 91) hO dX11_writesGuests_18 (by decide) (fun hc13 => ?_) (fun hc13 => ?_)
    · rw [if_pos hc13] at h
      exact hz_ls [0] rfl (gkk91 M12 h)
    · rw [if_neg hc13] at h
      refine hz_aload_n hO dX11_writesGuests_21 rfl 0 rfl ?_
      refine hz_iload_n hO dX11_writesGuests_22 rfl 3 rfl ?_
      refine hz_iconst (v := (2 : Int32)) hO dX11_writesGuests_23 (by decide) ?_
      obtain ⟨r14, M15, hq16, h⟩ := hz_ct_e h
      refine hz_callVi (as := [.int v3_11, .int (2 : Int32)]) (rest := []) hO (c_X11_of l w hN v3_11 (2 : Int32) hq16) hz_cal_X11_of hz_K_9 hz_sh_178 (hz_lt_178 hN) tw_6_217 (Nat.le_of_ble_eq_true rfl) rfl rfl (Nat.le_of_ble_eq_true rfl) dX11_writesGuests_24 ?_
      refine hz_iload_n hO dX11_writesGuests_27 rfl 1 rfl ?_
      obtain ⟨k22, hk22, h⟩ := hz_jn_e h
      have gk22 : ∀ (v1_17 : Int32) (v2_18 : Int32) (v3_19 : Int32) (M20 : hz_M), k22 v1_17 v2_18 v3_19 M20 = some (rE, ME) → hz_G p l e 2 hz_z0 s m args below meth c w N 5 (MQ below (hz_Qv w N ME) args s 0 0 (hz_A w)) M20 85 [(0, .ref (hz_ad w 178)), (1, .int v1_17), (2, .int v2_18), (3, .int v3_19)] [] := by
        intro v1_17 v2_18 v3_19 M20 h
        rw [hk22] at h
        dsimp only at h
        obtain ⟨x21, h_x21, h⟩ := hz_lt_e h
        refine hz_iinc (k := 3) (v := x21) (ls1 := [(3, .int x21), (0, .ref (hz_ad w 178)), (1, .int v1_17), (2, .int v2_18)]) hO dX11_writesGuests_85 rfl (by rw [h_x21]; rfl) (Nat.le_of_ble_eq_true rfl) rfl ?_
        refine hz_goto (tgt := 10) hO dX11_writesGuests_88 (by decide) ?_
        exact hz_ls [1, 2, 3, 0] rfl (ih v1_17 v2_18 x21 M20 h)
      clear hk22
      refine hz_icmp_eq (tgt := 34) hO dX11_writesGuests_28 (by decide) (fun hc23 => ?_) (fun hc23 => ?_)
      · rw [if_pos hc23] at h
        refine hz_iload_n hO dX11_writesGuests_34 rfl 2 rfl ?_
        obtain ⟨k52, hk52, h⟩ := hz_jn_e h
        have gk52 : ∀ (v1_24 : Int32) (v3_25 : Int32) (M26 : hz_M), k52 v1_24 v3_25 M26 = some (rE, ME) → hz_G p l e 2 hz_z0 s m args below meth c w N 5 (MQ below (hz_Qv w N ME) args s 0 0 (hz_A w)) M26 44 [(0, .ref (hz_ad w 178)), (1, .int v1_24), (3, .int v3_25)] [] := by
          intro v1_24 v3_25 M26 h
          rw [hk52] at h
          dsimp only at h
          refine hz_iconst (v := (0 : Int32)) hO dX11_writesGuests_44 (by decide) ?_
          refine hz_istore (ls1 := [(4, .int (0 : Int32)), (0, .ref (hz_ad w 178)), (1, .int v1_24), (3, .int v3_25)]) hO dX11_writesGuests_45 (Nat.le_of_ble_eq_true rfl) rfl ?_
          obtain ⟨k30, hk30, h⟩ := hz_jn_e h
          have gk30 : ∀ (v1_27 : Int32) (v3_28 : Int32) (M29 : hz_M), k30 v1_27 v3_28 M29 = some (rE, ME) → hz_G p l e 2 hz_z0 s m args below meth c w N 5 (MQ below (hz_Qv w N ME) args s 0 0 (hz_A w)) M29 83 [(0, .ref (hz_ad w 178)), (1, .int v1_27), (3, .int v3_28)] [] := by
            intro v1_27 v3_28 M29 h
            rw [hk30] at h
            dsimp only at h
            refine hz_iconst (v := (1 : Int32)) hO dX11_writesGuests_83 (by decide) ?_
            refine hz_istore_n (ls1 := [(2, .int (1 : Int32)), (0, .ref (hz_ad w 178)), (1, .int v1_27), (3, .int v3_28)]) hO dX11_writesGuests_84 rfl (Nat.le_of_ble_eq_true rfl) rfl ?_
            exact hz_ls [1, 2, 0, 3] rfl (gk22 v1_27 (1 : Int32) v3_28 M29 h)
          clear hk30
          exact hz_ls [1, 2, 3, 0] rfl (g_X11_writesGuests_L47 hN hO _ gk30 _ v1_24 v3_25 (0 : Int32) M26 h)
        clear hk52
        refine hz_if_eq (tgt := 44) hO dX11_writesGuests_35 (by decide) (fun hc53 => ?_) (fun hc53 => ?_)
        · rw [if_pos hc53] at h
          exact hz_ls [0, 1, 3] rfl (gk52 v1_9 v3_11 M15 h)
        · rw [if_neg hc53] at h
          refine hz_aload_n hO dX11_writesGuests_38 rfl 0 rfl ?_
          refine hz_bipush (v := (44 : Int32)) hO dX11_writesGuests_39 (by decide) ?_
          obtain ⟨r54, M55, hq56, h⟩ := hz_ct_e h
          refine hz_callVv (as := [.int (44 : Int32)]) (rest := []) hO (c_X11_writes l w hN (44 : Int32) hq56) hz_cal_X11_writes hz_K_9 hz_sh_178 (hz_lt_178 hN) tw_9_45 (Nat.le_of_ble_eq_true rfl) rfl rfl (Nat.le_of_ble_eq_true rfl) dX11_writesGuests_41 ?_
          exact hz_ls [0, 1, 3] rfl (gk52 v1_9 v3_11 M55 h)
      · rw [if_neg hc23] at h
        refine hz_goto (tgt := 85) hO dX11_writesGuests_31 (by decide) ?_
        exact hz_ls [0, 1, 2, 3] rfl (gk22 v1_9 v2_10 v3_11 M15 h)
set_option maxRecDepth 100000 in
set_option maxHeartbeats 4000000 in
theorem c_X11_writesGuests (l : Launch) (w : hz_C) {N : Nat} (hN : 193 ≤ N) (a1 : Int32) {M : hz_M} {rE : Int32} {ME : hz_M} (h : f_X11_writesGuests a1 M = some (rE, ME)) : hz_Ct l yX11_writesGuests cX11_writesGuests 5 none 2 w N [.ref (hz_ad w 178), .int a1] M (hz_Qv w N ME) := by
  refine hz_ofW (by decide) rfl (Nat.le_of_ble_eq_true rfl) tw_9_52 ?_
  intro p e s m args below meth c hO
  show hz_G p l e 2 hz_z0 s m args below meth c w N 5 _ M 0 [(0, .ref (hz_ad w 178)), (1, .int a1)] []
  unfold f_X11_writesGuests at h
  refine hz_iconst (v := (0 : Int32)) hO dX11_writesGuests_0 (by decide) ?_
  refine hz_istore_n (ls1 := [(2, .int (0 : Int32)), (0, .ref (hz_ad w 178)), (1, .int a1)]) hO dX11_writesGuests_1 rfl (Nat.le_of_ble_eq_true rfl) rfl ?_
  refine hz_aload_n hO dX11_writesGuests_2 rfl 1 rfl ?_
  refine hz_bipush (v := (58 : Int32)) hO dX11_writesGuests_3 (by decide) ?_
  obtain ⟨r1, M2, hq3, h⟩ := hz_ct_e h
  refine hz_callVv (as := [.int (58 : Int32)]) (rest := []) hO (c_X11_writes l w hN (58 : Int32) hq3) hz_cal_X11_writes hz_K_9 hz_sh_178 (hz_lt_178 hN) tw_9_45 (Nat.le_of_ble_eq_true rfl) rfl rfl (Nat.le_of_ble_eq_true rfl) dX11_writesGuests_5 ?_
  refine hz_iconst (v := (0 : Int32)) hO dX11_writesGuests_8 (by decide) ?_
  refine hz_istore_n (ls1 := [(3, .int (0 : Int32)), (2, .int (0 : Int32)), (0, .ref (hz_ad w 178)), (1, .int a1)]) hO dX11_writesGuests_9 rfl (Nat.le_of_ble_eq_true rfl) rfl ?_
  obtain ⟨k8, hk8, h⟩ := hz_jn_e h
  have gk8 : ∀  (M4 : hz_M), k8 M4 = some (rE, ME) → hz_G p l e 2 hz_z0 s m args below meth c w N 5 (MQ below (hz_Qv w N ME) args s 0 0 (hz_A w)) M4 91 [(0, .ref (hz_ad w 178))] [] := by
    intro M4 h
    rw [hk8] at h
    dsimp only at h
    refine hz_aload_n hO dX11_writesGuests_91 rfl 0 rfl ?_
    refine hz_bipush (v := (32 : Int32)) hO dX11_writesGuests_92 (by decide) ?_
    obtain ⟨r5, M6, hq7, h⟩ := hz_ct_e h
    refine hz_callVv (as := [.int (32 : Int32)]) (rest := []) hO (c_X11_writes l w hN (32 : Int32) hq7) hz_cal_X11_writes hz_K_9 hz_sh_178 (hz_lt_178 hN) tw_9_45 (Nat.le_of_ble_eq_true rfl) rfl rfl (Nat.le_of_ble_eq_true rfl) dX11_writesGuests_94 ?_
    exact hz_nameM (hz_some_e h).2.symm (hz_vret hO dX11_writesGuests_97)
  clear hk8
  exact hz_ls [2, 3, 1, 0] rfl (g_X11_writesGuests_L10 hN hO _ gk8 _ a1 (0 : Int32) (0 : Int32) M2 h)
def f_X11_report_L62 (kk115 : hz_M → hz_O) : Nat → Int32 → hz_M → hz_O
  | 0, _, _ => none
  | n + 1, v1_19, M20 =>
    if (M20 179 (Int32.toNatClampNeg (1 : Int32))) ≤ v1_19 then
      kk115 M20
    else
      hz_jn (fun (v1_22 : Int32) (M23 : hz_M) =>
        hz_ct (f_X11_towelOn v1_22 M23) fun r24 M25 =>
        hz_jn (fun (v1_27 : Int32) (M28 : hz_M) =>
          hz_lt (v1_27 + (1 : Int32)) fun x29 =>
          f_X11_report_L62 kk115 n x29 M28
          ) fun k30 =>
        if r24 = (-1 : Int32) then
          hz_ct (f_X11_writes (45 : Int32) M25) fun r38 M39 =>
          k30 v1_22 M39
        else
          hz_ct (f_X11_towelOn v1_22 M25) fun r32 M33 =>
          hz_ct (f_X11_writesNumber r32 M33) fun r35 M36 =>
          k30 v1_22 M36
        ) fun k41 =>
      if v1_19 ≤ 0 then
        k41 v1_19 M20
      else
        hz_ct (f_X11_writes (44 : Int32) M20) fun r43 M44 =>
        k41 v1_19 M44
def f_X11_report_L17 (kk37 : hz_M → hz_O) : Nat → Int32 → hz_M → hz_O
  | 0, _, _ => none
  | n + 1, v1_47, M48 =>
    if v1_47 ≤ 0 then
      kk37 M48
    else
      hz_ct (f_X11_writesNumber v1_47 M48) fun r50 M51 =>
      hz_ct (f_X11_writesGuests v1_47 M51) fun r53 M54 =>
      hz_lt (v1_47 + (-1 : Int32)) fun x56 =>
      f_X11_report_L17 kk37 n x56 M54
def f_X11_report (M : hz_M) : hz_O :=
  hz_lm (hz_set M 178 8 (0 : Int32)) fun M1 =>
  hz_lm (hz_set M1 178 27 (0 : Int32)) fun M2 =>
  hz_lt ((M2 179 (Int32.toNatClampNeg (4 : Int32)))) fun x3 =>
  hz_jn (fun  (M4 : hz_M) =>
    hz_ct (f_X11_writes (104 : Int32) M4) fun r5 M6 =>
    hz_ct (f_X11_writesGuests (0 : Int32) M6) fun r8 M9 =>
    hz_ct (f_X11_writes (112 : Int32) M9) fun r11 M12 =>
    hz_ct (f_X11_writes (58 : Int32) M12) fun r14 M15 =>
    hz_jn (fun  (M17 : hz_M) =>
      some ((M17 178 27), M17)
      ) fun k18 =>
    f_X11_report_L62 k18 hz_FU (0 : Int32) M15
    ) fun k46 =>
  f_X11_report_L17 k46 hz_FU x3 M2
set_option maxRecDepth 100000 in
set_option maxHeartbeats 4000000 in
theorem g_X11_report_L62 {p : Program} {l : Launch} {e : Env} {s : State} {m : MethodId} {args : Array Value} {below : List Frame} {meth : Method} {c : Code} {w : hz_C} {N : Nat} (hN : 193 ≤ N) {rE : Int32} {ME : hz_M} (hO : hz_Ok p s m args meth c w cX11_report 2 RX11 (some .int)) (kk115 : hz_M → hz_O) (gkk115 : ∀  (M : hz_M), kk115 M = some (rE, ME) → hz_G p l e 3 hz_z0 s m args below meth c w N 2 (MQ below (hz_Qi w N rE ME) args s 0 0 (hz_A w)) M 115 [(0, .ref (hz_ad w 178))] []) : ∀ (n : Nat) (v1_19 : Int32) (M20 : hz_M), f_X11_report_L62 kk115 n v1_19 M20 = some (rE, ME) → hz_G p l e 3 hz_z0 s m args below meth c w N 2 (MQ below (hz_Qi w N rE ME) args s 0 0 (hz_A w)) M20 62 [(0, .ref (hz_ad w 178)), (1, .int v1_19)] [] := by
  intro n
  induction n with
  | zero =>
    intro v1_19 M20 h
    rw [f_X11_report_L62] at h
    cases h
  | succ n ih =>
    intro v1_19 M20 h
    rw [f_X11_report_L62] at h
    refine hz_iload_n hO dX11_report_62 rfl 1 rfl ?_
    refine hz_aload_n hO dX11_report_63 rfl 0 rfl ?_
    refine hz_getR (k := 0) hO 179 hz_K_9 hz_sh_178 (hz_lt_178 hN) rfl (Nat.le_of_ble_eq_true rfl) tw_6_229 rfl dX11_report_64 ?_
    refine hz_iconst (v := (1 : Int32)) hO dX11_report_67 (by decide) ?_
    refine hz_iald hO hz_sh_179 (hz_lt_179 hN) (by decide) dX11_report_68 ?_
    refine hz_icmp_ge (tgt := 115) hO dX11_report_69 (by decide) (fun hc21 => ?_) (fun hc21 => ?_)
    · rw [if_pos hc21] at h
      exact hz_ls [0] rfl (gkk115 M20 h)
    · rw [if_neg hc21] at h
      refine hz_iload_n hO dX11_report_72 rfl 1 rfl ?_
      obtain ⟨k41, hk41, h⟩ := hz_jn_e h
      have gk41 : ∀ (v1_22 : Int32) (M23 : hz_M), k41 v1_22 M23 = some (rE, ME) → hz_G p l e 3 hz_z0 s m args below meth c w N 2 (MQ below (hz_Qi w N rE ME) args s 0 0 (hz_A w)) M23 82 [(0, .ref (hz_ad w 178)), (1, .int v1_22)] [] := by
        intro v1_22 M23 h
        rw [hk41] at h
        dsimp only at h
        refine hz_aload_n hO dX11_report_82 rfl 0 rfl ?_
        refine hz_iload_n hO dX11_report_83 rfl 1 rfl ?_
        obtain ⟨r24, M25, hq26, h⟩ := hz_ct_e h
        refine hz_callVi (as := [.int v1_22]) (rest := []) hO (c_X11_towelOn l w hN v1_22 hq26) hz_cal_X11_towelOn hz_K_9 hz_sh_178 (hz_lt_178 hN) tw_7_173 (Nat.le_of_ble_eq_true rfl) rfl rfl (Nat.le_of_ble_eq_true rfl) dX11_report_84 ?_
        refine hz_iconst (v := (-1 : Int32)) hO dX11_report_87 (by decide) ?_
        obtain ⟨k30, hk30, h⟩ := hz_jn_e h
        have gk30 : ∀ (v1_27 : Int32) (M28 : hz_M), k30 v1_27 M28 = some (rE, ME) → hz_G p l e 3 hz_z0 s m args below meth c w N 2 (MQ below (hz_Qi w N rE ME) args s 0 0 (hz_A w)) M28 109 [(0, .ref (hz_ad w 178)), (1, .int v1_27)] [] := by
          intro v1_27 M28 h
          rw [hk30] at h
          dsimp only at h
          obtain ⟨x29, h_x29, h⟩ := hz_lt_e h
          refine hz_iinc (k := 1) (v := x29) (ls1 := [(1, .int x29), (0, .ref (hz_ad w 178))]) hO dX11_report_109 rfl (by rw [h_x29]; rfl) (Nat.le_of_ble_eq_true rfl) rfl ?_
          refine hz_goto (tgt := 62) hO dX11_report_112 (by decide) ?_
          exact hz_ls [1, 0] rfl (ih x29 M28 h)
        clear hk30
        refine hz_icmp_ne (tgt := 100) hO dX11_report_88 (by decide) (fun hc31 => ?_) (fun hc31 => ?_)
        · rw [if_neg hc31] at h
          refine hz_aload_n hO dX11_report_100 rfl 0 rfl ?_
          refine hz_aload_n hO dX11_report_101 rfl 0 rfl ?_
          refine hz_iload_n hO dX11_report_102 rfl 1 rfl ?_
          obtain ⟨r32, M33, hq34, h⟩ := hz_ct_e h
          refine hz_callVi (as := [.int v1_22]) (rest := [.ref (hz_ad w 178)]) hO (c_X11_towelOn l w hN v1_22 hq34) hz_cal_X11_towelOn hz_K_9 hz_sh_178 (hz_lt_178 hN) tw_7_173 (Nat.le_of_ble_eq_true rfl) rfl rfl (Nat.le_of_ble_eq_true rfl) dX11_report_103 ?_
          obtain ⟨r35, M36, hq37, h⟩ := hz_ct_e h
          refine hz_callVv (as := [.int r32]) (rest := []) hO (c_X11_writesNumber l w hN r32 hq37) hz_cal_X11_writesNumber hz_K_9 hz_sh_178 (hz_lt_178 hN) tw_9_41 (Nat.le_of_ble_eq_true rfl) rfl rfl (Nat.le_of_ble_eq_true rfl) dX11_report_106 ?_
          exact hz_ls [0, 1] rfl (gk30 v1_22 M36 h)
        · rw [if_pos hc31] at h
          refine hz_aload_n hO dX11_report_91 rfl 0 rfl ?_
          refine hz_bipush (v := (45 : Int32)) hO dX11_report_92 (by decide) ?_
          obtain ⟨r38, M39, hq40, h⟩ := hz_ct_e h
          refine hz_callVv (as := [.int (45 : Int32)]) (rest := []) hO (c_X11_writes l w hN (45 : Int32) hq40) hz_cal_X11_writes hz_K_9 hz_sh_178 (hz_lt_178 hN) tw_9_45 (Nat.le_of_ble_eq_true rfl) rfl rfl (Nat.le_of_ble_eq_true rfl) dX11_report_94 ?_
          refine hz_goto (tgt := 109) hO dX11_report_97 (by decide) ?_
          exact hz_ls [0, 1] rfl (gk30 v1_22 M39 h)
      clear hk41
      refine hz_if_le (tgt := 82) hO dX11_report_73 (by decide) (fun hc42 => ?_) (fun hc42 => ?_)
      · rw [if_pos hc42] at h
        exact hz_ls [0, 1] rfl (gk41 v1_19 M20 h)
      · rw [if_neg hc42] at h
        refine hz_aload_n hO dX11_report_76 rfl 0 rfl ?_
        refine hz_bipush (v := (44 : Int32)) hO dX11_report_77 (by decide) ?_
        obtain ⟨r43, M44, hq45, h⟩ := hz_ct_e h
        refine hz_callVv (as := [.int (44 : Int32)]) (rest := []) hO (c_X11_writes l w hN (44 : Int32) hq45) hz_cal_X11_writes hz_K_9 hz_sh_178 (hz_lt_178 hN) tw_9_45 (Nat.le_of_ble_eq_true rfl) rfl rfl (Nat.le_of_ble_eq_true rfl) dX11_report_79 ?_
        exact hz_ls [0, 1] rfl (gk41 v1_19 M44 h)
set_option maxRecDepth 100000 in
set_option maxHeartbeats 4000000 in
theorem g_X11_report_L17 {p : Program} {l : Launch} {e : Env} {s : State} {m : MethodId} {args : Array Value} {below : List Frame} {meth : Method} {c : Code} {w : hz_C} {N : Nat} (hN : 193 ≤ N) {rE : Int32} {ME : hz_M} (hO : hz_Ok p s m args meth c w cX11_report 2 RX11 (some .int)) (kk37 : hz_M → hz_O) (gkk37 : ∀  (M : hz_M), kk37 M = some (rE, ME) → hz_G p l e 3 hz_z0 s m args below meth c w N 2 (MQ below (hz_Qi w N rE ME) args s 0 0 (hz_A w)) M 37 [(0, .ref (hz_ad w 178))] []) : ∀ (n : Nat) (v1_47 : Int32) (M48 : hz_M), f_X11_report_L17 kk37 n v1_47 M48 = some (rE, ME) → hz_G p l e 3 hz_z0 s m args below meth c w N 2 (MQ below (hz_Qi w N rE ME) args s 0 0 (hz_A w)) M48 17 [(0, .ref (hz_ad w 178)), (1, .int v1_47)] [] := by
  intro n
  induction n with
  | zero =>
    intro v1_47 M48 h
    rw [f_X11_report_L17] at h
    cases h
  | succ n ih =>
    intro v1_47 M48 h
    rw [f_X11_report_L17] at h
    refine hz_iload_n hO dX11_report_17 rfl 1 rfl ?_
    refine hz_if_le (tgt := 37) hO dX11_report_18 (by decide) (fun hc49 => ?_) (fun hc49 => ?_)
    · rw [if_pos hc49] at h
      exact hz_ls [0] rfl (gkk37 M48 h)
    · rw [if_neg hc49] at h
      refine hz_aload_n hO dX11_report_21 rfl 0 rfl ?_
      refine hz_iload_n hO dX11_report_22 rfl 1 rfl ?_
      obtain ⟨r50, M51, hq52, h⟩ := hz_ct_e h
      refine hz_callVv (as := [.int v1_47]) (rest := []) hO (c_X11_writesNumber l w hN v1_47 hq52) hz_cal_X11_writesNumber hz_K_9 hz_sh_178 (hz_lt_178 hN) tw_9_41 (Nat.le_of_ble_eq_true rfl) rfl rfl (Nat.le_of_ble_eq_true rfl) dX11_report_23 ?_
      refine hz_aload_n hO dX11_report_26 rfl 0 rfl ?_
      refine hz_iload_n hO dX11_report_27 rfl 1 rfl ?_
      obtain ⟨r53, M54, hq55, h⟩ := hz_ct_e h
      refine hz_callVv (as := [.int v1_47]) (rest := []) hO (c_X11_writesGuests l w hN v1_47 hq55) hz_cal_X11_writesGuests hz_K_9 hz_sh_178 (hz_lt_178 hN) tw_9_49 (Nat.le_of_ble_eq_true rfl) rfl rfl (Nat.le_of_ble_eq_true rfl) dX11_report_28 ?_
      obtain ⟨x56, h_x56, h⟩ := hz_lt_e h
      refine hz_iinc (k := 1) (v := x56) (ls1 := [(1, .int x56), (0, .ref (hz_ad w 178))]) hO dX11_report_31 rfl (by rw [h_x56]; rfl) (Nat.le_of_ble_eq_true rfl) rfl ?_
      refine hz_goto (tgt := 17) hO dX11_report_34 (by decide) ?_
      exact hz_ls [1, 0] rfl (ih x56 M54 h)
set_option maxRecDepth 100000 in
set_option maxHeartbeats 4000000 in
theorem c_X11_report (l : Launch) (w : hz_C) {N : Nat} (hN : 193 ≤ N) {M : hz_M} {rE : Int32} {ME : hz_M} (h : f_X11_report M = some (rE, ME)) : hz_Ct l yX11_report cX11_report 2 (some .int) 3 w N [.ref (hz_ad w 178)] M (hz_Qi w N rE ME) := by
  refine hz_ofW (by decide) rfl (Nat.le_of_ble_eq_true rfl) tw_9_40 ?_
  intro p e s m args below meth c hO
  show hz_G p l e 3 hz_z0 s m args below meth c w N 2 _ M 0 [(0, .ref (hz_ad w 178))] []
  unfold f_X11_report at h
  refine hz_aload_n hO dX11_report_0 rfl 0 rfl ?_
  refine hz_iconst (v := (0 : Int32)) hO dX11_report_1 (by decide) ?_
  obtain ⟨M1, h_M1, h⟩ := hz_lm_e h
  refine hz_putI (k := 8) (ty := .int) hO hz_K_9 tyX11_ok nmX11 hz_sh_178 (hz_lt_178 hN) rfl (Nat.le_of_ble_eq_true rfl) tw_6_237 rfl rfl rfl rfl rfl dX11_report_2 ?_
  refine hz_nameM h_M1 ?_
  refine hz_aload_n hO dX11_report_5 rfl 0 rfl ?_
  refine hz_iconst (v := (0 : Int32)) hO dX11_report_6 (by decide) ?_
  obtain ⟨M2, h_M2, h⟩ := hz_lm_e h
  refine hz_putI (k := 27) (ty := .int) hO hz_K_9 tyX11_ok nmX11 hz_sh_178 (hz_lt_178 hN) rfl (Nat.le_of_ble_eq_true rfl) tw_7_16 rfl rfl rfl rfl rfl dX11_report_7 ?_
  refine hz_nameM h_M2 ?_
  refine hz_aload_n hO dX11_report_10 rfl 0 rfl ?_
  refine hz_getR (k := 0) hO 179 hz_K_9 hz_sh_178 (hz_lt_178 hN) rfl (Nat.le_of_ble_eq_true rfl) tw_6_229 rfl dX11_report_11 ?_
  refine hz_iconst (v := (4 : Int32)) hO dX11_report_14 (by decide) ?_
  refine hz_iald hO hz_sh_179 (hz_lt_179 hN) (by decide) dX11_report_15 ?_
  obtain ⟨x3, h_x3, h⟩ := hz_lt_e h
  refine hz_name h_x3 ?_
  refine hz_istore_n (ls1 := [(1, .int x3), (0, .ref (hz_ad w 178))]) hO dX11_report_16 rfl (Nat.le_of_ble_eq_true rfl) rfl ?_
  obtain ⟨k46, hk46, h⟩ := hz_jn_e h
  have gk46 : ∀  (M4 : hz_M), k46 M4 = some (rE, ME) → hz_G p l e 3 hz_z0 s m args below meth c w N 2 (MQ below (hz_Qi w N rE ME) args s 0 0 (hz_A w)) M4 37 [(0, .ref (hz_ad w 178))] [] := by
    intro M4 h
    rw [hk46] at h
    dsimp only at h
    refine hz_aload_n hO dX11_report_37 rfl 0 rfl ?_
    refine hz_bipush (v := (104 : Int32)) hO dX11_report_38 (by decide) ?_
    obtain ⟨r5, M6, hq7, h⟩ := hz_ct_e h
    refine hz_callVv (as := [.int (104 : Int32)]) (rest := []) hO (c_X11_writes l w hN (104 : Int32) hq7) hz_cal_X11_writes hz_K_9 hz_sh_178 (hz_lt_178 hN) tw_9_45 (Nat.le_of_ble_eq_true rfl) rfl rfl (Nat.le_of_ble_eq_true rfl) dX11_report_40 ?_
    refine hz_aload_n hO dX11_report_43 rfl 0 rfl ?_
    refine hz_iconst (v := (0 : Int32)) hO dX11_report_44 (by decide) ?_
    obtain ⟨r8, M9, hq10, h⟩ := hz_ct_e h
    refine hz_callVv (as := [.int (0 : Int32)]) (rest := []) hO (c_X11_writesGuests l w hN (0 : Int32) hq10) hz_cal_X11_writesGuests hz_K_9 hz_sh_178 (hz_lt_178 hN) tw_9_49 (Nat.le_of_ble_eq_true rfl) rfl rfl (Nat.le_of_ble_eq_true rfl) dX11_report_45 ?_
    refine hz_aload_n hO dX11_report_48 rfl 0 rfl ?_
    refine hz_bipush (v := (112 : Int32)) hO dX11_report_49 (by decide) ?_
    obtain ⟨r11, M12, hq13, h⟩ := hz_ct_e h
    refine hz_callVv (as := [.int (112 : Int32)]) (rest := []) hO (c_X11_writes l w hN (112 : Int32) hq13) hz_cal_X11_writes hz_K_9 hz_sh_178 (hz_lt_178 hN) tw_9_45 (Nat.le_of_ble_eq_true rfl) rfl rfl (Nat.le_of_ble_eq_true rfl) dX11_report_51 ?_
    refine hz_aload_n hO dX11_report_54 rfl 0 rfl ?_
    refine hz_bipush (v := (58 : Int32)) hO dX11_report_55 (by decide) ?_
    obtain ⟨r14, M15, hq16, h⟩ := hz_ct_e h
    refine hz_callVv (as := [.int (58 : Int32)]) (rest := []) hO (c_X11_writes l w hN (58 : Int32) hq16) hz_cal_X11_writes hz_K_9 hz_sh_178 (hz_lt_178 hN) tw_9_45 (Nat.le_of_ble_eq_true rfl) rfl rfl (Nat.le_of_ble_eq_true rfl) dX11_report_57 ?_
    refine hz_iconst (v := (0 : Int32)) hO dX11_report_60 (by decide) ?_
    refine hz_istore_n (ls1 := [(1, .int (0 : Int32)), (0, .ref (hz_ad w 178))]) hO dX11_report_61 rfl (Nat.le_of_ble_eq_true rfl) rfl ?_
    obtain ⟨k18, hk18, h⟩ := hz_jn_e h
    have gk18 : ∀  (M17 : hz_M), k18 M17 = some (rE, ME) → hz_G p l e 3 hz_z0 s m args below meth c w N 2 (MQ below (hz_Qi w N rE ME) args s 0 0 (hz_A w)) M17 115 [(0, .ref (hz_ad w 178))] [] := by
      intro M17 h
      rw [hk18] at h
      dsimp only at h
      refine hz_aload_n hO dX11_report_115 rfl 0 rfl ?_
      refine hz_getI (k := 27) hO hz_K_9 hz_sh_178 (hz_lt_178 hN) rfl (Nat.le_of_ble_eq_true rfl) tw_7_16 rfl dX11_report_116 ?_
      exact hz_nameM (hz_some_e h).2.symm (hz_name (hz_some_e h).1.symm (hz_iret hO dX11_report_119))
    clear hk18
    exact hz_ls [1, 0] rfl (g_X11_report_L62 hN hO _ gk18 _ (0 : Int32) M15 h)
  clear hk46
  exact hz_ls [1, 0] rfl (g_X11_report_L17 hN hO _ gk46 _ x3 M2 h)
def f_X11_reportByte (a1 : Int32) (M : hz_M) : hz_O :=
  hz_lm (hz_set M 178 8 (0 : Int32)) fun M1 =>
  hz_ct (f_X11_in a1 (0 : Int32) ((M1 178 27) - (1 : Int32)) M1) fun r2 M3 =>
  if r2 = 0 then
    some ((-1 : Int32), M3)
  else
    hz_gd (hz_in a1 400) <|
    some ((M3 191 (Int32.toNatClampNeg a1)), M3)
set_option maxRecDepth 100000 in
set_option maxHeartbeats 4000000 in
theorem c_X11_reportByte (l : Launch) (w : hz_C) {N : Nat} (hN : 193 ≤ N) (a1 : Int32) {M : hz_M} {rE : Int32} {ME : hz_M} (h : f_X11_reportByte a1 M = some (rE, ME)) : hz_Ct l yX11_reportByte cX11_reportByte 2 (some .int) 1 w N [.ref (hz_ad w 178), .int a1] M (hz_Qi w N rE ME) := by
  refine hz_ofW (by decide) rfl (Nat.le_of_ble_eq_true rfl) tw_9_56 ?_
  intro p e s m args below meth c hO
  show hz_G p l e 1 hz_z0 s m args below meth c w N 2 _ M 0 [(0, .ref (hz_ad w 178)), (1, .int a1)] []
  unfold f_X11_reportByte at h
  refine hz_aload_n hO dX11_reportByte_0 rfl 0 rfl ?_
  refine hz_iconst (v := (0 : Int32)) hO dX11_reportByte_1 (by decide) ?_
  obtain ⟨M1, h_M1, h⟩ := hz_lm_e h
  refine hz_putI (k := 8) (ty := .int) hO hz_K_9 tyX11_ok nmX11 hz_sh_178 (hz_lt_178 hN) rfl (Nat.le_of_ble_eq_true rfl) tw_6_237 rfl rfl rfl rfl rfl dX11_reportByte_2 ?_
  refine hz_nameM h_M1 ?_
  refine hz_iload_n hO dX11_reportByte_5 rfl 1 rfl ?_
  refine hz_iconst (v := (0 : Int32)) hO dX11_reportByte_6 (by decide) ?_
  refine hz_aload_n hO dX11_reportByte_7 rfl 0 rfl ?_
  refine hz_getI (k := 27) hO hz_K_9 hz_sh_178 (hz_lt_178 hN) rfl (Nat.le_of_ble_eq_true rfl) tw_7_16 rfl dX11_reportByte_8 ?_
  refine hz_iconst (v := (1 : Int32)) hO dX11_reportByte_11 (by decide) ?_
  refine hz_isub hO dX11_reportByte_12 ?_
  obtain ⟨r2, M3, hq4, h⟩ := hz_ct_e h
  refine hz_callSi (as := [.int a1, .int (0 : Int32), .int ((M1 178 27) - (1 : Int32))]) (rest := []) hO (c_X11_in l w hN a1 (0 : Int32) ((M1 178 27) - (1 : Int32)) hq4) hz_cal_X11_in tw_6_171 (Nat.le_of_ble_eq_true rfl) rfl rfl (Nat.le_of_ble_eq_true rfl) dX11_reportByte_13 ?_
  refine hz_if_eq (tgt := 28) hO dX11_reportByte_16 (by decide) (fun hc5 => ?_) (fun hc5 => ?_)
  · rw [if_pos hc5] at h
    refine hz_iconst (v := (-1 : Int32)) hO dX11_reportByte_28 (by decide) ?_
    exact hz_nameM (hz_some_e h).2.symm (hz_name (hz_some_e h).1.symm (hz_iret hO dX11_reportByte_29))
  · rw [if_neg hc5] at h
    refine hz_aload_n hO dX11_reportByte_19 rfl 0 rfl ?_
    refine hz_getR (k := 25) hO 191 hz_K_9 hz_sh_178 (hz_lt_178 hN) rfl (Nat.le_of_ble_eq_true rfl) tw_7_14 rfl dX11_reportByte_20 ?_
    refine hz_iload_n hO dX11_reportByte_23 rfl 1 rfl ?_
    obtain ⟨hg6, h⟩ := hz_gd_e h
    refine hz_iald hO hz_sh_191 (hz_lt_191 hN) hg6 dX11_reportByte_24 ?_
    refine hz_goto (tgt := 29) hO dX11_reportByte_25 (by decide) ?_
    exact hz_nameM (hz_some_e h).2.symm (hz_name (hz_some_e h).1.symm (hz_iret hO dX11_reportByte_29))
def f_X11_undo_L26 (kk60 : hz_M → hz_O) : Nat → Int32 → hz_M → hz_O
  | 0, _, _ => none
  | n + 1, v1_6, M7 =>
    if (185 : Int32) ≤ v1_6 then
      kk60 M7
    else
      hz_gd (hz_in (((185 : Int32) * (M7 178 6)) + v1_6) 1480) <|
      hz_gd (hz_in v1_6 185) <|
      hz_lm (hz_set M7 179 (Int32.toNatClampNeg v1_6) (M7 182 (Int32.toNatClampNeg (((185 : Int32) * (M7 178 6)) + v1_6)))) fun M11 =>
      hz_lt (v1_6 + (1 : Int32)) fun x12 =>
      f_X11_undo_L26 kk60 n x12 M11
def f_X11_undo (M : hz_M) : hz_O :=
  hz_lm (hz_set M 178 8 (0 : Int32)) fun M1 =>
  if (M1 178 6) = 0 then
    some ((-1 : Int32), M1)
  else
    hz_lm (hz_set M1 178 6 ((M1 178 6) - (1 : Int32))) fun M3 =>
    hz_jn (fun  (M4 : hz_M) =>
      some ((M4 178 6), M4)
      ) fun k5 =>
    f_X11_undo_L26 k5 hz_FU (0 : Int32) M3
set_option maxRecDepth 100000 in
set_option maxHeartbeats 4000000 in
theorem g_X11_undo_L26 {p : Program} {l : Launch} {e : Env} {s : State} {m : MethodId} {args : Array Value} {below : List Frame} {meth : Method} {c : Code} {w : hz_C} {N : Nat} (hN : 193 ≤ N) {rE : Int32} {ME : hz_M} (hO : hz_Ok p s m args meth c w cX11_undo 2 RX11 (some .int)) (kk60 : hz_M → hz_O) (gkk60 : ∀  (M : hz_M), kk60 M = some (rE, ME) → hz_G p l e 0 hz_z0 s m args below meth c w N 2 (MQ below (hz_Qi w N rE ME) args s 0 0 (hz_A w)) M 60 [(0, .ref (hz_ad w 178))] []) : ∀ (n : Nat) (v1_6 : Int32) (M7 : hz_M), f_X11_undo_L26 kk60 n v1_6 M7 = some (rE, ME) → hz_G p l e 0 hz_z0 s m args below meth c w N 2 (MQ below (hz_Qi w N rE ME) args s 0 0 (hz_A w)) M7 26 [(0, .ref (hz_ad w 178)), (1, .int v1_6)] [] := by
  intro n
  induction n with
  | zero =>
    intro v1_6 M7 h
    rw [f_X11_undo_L26] at h
    cases h
  | succ n ih =>
    intro v1_6 M7 h
    rw [f_X11_undo_L26] at h
    refine hz_iload_n hO dX11_undo_26 rfl 1 rfl ?_
    refine hz_sipush (v := (185 : Int32)) hO dX11_undo_27 (by decide) ?_
    refine hz_icmp_ge (tgt := 60) hO dX11_undo_30 (by decide) (fun hc8 => ?_) (fun hc8 => ?_)
    · rw [if_pos hc8] at h
      exact hz_ls [0] rfl (gkk60 M7 h)
    · rw [if_neg hc8] at h
      refine hz_aload_n hO dX11_undo_33 rfl 0 rfl ?_
      refine hz_getR (k := 0) hO 179 hz_K_9 hz_sh_178 (hz_lt_178 hN) rfl (Nat.le_of_ble_eq_true rfl) tw_6_229 rfl dX11_undo_34 ?_
      refine hz_iload_n hO dX11_undo_37 rfl 1 rfl ?_
      refine hz_aload_n hO dX11_undo_38 rfl 0 rfl ?_
      refine hz_getR (k := 3) hO 182 hz_K_9 hz_sh_178 (hz_lt_178 hN) rfl (Nat.le_of_ble_eq_true rfl) tw_6_232 rfl dX11_undo_39 ?_
      refine hz_sipush (v := (185 : Int32)) hO dX11_undo_42 (by decide) ?_
      refine hz_aload_n hO dX11_undo_45 rfl 0 rfl ?_
      refine hz_getI (k := 6) hO hz_K_9 hz_sh_178 (hz_lt_178 hN) rfl (Nat.le_of_ble_eq_true rfl) tw_6_235 rfl dX11_undo_46 ?_
      refine hz_imul hO dX11_undo_49 ?_
      refine hz_iload_n hO dX11_undo_50 rfl 1 rfl ?_
      refine hz_iadd hO dX11_undo_51 ?_
      obtain ⟨hg9, h⟩ := hz_gd_e h
      refine hz_iald hO hz_sh_182 (hz_lt_182 hN) hg9 dX11_undo_52 ?_
      obtain ⟨hg10, h⟩ := hz_gd_e h
      obtain ⟨M11, h_M11, h⟩ := hz_lm_e h
      refine hz_iast hO hz_sh_179 (hz_lt_179 hN) hg10 dX11_undo_53 ?_
      refine hz_nameM h_M11 ?_
      obtain ⟨x12, h_x12, h⟩ := hz_lt_e h
      refine hz_iinc (k := 1) (v := x12) (ls1 := [(1, .int x12), (0, .ref (hz_ad w 178))]) hO dX11_undo_54 rfl (by rw [h_x12]; rfl) (Nat.le_of_ble_eq_true rfl) rfl ?_
      refine hz_goto (tgt := 26) hO dX11_undo_57 (by decide) ?_
      exact hz_ls [1, 0] rfl (ih x12 M11 h)
set_option maxRecDepth 100000 in
set_option maxHeartbeats 4000000 in
theorem c_X11_undo (l : Launch) (w : hz_C) {N : Nat} (hN : 193 ≤ N) {M : hz_M} {rE : Int32} {ME : hz_M} (h : f_X11_undo M = some (rE, ME)) : hz_Ct l yX11_undo cX11_undo 2 (some .int) 0 w N [.ref (hz_ad w 178)] M (hz_Qi w N rE ME) := by
  refine hz_ofW (by decide) rfl (Nat.le_of_ble_eq_true rfl) tw_9_60 ?_
  intro p e s m args below meth c hO
  show hz_G p l e 0 hz_z0 s m args below meth c w N 2 _ M 0 [(0, .ref (hz_ad w 178))] []
  unfold f_X11_undo at h
  refine hz_aload_n hO dX11_undo_0 rfl 0 rfl ?_
  refine hz_iconst (v := (0 : Int32)) hO dX11_undo_1 (by decide) ?_
  obtain ⟨M1, h_M1, h⟩ := hz_lm_e h
  refine hz_putI (k := 8) (ty := .int) hO hz_K_9 tyX11_ok nmX11 hz_sh_178 (hz_lt_178 hN) rfl (Nat.le_of_ble_eq_true rfl) tw_6_237 rfl rfl rfl rfl rfl dX11_undo_2 ?_
  refine hz_nameM h_M1 ?_
  refine hz_aload_n hO dX11_undo_5 rfl 0 rfl ?_
  refine hz_getI (k := 6) hO hz_K_9 hz_sh_178 (hz_lt_178 hN) rfl (Nat.le_of_ble_eq_true rfl) tw_6_235 rfl dX11_undo_6 ?_
  refine hz_if_ne (tgt := 14) hO dX11_undo_9 (by decide) (fun hc2 => ?_) (fun hc2 => ?_)
  · rw [if_neg hc2] at h
    refine hz_aload_n hO dX11_undo_14 rfl 0 rfl ?_
    refine hz_dup hO dX11_undo_15 rfl ?_
    refine hz_getI (k := 6) hO hz_K_9 hz_sh_178 (hz_lt_178 hN) rfl (Nat.le_of_ble_eq_true rfl) tw_6_235 rfl dX11_undo_16 ?_
    refine hz_iconst (v := (1 : Int32)) hO dX11_undo_19 (by decide) ?_
    refine hz_isub hO dX11_undo_20 ?_
    obtain ⟨M3, h_M3, h⟩ := hz_lm_e h
    refine hz_putI (k := 6) (ty := .int) hO hz_K_9 tyX11_ok nmX11 hz_sh_178 (hz_lt_178 hN) rfl (Nat.le_of_ble_eq_true rfl) tw_6_235 rfl rfl rfl rfl rfl dX11_undo_21 ?_
    refine hz_nameM h_M3 ?_
    refine hz_iconst (v := (0 : Int32)) hO dX11_undo_24 (by decide) ?_
    refine hz_istore_n (ls1 := [(1, .int (0 : Int32)), (0, .ref (hz_ad w 178))]) hO dX11_undo_25 rfl (Nat.le_of_ble_eq_true rfl) rfl ?_
    obtain ⟨k5, hk5, h⟩ := hz_jn_e h
    have gk5 : ∀  (M4 : hz_M), k5 M4 = some (rE, ME) → hz_G p l e 0 hz_z0 s m args below meth c w N 2 (MQ below (hz_Qi w N rE ME) args s 0 0 (hz_A w)) M4 60 [(0, .ref (hz_ad w 178))] [] := by
      intro M4 h
      rw [hk5] at h
      dsimp only at h
      refine hz_aload_n hO dX11_undo_60 rfl 0 rfl ?_
      refine hz_getI (k := 6) hO hz_K_9 hz_sh_178 (hz_lt_178 hN) rfl (Nat.le_of_ble_eq_true rfl) tw_6_235 rfl dX11_undo_61 ?_
      exact hz_nameM (hz_some_e h).2.symm (hz_name (hz_some_e h).1.symm (hz_iret hO dX11_undo_64))
    clear hk5
    exact hz_ls [1, 0] rfl (g_X11_undo_L26 hN hO _ gk5 _ (0 : Int32) M3 h)
  · rw [if_pos hc2] at h
    refine hz_iconst (v := (-1 : Int32)) hO dX11_undo_12 (by decide) ?_
    exact hz_nameM (hz_some_e h).2.symm (hz_name (hz_some_e h).1.symm (hz_iret hO dX11_undo_13))
def f_X11_save_L22 (kk53 : Int32 → hz_M → hz_O) : Nat → Int32 → Int32 → hz_M → hz_O
  | 0, _, _, _ => none
  | n + 1, v1_14, v2_15, M16 =>
    if (185 : Int32) ≤ v2_15 then
      kk53 v1_14 M16
    else
      hz_gd (hz_in v2_15 185) <|
      hz_gd (hz_in (((185 : Int32) * v1_14) + v2_15) 370) <|
      hz_lm (hz_set M16 183 (Int32.toNatClampNeg (((185 : Int32) * v1_14) + v2_15)) (M16 179 (Int32.toNatClampNeg v2_15))) fun M20 =>
      hz_lt (v2_15 + (1 : Int32)) fun x21 =>
      f_X11_save_L22 kk53 n v1_14 x21 M20
def f_X11_save (a1 : Int32) (M : hz_M) : hz_O :=
  hz_lm (hz_set M 178 8 (0 : Int32)) fun M1 =>
  hz_ct (f_X11_in a1 (0 : Int32) (1 : Int32) M1) fun r2 M3 =>
  hz_ct (f_X11_right r2 M3) fun r5 M6 =>
  if r5 = 0 then
    some ((0 : Int32), M6)
  else
    hz_jn (fun (v1_9 : Int32) (M10 : hz_M) =>
      hz_gd (hz_in v1_9 2) <|
      hz_lm (hz_set M10 184 (Int32.toNatClampNeg v1_9) (1 : Int32)) fun M12 =>
      some ((M12 179 (Int32.toNatClampNeg (8 : Int32))), M12)
      ) fun k13 =>
    f_X11_save_L22 k13 hz_FU a1 (0 : Int32) M6
set_option maxRecDepth 100000 in
set_option maxHeartbeats 4000000 in
theorem g_X11_save_L22 {p : Program} {l : Launch} {e : Env} {s : State} {m : MethodId} {args : Array Value} {below : List Frame} {meth : Method} {c : Code} {w : hz_C} {N : Nat} (hN : 193 ≤ N) {rE : Int32} {ME : hz_M} (hO : hz_Ok p s m args meth c w cX11_save 3 RX11 (some .int)) (kk53 : Int32 → hz_M → hz_O) (gkk53 : ∀ (v1_9 : Int32) (M : hz_M), kk53 v1_9 M = some (rE, ME) → hz_G p l e 1 hz_z0 s m args below meth c w N 3 (MQ below (hz_Qi w N rE ME) args s 0 0 (hz_A w)) M 53 [(0, .ref (hz_ad w 178)), (1, .int v1_9)] []) : ∀ (n : Nat) (v1_14 : Int32) (v2_15 : Int32) (M16 : hz_M), f_X11_save_L22 kk53 n v1_14 v2_15 M16 = some (rE, ME) → hz_G p l e 1 hz_z0 s m args below meth c w N 3 (MQ below (hz_Qi w N rE ME) args s 0 0 (hz_A w)) M16 22 [(0, .ref (hz_ad w 178)), (1, .int v1_14), (2, .int v2_15)] [] := by
  intro n
  induction n with
  | zero =>
    intro v1_14 v2_15 M16 h
    rw [f_X11_save_L22] at h
    cases h
  | succ n ih =>
    intro v1_14 v2_15 M16 h
    rw [f_X11_save_L22] at h
    refine hz_iload_n hO dX11_save_22 rfl 2 rfl ?_
    refine hz_sipush (v := (185 : Int32)) hO dX11_save_23 (by decide) ?_
    refine hz_icmp_ge (tgt := 53) hO dX11_save_26 (by decide) (fun hc17 => ?_) (fun hc17 => ?_)
    · rw [if_pos hc17] at h
      exact hz_ls [0, 1] rfl (gkk53 v1_14 M16 h)
    · rw [if_neg hc17] at h
      refine hz_aload_n hO dX11_save_29 rfl 0 rfl ?_
      refine hz_getR (k := 4) hO 183 hz_K_9 hz_sh_178 (hz_lt_178 hN) rfl (Nat.le_of_ble_eq_true rfl) tw_6_233 rfl dX11_save_30 ?_
      refine hz_sipush (v := (185 : Int32)) hO dX11_save_33 (by decide) ?_
      refine hz_iload_n hO dX11_save_36 rfl 1 rfl ?_
      refine hz_imul hO dX11_save_37 ?_
      refine hz_iload_n hO dX11_save_38 rfl 2 rfl ?_
      refine hz_iadd hO dX11_save_39 ?_
      refine hz_aload_n hO dX11_save_40 rfl 0 rfl ?_
      refine hz_getR (k := 0) hO 179 hz_K_9 hz_sh_178 (hz_lt_178 hN) rfl (Nat.le_of_ble_eq_true rfl) tw_6_229 rfl dX11_save_41 ?_
      refine hz_iload_n hO dX11_save_44 rfl 2 rfl ?_
      obtain ⟨hg18, h⟩ := hz_gd_e h
      refine hz_iald hO hz_sh_179 (hz_lt_179 hN) hg18 dX11_save_45 ?_
      obtain ⟨hg19, h⟩ := hz_gd_e h
      obtain ⟨M20, h_M20, h⟩ := hz_lm_e h
      refine hz_iast hO hz_sh_183 (hz_lt_183 hN) hg19 dX11_save_46 ?_
      refine hz_nameM h_M20 ?_
      obtain ⟨x21, h_x21, h⟩ := hz_lt_e h
      refine hz_iinc (k := 2) (v := x21) (ls1 := [(2, .int x21), (0, .ref (hz_ad w 178)), (1, .int v1_14)]) hO dX11_save_47 rfl (by rw [h_x21]; rfl) (Nat.le_of_ble_eq_true rfl) rfl ?_
      refine hz_goto (tgt := 22) hO dX11_save_50 (by decide) ?_
      exact hz_ls [1, 2, 0] rfl (ih v1_14 x21 M20 h)
set_option maxRecDepth 100000 in
set_option maxHeartbeats 4000000 in
theorem c_X11_save (l : Launch) (w : hz_C) {N : Nat} (hN : 193 ≤ N) (a1 : Int32) {M : hz_M} {rE : Int32} {ME : hz_M} (h : f_X11_save a1 M = some (rE, ME)) : hz_Ct l yX11_save cX11_save 3 (some .int) 1 w N [.ref (hz_ad w 178), .int a1] M (hz_Qi w N rE ME) := by
  refine hz_ofW (by decide) rfl (Nat.le_of_ble_eq_true rfl) tw_9_64 ?_
  intro p e s m args below meth c hO
  show hz_G p l e 1 hz_z0 s m args below meth c w N 3 _ M 0 [(0, .ref (hz_ad w 178)), (1, .int a1)] []
  unfold f_X11_save at h
  refine hz_aload_n hO dX11_save_0 rfl 0 rfl ?_
  refine hz_iconst (v := (0 : Int32)) hO dX11_save_1 (by decide) ?_
  obtain ⟨M1, h_M1, h⟩ := hz_lm_e h
  refine hz_putI (k := 8) (ty := .int) hO hz_K_9 tyX11_ok nmX11 hz_sh_178 (hz_lt_178 hN) rfl (Nat.le_of_ble_eq_true rfl) tw_6_237 rfl rfl rfl rfl rfl dX11_save_2 ?_
  refine hz_nameM h_M1 ?_
  refine hz_aload_n hO dX11_save_5 rfl 0 rfl ?_
  refine hz_iload_n hO dX11_save_6 rfl 1 rfl ?_
  refine hz_iconst (v := (0 : Int32)) hO dX11_save_7 (by decide) ?_
  refine hz_iconst (v := (1 : Int32)) hO dX11_save_8 (by decide) ?_
  obtain ⟨r2, M3, hq4, h⟩ := hz_ct_e h
  refine hz_callSi (as := [.int a1, .int (0 : Int32), .int (1 : Int32)]) (rest := [.ref (hz_ad w 178)]) hO (c_X11_in l w hN a1 (0 : Int32) (1 : Int32) hq4) hz_cal_X11_in tw_6_171 (Nat.le_of_ble_eq_true rfl) rfl rfl (Nat.le_of_ble_eq_true rfl) dX11_save_9 ?_
  obtain ⟨r5, M6, hq7, h⟩ := hz_ct_e h
  refine hz_callVi (as := [.int r2]) (rest := []) hO (c_X11_right l w hN r2 hq7) hz_cal_X11_right hz_K_9 hz_sh_178 (hz_lt_178 hN) tw_8_82 (Nat.le_of_ble_eq_true rfl) rfl rfl (Nat.le_of_ble_eq_true rfl) dX11_save_12 ?_
  refine hz_if_ne (tgt := 20) hO dX11_save_15 (by decide) (fun hc8 => ?_) (fun hc8 => ?_)
  · rw [if_neg hc8] at h
    refine hz_iconst (v := (0 : Int32)) hO dX11_save_20 (by decide) ?_
    refine hz_istore_n (ls1 := [(2, .int (0 : Int32)), (0, .ref (hz_ad w 178)), (1, .int a1)]) hO dX11_save_21 rfl (Nat.le_of_ble_eq_true rfl) rfl ?_
    obtain ⟨k13, hk13, h⟩ := hz_jn_e h
    have gk13 : ∀ (v1_9 : Int32) (M10 : hz_M), k13 v1_9 M10 = some (rE, ME) → hz_G p l e 1 hz_z0 s m args below meth c w N 3 (MQ below (hz_Qi w N rE ME) args s 0 0 (hz_A w)) M10 53 [(0, .ref (hz_ad w 178)), (1, .int v1_9)] [] := by
      intro v1_9 M10 h
      rw [hk13] at h
      dsimp only at h
      refine hz_aload_n hO dX11_save_53 rfl 0 rfl ?_
      refine hz_getR (k := 5) hO 184 hz_K_9 hz_sh_178 (hz_lt_178 hN) rfl (Nat.le_of_ble_eq_true rfl) tw_6_234 rfl dX11_save_54 ?_
      refine hz_iload_n hO dX11_save_57 rfl 1 rfl ?_
      refine hz_iconst (v := (1 : Int32)) hO dX11_save_58 (by decide) ?_
      obtain ⟨hg11, h⟩ := hz_gd_e h
      obtain ⟨M12, h_M12, h⟩ := hz_lm_e h
      refine hz_zast hO hz_sh_184 (hz_lt_184 hN) hg11 (by decide) dX11_save_59 ?_
      refine hz_nameM h_M12 ?_
      refine hz_aload_n hO dX11_save_60 rfl 0 rfl ?_
      refine hz_getR (k := 0) hO 179 hz_K_9 hz_sh_178 (hz_lt_178 hN) rfl (Nat.le_of_ble_eq_true rfl) tw_6_229 rfl dX11_save_61 ?_
      refine hz_bipush (v := (8 : Int32)) hO dX11_save_64 (by decide) ?_
      refine hz_iald hO hz_sh_179 (hz_lt_179 hN) (by decide) dX11_save_66 ?_
      exact hz_nameM (hz_some_e h).2.symm (hz_name (hz_some_e h).1.symm (hz_iret hO dX11_save_67))
    clear hk13
    exact hz_ls [1, 2, 0] rfl (g_X11_save_L22 hN hO _ gk13 _ a1 (0 : Int32) M6 h)
  · rw [if_pos hc8] at h
    refine hz_iconst (v := (0 : Int32)) hO dX11_save_18 (by decide) ?_
    exact hz_nameM (hz_some_e h).2.symm (hz_name (hz_some_e h).1.symm (hz_iret hO dX11_save_19))
def f_X11_restore_L38 (kk69 : hz_M → hz_O) : Nat → Int32 → Int32 → hz_M → hz_O
  | 0, _, _, _ => none
  | n + 1, v1_14, v2_15, M16 =>
    if (185 : Int32) ≤ v2_15 then
      kk69 M16
    else
      hz_gd (hz_in (((185 : Int32) * v1_14) + v2_15) 370) <|
      hz_gd (hz_in v2_15 185) <|
      hz_lm (hz_set M16 179 (Int32.toNatClampNeg v2_15) (M16 183 (Int32.toNatClampNeg (((185 : Int32) * v1_14) + v2_15)))) fun M20 =>
      hz_lt (v2_15 + (1 : Int32)) fun x21 =>
      f_X11_restore_L38 kk69 n v1_14 x21 M20
def f_X11_restore (a1 : Int32) (M : hz_M) : hz_O :=
  hz_lm (hz_set M 178 8 (0 : Int32)) fun M1 =>
  hz_ct (f_X11_in a1 (0 : Int32) (1 : Int32) M1) fun r2 M3 =>
  hz_ct (f_X11_right r2 M3) fun r5 M6 =>
  if r5 = 0 then
    some ((0 : Int32), M6)
  else
    hz_gd (hz_in a1 2) <|
    if (M6 184 (Int32.toNatClampNeg a1)) = 0 then
      hz_lm (hz_set M6 178 8 (2 : Int32)) fun M22 =>
      some ((0 : Int32), M22)
    else
      hz_jn (fun  (M11 : hz_M) =>
        hz_lm (hz_set M11 178 6 (0 : Int32)) fun M12 =>
        some ((M12 179 (Int32.toNatClampNeg (8 : Int32))), M12)
        ) fun k13 =>
      f_X11_restore_L38 k13 hz_FU a1 (0 : Int32) M6
set_option maxRecDepth 100000 in
set_option maxHeartbeats 4000000 in
theorem g_X11_restore_L38 {p : Program} {l : Launch} {e : Env} {s : State} {m : MethodId} {args : Array Value} {below : List Frame} {meth : Method} {c : Code} {w : hz_C} {N : Nat} (hN : 193 ≤ N) {rE : Int32} {ME : hz_M} (hO : hz_Ok p s m args meth c w cX11_restore 3 RX11 (some .int)) (kk69 : hz_M → hz_O) (gkk69 : ∀  (M : hz_M), kk69 M = some (rE, ME) → hz_G p l e 1 hz_z0 s m args below meth c w N 3 (MQ below (hz_Qi w N rE ME) args s 0 0 (hz_A w)) M 69 [(0, .ref (hz_ad w 178))] []) : ∀ (n : Nat) (v1_14 : Int32) (v2_15 : Int32) (M16 : hz_M), f_X11_restore_L38 kk69 n v1_14 v2_15 M16 = some (rE, ME) → hz_G p l e 1 hz_z0 s m args below meth c w N 3 (MQ below (hz_Qi w N rE ME) args s 0 0 (hz_A w)) M16 38 [(0, .ref (hz_ad w 178)), (1, .int v1_14), (2, .int v2_15)] [] := by
  intro n
  induction n with
  | zero =>
    intro v1_14 v2_15 M16 h
    rw [f_X11_restore_L38] at h
    cases h
  | succ n ih =>
    intro v1_14 v2_15 M16 h
    rw [f_X11_restore_L38] at h
    refine hz_iload_n hO dX11_restore_38 rfl 2 rfl ?_
    refine hz_sipush (v := (185 : Int32)) hO dX11_restore_39 (by decide) ?_
    refine hz_icmp_ge (tgt := 69) hO dX11_restore_42 (by decide) (fun hc17 => ?_) (fun hc17 => ?_)
    · rw [if_pos hc17] at h
      exact hz_ls [0] rfl (gkk69 M16 h)
    · rw [if_neg hc17] at h
      refine hz_aload_n hO dX11_restore_45 rfl 0 rfl ?_
      refine hz_getR (k := 0) hO 179 hz_K_9 hz_sh_178 (hz_lt_178 hN) rfl (Nat.le_of_ble_eq_true rfl) tw_6_229 rfl dX11_restore_46 ?_
      refine hz_iload_n hO dX11_restore_49 rfl 2 rfl ?_
      refine hz_aload_n hO dX11_restore_50 rfl 0 rfl ?_
      refine hz_getR (k := 4) hO 183 hz_K_9 hz_sh_178 (hz_lt_178 hN) rfl (Nat.le_of_ble_eq_true rfl) tw_6_233 rfl dX11_restore_51 ?_
      refine hz_sipush (v := (185 : Int32)) hO dX11_restore_54 (by decide) ?_
      refine hz_iload_n hO dX11_restore_57 rfl 1 rfl ?_
      refine hz_imul hO dX11_restore_58 ?_
      refine hz_iload_n hO dX11_restore_59 rfl 2 rfl ?_
      refine hz_iadd hO dX11_restore_60 ?_
      obtain ⟨hg18, h⟩ := hz_gd_e h
      refine hz_iald hO hz_sh_183 (hz_lt_183 hN) hg18 dX11_restore_61 ?_
      obtain ⟨hg19, h⟩ := hz_gd_e h
      obtain ⟨M20, h_M20, h⟩ := hz_lm_e h
      refine hz_iast hO hz_sh_179 (hz_lt_179 hN) hg19 dX11_restore_62 ?_
      refine hz_nameM h_M20 ?_
      obtain ⟨x21, h_x21, h⟩ := hz_lt_e h
      refine hz_iinc (k := 2) (v := x21) (ls1 := [(2, .int x21), (0, .ref (hz_ad w 178)), (1, .int v1_14)]) hO dX11_restore_63 rfl (by rw [h_x21]; rfl) (Nat.le_of_ble_eq_true rfl) rfl ?_
      refine hz_goto (tgt := 38) hO dX11_restore_66 (by decide) ?_
      exact hz_ls [1, 2, 0] rfl (ih v1_14 x21 M20 h)
set_option maxRecDepth 100000 in
set_option maxHeartbeats 4000000 in
theorem c_X11_restore (l : Launch) (w : hz_C) {N : Nat} (hN : 193 ≤ N) (a1 : Int32) {M : hz_M} {rE : Int32} {ME : hz_M} (h : f_X11_restore a1 M = some (rE, ME)) : hz_Ct l yX11_restore cX11_restore 3 (some .int) 1 w N [.ref (hz_ad w 178), .int a1] M (hz_Qi w N rE ME) := by
  refine hz_ofW (by decide) rfl (Nat.le_of_ble_eq_true rfl) tw_9_68 ?_
  intro p e s m args below meth c hO
  show hz_G p l e 1 hz_z0 s m args below meth c w N 3 _ M 0 [(0, .ref (hz_ad w 178)), (1, .int a1)] []
  unfold f_X11_restore at h
  refine hz_aload_n hO dX11_restore_0 rfl 0 rfl ?_
  refine hz_iconst (v := (0 : Int32)) hO dX11_restore_1 (by decide) ?_
  obtain ⟨M1, h_M1, h⟩ := hz_lm_e h
  refine hz_putI (k := 8) (ty := .int) hO hz_K_9 tyX11_ok nmX11 hz_sh_178 (hz_lt_178 hN) rfl (Nat.le_of_ble_eq_true rfl) tw_6_237 rfl rfl rfl rfl rfl dX11_restore_2 ?_
  refine hz_nameM h_M1 ?_
  refine hz_aload_n hO dX11_restore_5 rfl 0 rfl ?_
  refine hz_iload_n hO dX11_restore_6 rfl 1 rfl ?_
  refine hz_iconst (v := (0 : Int32)) hO dX11_restore_7 (by decide) ?_
  refine hz_iconst (v := (1 : Int32)) hO dX11_restore_8 (by decide) ?_
  obtain ⟨r2, M3, hq4, h⟩ := hz_ct_e h
  refine hz_callSi (as := [.int a1, .int (0 : Int32), .int (1 : Int32)]) (rest := [.ref (hz_ad w 178)]) hO (c_X11_in l w hN a1 (0 : Int32) (1 : Int32) hq4) hz_cal_X11_in tw_6_171 (Nat.le_of_ble_eq_true rfl) rfl rfl (Nat.le_of_ble_eq_true rfl) dX11_restore_9 ?_
  obtain ⟨r5, M6, hq7, h⟩ := hz_ct_e h
  refine hz_callVi (as := [.int r2]) (rest := []) hO (c_X11_right l w hN r2 hq7) hz_cal_X11_right hz_K_9 hz_sh_178 (hz_lt_178 hN) tw_8_82 (Nat.le_of_ble_eq_true rfl) rfl rfl (Nat.le_of_ble_eq_true rfl) dX11_restore_12 ?_
  refine hz_if_ne (tgt := 20) hO dX11_restore_15 (by decide) (fun hc8 => ?_) (fun hc8 => ?_)
  · rw [if_neg hc8] at h
    refine hz_aload_n hO dX11_restore_20 rfl 0 rfl ?_
    refine hz_getR (k := 5) hO 184 hz_K_9 hz_sh_178 (hz_lt_178 hN) rfl (Nat.le_of_ble_eq_true rfl) tw_6_234 rfl dX11_restore_21 ?_
    refine hz_iload_n hO dX11_restore_24 rfl 1 rfl ?_
    obtain ⟨hg9, h⟩ := hz_gd_e h
    refine hz_zald hO hz_sh_184 (hz_lt_184 hN) hg9 dX11_restore_25 ?_
    refine hz_if_ne (tgt := 36) hO dX11_restore_26 (by decide) (fun hc10 => ?_) (fun hc10 => ?_)
    · rw [if_neg hc10] at h
      refine hz_iconst (v := (0 : Int32)) hO dX11_restore_36 (by decide) ?_
      refine hz_istore_n (ls1 := [(2, .int (0 : Int32)), (0, .ref (hz_ad w 178)), (1, .int a1)]) hO dX11_restore_37 rfl (Nat.le_of_ble_eq_true rfl) rfl ?_
      obtain ⟨k13, hk13, h⟩ := hz_jn_e h
      have gk13 : ∀  (M11 : hz_M), k13 M11 = some (rE, ME) → hz_G p l e 1 hz_z0 s m args below meth c w N 3 (MQ below (hz_Qi w N rE ME) args s 0 0 (hz_A w)) M11 69 [(0, .ref (hz_ad w 178))] [] := by
        intro M11 h
        rw [hk13] at h
        dsimp only at h
        refine hz_aload_n hO dX11_restore_69 rfl 0 rfl ?_
        refine hz_iconst (v := (0 : Int32)) hO dX11_restore_70 (by decide) ?_
        obtain ⟨M12, h_M12, h⟩ := hz_lm_e h
        refine hz_putI (k := 6) (ty := .int) hO hz_K_9 tyX11_ok nmX11 hz_sh_178 (hz_lt_178 hN) rfl (Nat.le_of_ble_eq_true rfl) tw_6_235 rfl rfl rfl rfl rfl dX11_restore_71 ?_
        refine hz_nameM h_M12 ?_
        refine hz_aload_n hO dX11_restore_74 rfl 0 rfl ?_
        refine hz_getR (k := 0) hO 179 hz_K_9 hz_sh_178 (hz_lt_178 hN) rfl (Nat.le_of_ble_eq_true rfl) tw_6_229 rfl dX11_restore_75 ?_
        refine hz_bipush (v := (8 : Int32)) hO dX11_restore_78 (by decide) ?_
        refine hz_iald hO hz_sh_179 (hz_lt_179 hN) (by decide) dX11_restore_80 ?_
        exact hz_nameM (hz_some_e h).2.symm (hz_name (hz_some_e h).1.symm (hz_iret hO dX11_restore_81))
      clear hk13
      exact hz_ls [1, 2, 0] rfl (g_X11_restore_L38 hN hO _ gk13 _ a1 (0 : Int32) M6 h)
    · rw [if_pos hc10] at h
      refine hz_aload_n hO dX11_restore_29 rfl 0 rfl ?_
      refine hz_iconst (v := (2 : Int32)) hO dX11_restore_30 (by decide) ?_
      obtain ⟨M22, h_M22, h⟩ := hz_lm_e h
      refine hz_putI (k := 8) (ty := .int) hO hz_K_9 tyX11_ok nmX11 hz_sh_178 (hz_lt_178 hN) rfl (Nat.le_of_ble_eq_true rfl) tw_6_237 rfl rfl rfl rfl rfl dX11_restore_31 ?_
      refine hz_nameM h_M22 ?_
      refine hz_iconst (v := (0 : Int32)) hO dX11_restore_34 (by decide) ?_
      exact hz_nameM (hz_some_e h).2.symm (hz_name (hz_some_e h).1.symm (hz_iret hO dX11_restore_35))
  · rw [if_pos hc8] at h
    refine hz_iconst (v := (0 : Int32)) hO dX11_restore_18 (by decide) ?_
    exact hz_nameM (hz_some_e h).2.symm (hz_name (hz_some_e h).1.symm (hz_iret hO dX11_restore_19))
def f_X11_doesOf (a1 : Int32) (a2 : Int32) (a3 : Int32) (M : hz_M) : hz_O :=
  if a1 = 0 then
    hz_ct (f_X11_entering a2 M) fun r2 M3 =>
    if r2 < 0 then
      some ((0 : Int32), M3)
    else
      some ((1 : Int32), M3)
  else
  if a1 = 1 then
    hz_ct (f_X11_isStep a3 M) fun r7 M8 =>
    if r7 = 0 then
      some ((0 : Int32), M8)
    else
      hz_ct (f_X11_sitting a2 a3 M8) fun r11 M12 =>
      if r11 < 0 then
        some ((0 : Int32), M12)
      else
        some ((1 : Int32), M12)
  else
  if a1 = 2 then
    hz_ct (f_X11_halling a2 M) fun r16 M17 =>
    if r16 < 0 then
      some ((0 : Int32), M17)
    else
      some ((1 : Int32), M17)
  else
  if a1 = 3 then
    hz_ct (f_X11_isPeg a3 M) fun r21 M22 =>
    if r21 = 0 then
      some ((0 : Int32), M22)
    else
      hz_ct (f_X11_hanging a2 a3 M22) fun r25 M26 =>
      if r25 < 0 then
        some ((0 : Int32), M26)
      else
        some ((1 : Int32), M26)
  else
  if a1 = 4 then
    hz_ct (f_X11_isPeg a3 M) fun r30 M31 =>
    if r30 = 0 then
      some ((0 : Int32), M31)
    else
      hz_ct (f_X11_taking a2 a3 M31) fun r34 M35 =>
      if r34 < 0 then
        some ((0 : Int32), M35)
      else
        some ((1 : Int32), M35)
  else
  if a1 = 5 then
    hz_ct (f_X11_leaving a2 M) fun r39 M40 =>
    if r39 < 0 then
      some ((0 : Int32), M40)
    else
      some ((1 : Int32), M40)
  else
  hz_ct (f_X11_speaking a2 M) fun r43 M44 =>
  if r43 < 0 then
    some ((0 : Int32), M44)
  else
    some ((1 : Int32), M44)
set_option maxRecDepth 100000 in
set_option maxHeartbeats 4000000 in
theorem c_X11_doesOf (l : Launch) (w : hz_C) {N : Nat} (hN : 193 ≤ N) (a1 : Int32) (a2 : Int32) (a3 : Int32) {M : hz_M} {rE : Int32} {ME : hz_M} (h : f_X11_doesOf a1 a2 a3 M = some (rE, ME)) : hz_Ct l yX11_doesOf cX11_doesOf 4 (some .boolean) 5 w N [.ref (hz_ad w 178), .int a1, .int a2, .int a3] M (hz_Qi w N rE ME) := by
  refine hz_ofW (by decide) rfl (Nat.le_of_ble_eq_true rfl) tw_7_229 ?_
  intro p e s m args below meth c hO
  show hz_G p l e 5 hz_z0 s m args below meth c w N 4 _ M 0 [(0, .ref (hz_ad w 178)), (1, .int a1), (2, .int a2), (3, .int a3)] []
  unfold f_X11_doesOf at h
  refine hz_iload_n hO dX11_doesOf_0 rfl 1 rfl ?_
  by_cases hc1 : a1 = (0 : Int32)
  · rw [if_pos hc1] at h
    refine hz_tin (tgt := 40) hO hc1 dX11_doesOf_1 (by decide) (by decide) rfl (by decide) ?_
    refine hz_aload_n hO dX11_doesOf_40 rfl 0 rfl ?_
    refine hz_iload_n hO dX11_doesOf_41 rfl 2 rfl ?_
    obtain ⟨r2, M3, hq4, h⟩ := hz_ct_e h
    refine hz_callVi (as := [.int a2]) (rest := []) hO (c_X11_entering l w hN a2 hq4) hz_cal_X11_entering hz_K_9 hz_sh_178 (hz_lt_178 hN) tw_7_230 (Nat.le_of_ble_eq_true rfl) rfl rfl (Nat.le_of_ble_eq_true rfl) dX11_doesOf_42 ?_
    refine hz_if_lt (tgt := 52) hO dX11_doesOf_45 (by decide) (fun hc5 => ?_) (fun hc5 => ?_)
    · rw [if_pos hc5] at h
      refine hz_iconst (v := (0 : Int32)) hO dX11_doesOf_52 (by decide) ?_
      exact hz_nameM (hz_some_e h).2.symm (hz_name (hz_some_e h).1.symm (hz_zret hO (by rw [← (hz_some_e h).1]; decide) dX11_doesOf_53))
    · rw [if_neg hc5] at h
      refine hz_iconst (v := (1 : Int32)) hO dX11_doesOf_48 (by decide) ?_
      refine hz_goto (tgt := 53) hO dX11_doesOf_49 (by decide) ?_
      exact hz_nameM (hz_some_e h).2.symm (hz_name (hz_some_e h).1.symm (hz_zret hO (by rw [← (hz_some_e h).1]; decide) dX11_doesOf_53))
  · rw [if_neg hc1] at h
    by_cases hc6 : a1 = (1 : Int32)
    · rw [if_pos hc6] at h
      refine hz_tin (tgt := 54) hO hc6 dX11_doesOf_1 (by decide) (by decide) rfl (by decide) ?_
      refine hz_aload_n hO dX11_doesOf_54 rfl 0 rfl ?_
      refine hz_iload_n hO dX11_doesOf_55 rfl 3 rfl ?_
      obtain ⟨r7, M8, hq9, h⟩ := hz_ct_e h
      refine hz_callVi (as := [.int a3]) (rest := []) hO (c_X11_isStep l w hN a3 hq9) hz_cal_X11_isStep hz_K_9 hz_sh_178 (hz_lt_178 hN) tw_8_14 (Nat.le_of_ble_eq_true rfl) rfl rfl (Nat.le_of_ble_eq_true rfl) dX11_doesOf_56 ?_
      refine hz_if_eq (tgt := 75) hO dX11_doesOf_59 (by decide) (fun hc10 => ?_) (fun hc10 => ?_)
      · rw [if_pos hc10] at h
        refine hz_iconst (v := (0 : Int32)) hO dX11_doesOf_75 (by decide) ?_
        exact hz_nameM (hz_some_e h).2.symm (hz_name (hz_some_e h).1.symm (hz_zret hO (by rw [← (hz_some_e h).1]; decide) dX11_doesOf_76))
      · rw [if_neg hc10] at h
        refine hz_aload_n hO dX11_doesOf_62 rfl 0 rfl ?_
        refine hz_iload_n hO dX11_doesOf_63 rfl 2 rfl ?_
        refine hz_iload_n hO dX11_doesOf_64 rfl 3 rfl ?_
        obtain ⟨r11, M12, hq13, h⟩ := hz_ct_e h
        refine hz_callVi (as := [.int a2, .int a3]) (rest := []) hO (c_X11_sitting l w hN a2 a3 hq13) hz_cal_X11_sitting hz_K_9 hz_sh_178 (hz_lt_178 hN) tw_8_18 (Nat.le_of_ble_eq_true rfl) rfl rfl (Nat.le_of_ble_eq_true rfl) dX11_doesOf_65 ?_
        refine hz_if_lt (tgt := 75) hO dX11_doesOf_68 (by decide) (fun hc14 => ?_) (fun hc14 => ?_)
        · rw [if_pos hc14] at h
          refine hz_iconst (v := (0 : Int32)) hO dX11_doesOf_75 (by decide) ?_
          exact hz_nameM (hz_some_e h).2.symm (hz_name (hz_some_e h).1.symm (hz_zret hO (by rw [← (hz_some_e h).1]; decide) dX11_doesOf_76))
        · rw [if_neg hc14] at h
          refine hz_iconst (v := (1 : Int32)) hO dX11_doesOf_71 (by decide) ?_
          refine hz_goto (tgt := 76) hO dX11_doesOf_72 (by decide) ?_
          exact hz_nameM (hz_some_e h).2.symm (hz_name (hz_some_e h).1.symm (hz_zret hO (by rw [← (hz_some_e h).1]; decide) dX11_doesOf_76))
    · rw [if_neg hc6] at h
      by_cases hc15 : a1 = (2 : Int32)
      · rw [if_pos hc15] at h
        refine hz_tin (tgt := 77) hO hc15 dX11_doesOf_1 (by decide) (by decide) rfl (by decide) ?_
        refine hz_aload_n hO dX11_doesOf_77 rfl 0 rfl ?_
        refine hz_iload_n hO dX11_doesOf_78 rfl 2 rfl ?_
        obtain ⟨r16, M17, hq18, h⟩ := hz_ct_e h
        refine hz_callVi (as := [.int a2]) (rest := []) hO (c_X11_halling l w hN a2 hq18) hz_cal_X11_halling hz_K_9 hz_sh_178 (hz_lt_178 hN) tw_8_34 (Nat.le_of_ble_eq_true rfl) rfl rfl (Nat.le_of_ble_eq_true rfl) dX11_doesOf_79 ?_
        refine hz_if_lt (tgt := 89) hO dX11_doesOf_82 (by decide) (fun hc19 => ?_) (fun hc19 => ?_)
        · rw [if_pos hc19] at h
          refine hz_iconst (v := (0 : Int32)) hO dX11_doesOf_89 (by decide) ?_
          exact hz_nameM (hz_some_e h).2.symm (hz_name (hz_some_e h).1.symm (hz_zret hO (by rw [← (hz_some_e h).1]; decide) dX11_doesOf_90))
        · rw [if_neg hc19] at h
          refine hz_iconst (v := (1 : Int32)) hO dX11_doesOf_85 (by decide) ?_
          refine hz_goto (tgt := 90) hO dX11_doesOf_86 (by decide) ?_
          exact hz_nameM (hz_some_e h).2.symm (hz_name (hz_some_e h).1.symm (hz_zret hO (by rw [← (hz_some_e h).1]; decide) dX11_doesOf_90))
      · rw [if_neg hc15] at h
        by_cases hc20 : a1 = (3 : Int32)
        · rw [if_pos hc20] at h
          refine hz_tin (tgt := 91) hO hc20 dX11_doesOf_1 (by decide) (by decide) rfl (by decide) ?_
          refine hz_aload_n hO dX11_doesOf_91 rfl 0 rfl ?_
          refine hz_iload_n hO dX11_doesOf_92 rfl 3 rfl ?_
          obtain ⟨r21, M22, hq23, h⟩ := hz_ct_e h
          refine hz_callVi (as := [.int a3]) (rest := []) hO (c_X11_isPeg l w hN a3 hq23) hz_cal_X11_isPeg hz_K_9 hz_sh_178 (hz_lt_178 hN) tw_8_38 (Nat.le_of_ble_eq_true rfl) rfl rfl (Nat.le_of_ble_eq_true rfl) dX11_doesOf_93 ?_
          refine hz_if_eq (tgt := 112) hO dX11_doesOf_96 (by decide) (fun hc24 => ?_) (fun hc24 => ?_)
          · rw [if_pos hc24] at h
            refine hz_iconst (v := (0 : Int32)) hO dX11_doesOf_112 (by decide) ?_
            exact hz_nameM (hz_some_e h).2.symm (hz_name (hz_some_e h).1.symm (hz_zret hO (by rw [← (hz_some_e h).1]; decide) dX11_doesOf_113))
          · rw [if_neg hc24] at h
            refine hz_aload_n hO dX11_doesOf_99 rfl 0 rfl ?_
            refine hz_iload_n hO dX11_doesOf_100 rfl 2 rfl ?_
            refine hz_iload_n hO dX11_doesOf_101 rfl 3 rfl ?_
            obtain ⟨r25, M26, hq27, h⟩ := hz_ct_e h
            refine hz_callVi (as := [.int a2, .int a3]) (rest := []) hO (c_X11_hanging l w hN a2 a3 hq27) hz_cal_X11_hanging hz_K_9 hz_sh_178 (hz_lt_178 hN) tw_8_42 (Nat.le_of_ble_eq_true rfl) rfl rfl (Nat.le_of_ble_eq_true rfl) dX11_doesOf_102 ?_
            refine hz_if_lt (tgt := 112) hO dX11_doesOf_105 (by decide) (fun hc28 => ?_) (fun hc28 => ?_)
            · rw [if_pos hc28] at h
              refine hz_iconst (v := (0 : Int32)) hO dX11_doesOf_112 (by decide) ?_
              exact hz_nameM (hz_some_e h).2.symm (hz_name (hz_some_e h).1.symm (hz_zret hO (by rw [← (hz_some_e h).1]; decide) dX11_doesOf_113))
            · rw [if_neg hc28] at h
              refine hz_iconst (v := (1 : Int32)) hO dX11_doesOf_108 (by decide) ?_
              refine hz_goto (tgt := 113) hO dX11_doesOf_109 (by decide) ?_
              exact hz_nameM (hz_some_e h).2.symm (hz_name (hz_some_e h).1.symm (hz_zret hO (by rw [← (hz_some_e h).1]; decide) dX11_doesOf_113))
        · rw [if_neg hc20] at h
          by_cases hc29 : a1 = (4 : Int32)
          · rw [if_pos hc29] at h
            refine hz_tin (tgt := 114) hO hc29 dX11_doesOf_1 (by decide) (by decide) rfl (by decide) ?_
            refine hz_aload_n hO dX11_doesOf_114 rfl 0 rfl ?_
            refine hz_iload_n hO dX11_doesOf_115 rfl 3 rfl ?_
            obtain ⟨r30, M31, hq32, h⟩ := hz_ct_e h
            refine hz_callVi (as := [.int a3]) (rest := []) hO (c_X11_isPeg l w hN a3 hq32) hz_cal_X11_isPeg hz_K_9 hz_sh_178 (hz_lt_178 hN) tw_8_38 (Nat.le_of_ble_eq_true rfl) rfl rfl (Nat.le_of_ble_eq_true rfl) dX11_doesOf_116 ?_
            refine hz_if_eq (tgt := 135) hO dX11_doesOf_119 (by decide) (fun hc33 => ?_) (fun hc33 => ?_)
            · rw [if_pos hc33] at h
              refine hz_iconst (v := (0 : Int32)) hO dX11_doesOf_135 (by decide) ?_
              exact hz_nameM (hz_some_e h).2.symm (hz_name (hz_some_e h).1.symm (hz_zret hO (by rw [← (hz_some_e h).1]; decide) dX11_doesOf_136))
            · rw [if_neg hc33] at h
              refine hz_aload_n hO dX11_doesOf_122 rfl 0 rfl ?_
              refine hz_iload_n hO dX11_doesOf_123 rfl 2 rfl ?_
              refine hz_iload_n hO dX11_doesOf_124 rfl 3 rfl ?_
              obtain ⟨r34, M35, hq36, h⟩ := hz_ct_e h
              refine hz_callVi (as := [.int a2, .int a3]) (rest := []) hO (c_X11_taking l w hN a2 a3 hq36) hz_cal_X11_taking hz_K_9 hz_sh_178 (hz_lt_178 hN) tw_8_54 (Nat.le_of_ble_eq_true rfl) rfl rfl (Nat.le_of_ble_eq_true rfl) dX11_doesOf_125 ?_
              refine hz_if_lt (tgt := 135) hO dX11_doesOf_128 (by decide) (fun hc37 => ?_) (fun hc37 => ?_)
              · rw [if_pos hc37] at h
                refine hz_iconst (v := (0 : Int32)) hO dX11_doesOf_135 (by decide) ?_
                exact hz_nameM (hz_some_e h).2.symm (hz_name (hz_some_e h).1.symm (hz_zret hO (by rw [← (hz_some_e h).1]; decide) dX11_doesOf_136))
              · rw [if_neg hc37] at h
                refine hz_iconst (v := (1 : Int32)) hO dX11_doesOf_131 (by decide) ?_
                refine hz_goto (tgt := 136) hO dX11_doesOf_132 (by decide) ?_
                exact hz_nameM (hz_some_e h).2.symm (hz_name (hz_some_e h).1.symm (hz_zret hO (by rw [← (hz_some_e h).1]; decide) dX11_doesOf_136))
          · rw [if_neg hc29] at h
            by_cases hc38 : a1 = (5 : Int32)
            · rw [if_pos hc38] at h
              refine hz_tin (tgt := 137) hO hc38 dX11_doesOf_1 (by decide) (by decide) rfl (by decide) ?_
              refine hz_aload_n hO dX11_doesOf_137 rfl 0 rfl ?_
              refine hz_iload_n hO dX11_doesOf_138 rfl 2 rfl ?_
              obtain ⟨r39, M40, hq41, h⟩ := hz_ct_e h
              refine hz_callVi (as := [.int a2]) (rest := []) hO (c_X11_leaving l w hN a2 hq41) hz_cal_X11_leaving hz_K_9 hz_sh_178 (hz_lt_178 hN) tw_8_62 (Nat.le_of_ble_eq_true rfl) rfl rfl (Nat.le_of_ble_eq_true rfl) dX11_doesOf_139 ?_
              refine hz_if_lt (tgt := 149) hO dX11_doesOf_142 (by decide) (fun hc42 => ?_) (fun hc42 => ?_)
              · rw [if_pos hc42] at h
                refine hz_iconst (v := (0 : Int32)) hO dX11_doesOf_149 (by decide) ?_
                exact hz_nameM (hz_some_e h).2.symm (hz_name (hz_some_e h).1.symm (hz_zret hO (by rw [← (hz_some_e h).1]; decide) dX11_doesOf_150))
              · rw [if_neg hc42] at h
                refine hz_iconst (v := (1 : Int32)) hO dX11_doesOf_145 (by decide) ?_
                refine hz_goto (tgt := 150) hO dX11_doesOf_146 (by decide) ?_
                exact hz_nameM (hz_some_e h).2.symm (hz_name (hz_some_e h).1.symm (hz_zret hO (by rw [← (hz_some_e h).1]; decide) dX11_doesOf_150))
            · rw [if_neg hc38] at h
              have hn0 : ¬ a1.toInt = 0 := lv_neT hc1 rfl
              have hn1 : ¬ a1.toInt = 1 := lv_neT hc6 rfl
              have hn2 : ¬ a1.toInt = 2 := lv_neT hc15 rfl
              have hn3 : ¬ a1.toInt = 3 := lv_neT hc20 rfl
              have hn4 : ¬ a1.toInt = 4 := lv_neT hc29 rfl
              have hn5 : ¬ a1.toInt = 5 := lv_neT hc38 rfl
              refine hz_tout (tgt := 151) hO dX11_doesOf_1 (by omega) (by decide) ?_
              refine hz_aload_n hO dX11_doesOf_151 rfl 0 rfl ?_
              refine hz_iload_n hO dX11_doesOf_152 rfl 2 rfl ?_
              obtain ⟨r43, M44, hq45, h⟩ := hz_ct_e h
              refine hz_callVi (as := [.int a2]) (rest := []) hO (c_X11_speaking l w hN a2 hq45) hz_cal_X11_speaking hz_K_9 hz_sh_178 (hz_lt_178 hN) tw_8_70 (Nat.le_of_ble_eq_true rfl) rfl rfl (Nat.le_of_ble_eq_true rfl) dX11_doesOf_153 ?_
              refine hz_if_lt (tgt := 163) hO dX11_doesOf_156 (by decide) (fun hc46 => ?_) (fun hc46 => ?_)
              · rw [if_pos hc46] at h
                refine hz_iconst (v := (0 : Int32)) hO dX11_doesOf_163 (by decide) ?_
                exact hz_nameM (hz_some_e h).2.symm (hz_name (hz_some_e h).1.symm (hz_zret hO (by rw [← (hz_some_e h).1]; decide) dX11_doesOf_164))
              · rw [if_neg hc46] at h
                refine hz_iconst (v := (1 : Int32)) hO dX11_doesOf_159 (by decide) ?_
                refine hz_goto (tgt := 164) hO dX11_doesOf_160 (by decide) ?_
                exact hz_nameM (hz_some_e h).2.symm (hz_name (hz_some_e h).1.symm (hz_zret hO (by rw [← (hz_some_e h).1]; decide) dX11_doesOf_164))
def f_X11_does (a1 : Int32) (M : hz_M) : hz_O :=
  hz_gd (hz_in a1 30) <|
  hz_ct (f_X11_named (M 188 (Int32.toNatClampNeg a1)) M) fun r2 M3 =>
  hz_gd (hz_in a1 30) <|
  hz_lt ((M3 189 (Int32.toNatClampNeg a1))) fun x6 =>
  hz_gd (hz_in a1 30) <|
  hz_lt ((M3 187 (Int32.toNatClampNeg a1))) fun x8 =>
  if x8 = 7 then
    hz_ct (f_X11_washing M3) fun r10 M11 =>
    if r10 < 0 then
      some ((0 : Int32), M11)
    else
      some ((1 : Int32), M11)
  else
  if x8 = 8 then
    hz_ct (f_X11_isValve x6 M3) fun r15 M16 =>
    if r15 = 0 then
      some ((0 : Int32), M16)
    else
      hz_gd (hz_in a1 30) <|
      hz_ct (f_X11_valving x6 (M16 190 (Int32.toNatClampNeg a1)) M16) fun r20 M21 =>
      if r20 < 0 then
        some ((0 : Int32), M21)
      else
        some ((1 : Int32), M21)
  else
  if x8 = 9 then
    hz_ct (f_X11_waiting x6 M3) fun r25 M26 =>
    if r25 < 0 then
      some ((0 : Int32), M26)
    else
      some ((1 : Int32), M26)
  else
  if r2 = (-1 : Int32) then
    some ((0 : Int32), M3)
  else
    hz_gd (hz_in a1 30) <|
    hz_ct (f_X11_doesOf (M3 187 (Int32.toNatClampNeg a1)) r2 x6 M3) fun r31 M32 =>
    if r31 = 0 then
      some ((0 : Int32), M32)
    else
      some ((1 : Int32), M32)
set_option maxRecDepth 100000 in
set_option maxHeartbeats 4000000 in
theorem c_X11_does (l : Launch) (w : hz_C) {N : Nat} (hN : 193 ≤ N) (a1 : Int32) {M : hz_M} {rE : Int32} {ME : hz_M} (h : f_X11_does a1 M = some (rE, ME)) : hz_Ct l yX11_does cX11_does 4 (some .boolean) 6 w N [.ref (hz_ad w 178), .int a1] M (hz_Qi w N rE ME) := by
  refine hz_ofW (by decide) rfl (Nat.le_of_ble_eq_true rfl) tw_7_148 ?_
  intro p e s m args below meth c hO
  show hz_G p l e 6 hz_z0 s m args below meth c w N 4 _ M 0 [(0, .ref (hz_ad w 178)), (1, .int a1)] []
  unfold f_X11_does at h
  refine hz_aload_n hO dX11_does_0 rfl 0 rfl ?_
  refine hz_aload_n hO dX11_does_1 rfl 0 rfl ?_
  refine hz_getR (k := 19) hO 188 hz_K_9 hz_sh_178 (hz_lt_178 hN) rfl (Nat.le_of_ble_eq_true rfl) tw_7_8 rfl dX11_does_2 ?_
  refine hz_iload_n hO dX11_does_5 rfl 1 rfl ?_
  obtain ⟨hg1, h⟩ := hz_gd_e h
  refine hz_iald hO hz_sh_188 (hz_lt_188 hN) hg1 dX11_does_6 ?_
  obtain ⟨r2, M3, hq4, h⟩ := hz_ct_e h
  refine hz_callVi (as := [.int (M 188 (Int32.toNatClampNeg a1))]) (rest := []) hO (c_X11_named l w hN (M 188 (Int32.toNatClampNeg a1)) hq4) hz_cal_X11_named hz_K_9 hz_sh_178 (hz_lt_178 hN) tw_6_213 (Nat.le_of_ble_eq_true rfl) rfl rfl (Nat.le_of_ble_eq_true rfl) dX11_does_7 ?_
  refine hz_istore_n (ls1 := [(2, .int r2), (0, .ref (hz_ad w 178)), (1, .int a1)]) hO dX11_does_10 rfl (Nat.le_of_ble_eq_true rfl) rfl ?_
  refine hz_aload_n hO dX11_does_11 rfl 1 rfl ?_
  refine hz_getR (k := 20) hO 189 hz_K_9 hz_sh_178 (hz_lt_178 hN) rfl (Nat.le_of_ble_eq_true rfl) tw_7_9 rfl dX11_does_12 ?_
  refine hz_iload_n hO dX11_does_15 rfl 2 rfl ?_
  obtain ⟨hg5, h⟩ := hz_gd_e h
  refine hz_iald hO hz_sh_189 (hz_lt_189 hN) hg5 dX11_does_16 ?_
  obtain ⟨x6, h_x6, h⟩ := hz_lt_e h
  refine hz_name h_x6 ?_
  refine hz_istore_n (ls1 := [(3, .int x6), (2, .int r2), (0, .ref (hz_ad w 178)), (1, .int a1)]) hO dX11_does_17 rfl (Nat.le_of_ble_eq_true rfl) rfl ?_
  refine hz_aload_n hO dX11_does_18 rfl 2 rfl ?_
  refine hz_getR (k := 18) hO 187 hz_K_9 hz_sh_178 (hz_lt_178 hN) rfl (Nat.le_of_ble_eq_true rfl) tw_7_7 rfl dX11_does_19 ?_
  refine hz_iload_n hO dX11_does_22 rfl 3 rfl ?_
  obtain ⟨hg7, h⟩ := hz_gd_e h
  refine hz_iald hO hz_sh_187 (hz_lt_187 hN) hg7 dX11_does_23 ?_
  obtain ⟨x8, h_x8, h⟩ := hz_lt_e h
  refine hz_name h_x8 ?_
  by_cases hc9 : x8 = (7 : Int32)
  · rw [if_pos hc9] at h
    refine hz_tin (tgt := 52) hO hc9 dX11_does_24 (by decide) (by decide) rfl (by decide) ?_
    refine hz_aload_n hO dX11_does_52 rfl 2 rfl ?_
    obtain ⟨r10, M11, hq12, h⟩ := hz_ct_e h
    refine hz_callVi (as := []) (rest := []) hO (c_X11_washing l w hN hq12) hz_cal_X11_washing hz_K_9 hz_sh_178 (hz_lt_178 hN) tw_7_149 (Nat.le_of_ble_eq_true rfl) rfl rfl (Nat.le_of_ble_eq_true rfl) dX11_does_53 ?_
    refine hz_if_lt (tgt := 63) hO dX11_does_56 (by decide) (fun hc13 => ?_) (fun hc13 => ?_)
    · rw [if_pos hc13] at h
      refine hz_iconst (v := (0 : Int32)) hO dX11_does_63 (by decide) ?_
      exact hz_nameM (hz_some_e h).2.symm (hz_name (hz_some_e h).1.symm (hz_zret hO (by rw [← (hz_some_e h).1]; decide) dX11_does_64))
    · rw [if_neg hc13] at h
      refine hz_iconst (v := (1 : Int32)) hO dX11_does_59 (by decide) ?_
      refine hz_goto (tgt := 64) hO dX11_does_60 (by decide) ?_
      exact hz_nameM (hz_some_e h).2.symm (hz_name (hz_some_e h).1.symm (hz_zret hO (by rw [← (hz_some_e h).1]; decide) dX11_does_64))
  · rw [if_neg hc9] at h
    by_cases hc14 : x8 = (8 : Int32)
    · rw [if_pos hc14] at h
      refine hz_tin (tgt := 65) hO hc14 dX11_does_24 (by decide) (by decide) rfl (by decide) ?_
      refine hz_aload_n hO dX11_does_65 rfl 2 rfl ?_
      refine hz_iload_n hO dX11_does_66 rfl 0 rfl ?_
      obtain ⟨r15, M16, hq17, h⟩ := hz_ct_e h
      refine hz_callVi (as := [.int x6]) (rest := []) hO (c_X11_isValve l w hN x6 hq17) hz_cal_X11_isValve hz_K_9 hz_sh_178 (hz_lt_178 hN) tw_7_181 (Nat.le_of_ble_eq_true rfl) rfl rfl (Nat.le_of_ble_eq_true rfl) dX11_does_67 ?_
      refine hz_if_eq (tgt := 91) hO dX11_does_70 (by decide) (fun hc18 => ?_) (fun hc18 => ?_)
      · rw [if_pos hc18] at h
        refine hz_iconst (v := (0 : Int32)) hO dX11_does_91 (by decide) ?_
        exact hz_nameM (hz_some_e h).2.symm (hz_name (hz_some_e h).1.symm (hz_zret hO (by rw [← (hz_some_e h).1]; decide) dX11_does_92))
      · rw [if_neg hc18] at h
        refine hz_aload_n hO dX11_does_73 rfl 2 rfl ?_
        refine hz_iload_n hO dX11_does_74 rfl 0 rfl ?_
        refine hz_aload_n hO dX11_does_75 rfl 2 rfl ?_
        refine hz_getR (k := 21) hO 190 hz_K_9 hz_sh_178 (hz_lt_178 hN) rfl (Nat.le_of_ble_eq_true rfl) tw_7_10 rfl dX11_does_76 ?_
        refine hz_iload_n hO dX11_does_79 rfl 3 rfl ?_
        obtain ⟨hg19, h⟩ := hz_gd_e h
        refine hz_iald hO hz_sh_190 (hz_lt_190 hN) hg19 dX11_does_80 ?_
        obtain ⟨r20, M21, hq22, h⟩ := hz_ct_e h
        refine hz_callVi (as := [.int x6, .int (M16 190 (Int32.toNatClampNeg a1))]) (rest := []) hO (c_X11_valving l w hN x6 (M16 190 (Int32.toNatClampNeg a1)) hq22) hz_cal_X11_valving hz_K_9 hz_sh_178 (hz_lt_178 hN) tw_7_185 (Nat.le_of_ble_eq_true rfl) rfl rfl (Nat.le_of_ble_eq_true rfl) dX11_does_81 ?_
        refine hz_if_lt (tgt := 91) hO dX11_does_84 (by decide) (fun hc23 => ?_) (fun hc23 => ?_)
        · rw [if_pos hc23] at h
          refine hz_iconst (v := (0 : Int32)) hO dX11_does_91 (by decide) ?_
          exact hz_nameM (hz_some_e h).2.symm (hz_name (hz_some_e h).1.symm (hz_zret hO (by rw [← (hz_some_e h).1]; decide) dX11_does_92))
        · rw [if_neg hc23] at h
          refine hz_iconst (v := (1 : Int32)) hO dX11_does_87 (by decide) ?_
          refine hz_goto (tgt := 92) hO dX11_does_88 (by decide) ?_
          exact hz_nameM (hz_some_e h).2.symm (hz_name (hz_some_e h).1.symm (hz_zret hO (by rw [← (hz_some_e h).1]; decide) dX11_does_92))
    · rw [if_neg hc14] at h
      by_cases hc24 : x8 = (9 : Int32)
      · rw [if_pos hc24] at h
        refine hz_tin (tgt := 93) hO hc24 dX11_does_24 (by decide) (by decide) rfl (by decide) ?_
        refine hz_aload_n hO dX11_does_93 rfl 2 rfl ?_
        refine hz_iload_n hO dX11_does_94 rfl 0 rfl ?_
        obtain ⟨r25, M26, hq27, h⟩ := hz_ct_e h
        refine hz_callVi (as := [.int x6]) (rest := []) hO (c_X11_waiting l w hN x6 hq27) hz_cal_X11_waiting hz_K_9 hz_sh_178 (hz_lt_178 hN) tw_7_189 (Nat.le_of_ble_eq_true rfl) rfl rfl (Nat.le_of_ble_eq_true rfl) dX11_does_95 ?_
        refine hz_if_lt (tgt := 105) hO dX11_does_98 (by decide) (fun hc28 => ?_) (fun hc28 => ?_)
        · rw [if_pos hc28] at h
          refine hz_iconst (v := (0 : Int32)) hO dX11_does_105 (by decide) ?_
          exact hz_nameM (hz_some_e h).2.symm (hz_name (hz_some_e h).1.symm (hz_zret hO (by rw [← (hz_some_e h).1]; decide) dX11_does_106))
        · rw [if_neg hc28] at h
          refine hz_iconst (v := (1 : Int32)) hO dX11_does_101 (by decide) ?_
          refine hz_goto (tgt := 106) hO dX11_does_102 (by decide) ?_
          exact hz_nameM (hz_some_e h).2.symm (hz_name (hz_some_e h).1.symm (hz_zret hO (by rw [← (hz_some_e h).1]; decide) dX11_does_106))
      · rw [if_neg hc24] at h
        have hn7 : ¬ x8.toInt = 7 := lv_neT hc9 rfl
        have hn8 : ¬ x8.toInt = 8 := lv_neT hc14 rfl
        have hn9 : ¬ x8.toInt = 9 := lv_neT hc24 rfl
        refine hz_tout (tgt := 107) hO dX11_does_24 (by omega) (by decide) ?_
        refine hz_iload_n hO dX11_does_107 rfl 1 rfl ?_
        refine hz_iconst (v := (-1 : Int32)) hO dX11_does_108 (by decide) ?_
        refine hz_icmp_eq (tgt := 131) hO dX11_does_109 (by decide) (fun hc29 => ?_) (fun hc29 => ?_)
        · rw [if_pos hc29] at h
          refine hz_iconst (v := (0 : Int32)) hO dX11_does_131 (by decide) ?_
          exact hz_nameM (hz_some_e h).2.symm (hz_name (hz_some_e h).1.symm (hz_zret hO (by rw [← (hz_some_e h).1]; decide) dX11_does_132))
        · rw [if_neg hc29] at h
          refine hz_aload_n hO dX11_does_112 rfl 2 rfl ?_
          refine hz_aload_n hO dX11_does_113 rfl 2 rfl ?_
          refine hz_getR (k := 18) hO 187 hz_K_9 hz_sh_178 (hz_lt_178 hN) rfl (Nat.le_of_ble_eq_true rfl) tw_7_7 rfl dX11_does_114 ?_
          refine hz_iload_n hO dX11_does_117 rfl 3 rfl ?_
          obtain ⟨hg30, h⟩ := hz_gd_e h
          refine hz_iald hO hz_sh_187 (hz_lt_187 hN) hg30 dX11_does_118 ?_
          refine hz_iload_n hO dX11_does_119 rfl 1 rfl ?_
          refine hz_iload_n hO dX11_does_120 rfl 0 rfl ?_
          obtain ⟨r31, M32, hq33, h⟩ := hz_ct_e h
          refine hz_callVi (as := [.int (M3 187 (Int32.toNatClampNeg a1)), .int r2, .int x6]) (rest := []) hO (c_X11_doesOf l w hN (M3 187 (Int32.toNatClampNeg a1)) r2 x6 hq33) hz_cal_X11_doesOf hz_K_9 hz_sh_178 (hz_lt_178 hN) tw_7_226 (Nat.le_of_ble_eq_true rfl) rfl rfl (Nat.le_of_ble_eq_true rfl) dX11_does_121 ?_
          refine hz_if_eq (tgt := 131) hO dX11_does_124 (by decide) (fun hc34 => ?_) (fun hc34 => ?_)
          · rw [if_pos hc34] at h
            refine hz_iconst (v := (0 : Int32)) hO dX11_does_131 (by decide) ?_
            exact hz_nameM (hz_some_e h).2.symm (hz_name (hz_some_e h).1.symm (hz_zret hO (by rw [← (hz_some_e h).1]; decide) dX11_does_132))
          · rw [if_neg hc34] at h
            refine hz_iconst (v := (1 : Int32)) hO dX11_does_127 (by decide) ?_
            refine hz_goto (tgt := 132) hO dX11_does_128 (by decide) ?_
            exact hz_nameM (hz_some_e h).2.symm (hz_name (hz_some_e h).1.symm (hz_zret hO (by rw [← (hz_some_e h).1]; decide) dX11_does_132))
