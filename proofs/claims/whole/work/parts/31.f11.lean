-- X11_minute X11_tries X11_back X11_feeds X11_feed X11_errorPosition X11_seen X11_goesOn X11_starts X11_must X11_passes X11_isSign X11_takesSign X11_number X11_packed X11_named X11_looksAtName X11_takesName X11_readsSingle X11_freeLockers X11_inside X11_size X11_guest X11_towel X11_peg X11_locker X11_opening X11_eldest X11_suffering X11_step X11_driest X11_letterOf X11_letter X11_find X11_why X11_highest X11_account X11_gap X11_heatIn X11_downIn
def f_X11_minute_L93 : Nat → Int32 → hz_M → hz_O
  | 0, _, _ => none
  | n + 1, v1_12, M13 =>
    if (M13 179 (Int32.toNatClampNeg (11 : Int32))) ≤ v1_12 then
      some (0, M13)
    else
      hz_ct (f_X11_guestPasses v1_12 M13) fun r15 M16 =>
      hz_lt (v1_12 + (1 : Int32)) fun x18 =>
      f_X11_minute_L93 n x18 M16
def f_X11_minute_L70 (kk91 : hz_M → hz_O) : Nat → Int32 → hz_M → hz_O
  | 0, _, _ => none
  | n + 1, v1_20, M21 =>
    if (M21 179 (Int32.toNatClampNeg (2 : Int32))) ≤ v1_20 then
      kk91 M21
    else
      hz_ct (f_X11_towelPasses v1_20 M21) fun r23 M24 =>
      hz_lt (v1_20 + (1 : Int32)) fun x26 =>
      f_X11_minute_L70 kk91 n x26 M24
def f_X11_minute (M : hz_M) : hz_O :=
  hz_lm (hz_set M 179 (Int32.toNatClampNeg (8 : Int32)) ((M 179 (Int32.toNatClampNeg (8 : Int32))) + (1 : Int32))) fun M1 =>
  hz_ct (f_X11_counts (8 : Int32) (1 : Int32) M1) fun r2 M3 =>
  hz_gd (hz_nz (M3 179 (Int32.toNatClampNeg (6 : Int32)))) <|
  hz_jn (fun  (M6 : hz_M) =>
    hz_ct (f_X11_nextHeat M6) fun r7 M8 =>
    hz_lm (hz_set M8 179 (Int32.toNatClampNeg (9 : Int32)) r7) fun M10 =>
    hz_jn (fun  (M11 : hz_M) =>
      f_X11_minute_L93 hz_FU (0 : Int32) M11
      ) fun k19 =>
    f_X11_minute_L70 k19 hz_FU (0 : Int32) M10
    ) fun k27 =>
  if ((M3 179 (Int32.toNatClampNeg (8 : Int32))) - (M3 179 (Int32.toNatClampNeg (8 : Int32))) / (M3 179 (Int32.toNatClampNeg (6 : Int32))) * (M3 179 (Int32.toNatClampNeg (6 : Int32)))) = 0 then
    hz_lm (hz_set M3 179 (Int32.toNatClampNeg (10 : Int32)) (M3 179 (Int32.toNatClampNeg (8 : Int32)))) fun M29 =>
    hz_ct (f_X11_counts (7 : Int32) (1 : Int32) M29) fun r30 M31 =>
    k27 M31
  else
    k27 M3
set_option maxRecDepth 100000 in
set_option maxHeartbeats 4000000 in
theorem g_X11_minute_L93 {p : Program} {l : Launch} {e : Env} {s : State} {m : MethodId} {args : Array Value} {below : List Frame} {meth : Method} {c : Code} {w : hz_C} {N : Nat} (hN : 193 ≤ N) {rE : Int32} {ME : hz_M} (hO : hz_Ok p s m args meth c w cX11_minute 2 RX11 none) : ∀ (n : Nat) (v1_12 : Int32) (M13 : hz_M), f_X11_minute_L93 n v1_12 M13 = some (rE, ME) → hz_G p l e 3 hz_z0 s m args below meth c w N 2 (MQ below (hz_Qv w N ME) args s 0 0 (hz_A w)) M13 93 [(0, .ref (hz_ad w 178)), (1, .int v1_12)] [] := by
  intro n
  induction n with
  | zero =>
    intro v1_12 M13 h
    rw [f_X11_minute_L93] at h
    cases h
  | succ n ih =>
    intro v1_12 M13 h
    rw [f_X11_minute_L93] at h
    refine hz_iload_n hO dX11_minute_93 rfl 1 rfl ?_
    refine hz_aload_n hO dX11_minute_94 rfl 0 rfl ?_
    refine hz_getR (k := 0) hO 179 hz_K_9 hz_sh_178 (hz_lt_178 hN) rfl (Nat.le_of_ble_eq_true rfl) tw_6_229 rfl dX11_minute_95 ?_
    refine hz_bipush (v := (11 : Int32)) hO dX11_minute_98 (by decide) ?_
    refine hz_iald hO hz_sh_179 (hz_lt_179 hN) (by decide) dX11_minute_100 ?_
    refine hz_icmp_ge (tgt := 115) hO dX11_minute_101 (by decide) (fun hc14 => ?_) (fun hc14 => ?_)
    · rw [if_pos hc14] at h
      exact hz_nameM (hz_some_e h).2.symm (hz_vret hO dX11_minute_115)
    · rw [if_neg hc14] at h
      refine hz_aload_n hO dX11_minute_104 rfl 0 rfl ?_
      refine hz_iload_n hO dX11_minute_105 rfl 1 rfl ?_
      obtain ⟨r15, M16, hq17, h⟩ := hz_ct_e h
      refine hz_callVv (as := [.int v1_12]) (rest := []) hO (c_X11_guestPasses l w hN v1_12 hq17) hz_cal_X11_guestPasses hz_K_9 hz_sh_178 (hz_lt_178 hN) tw_7_210 (Nat.le_of_ble_eq_true rfl) rfl rfl (Nat.le_of_ble_eq_true rfl) dX11_minute_106 ?_
      obtain ⟨x18, h_x18, h⟩ := hz_lt_e h
      refine hz_iinc (k := 1) (v := x18) (ls1 := [(1, .int x18), (0, .ref (hz_ad w 178))]) hO dX11_minute_109 rfl (by rw [h_x18]; rfl) (Nat.le_of_ble_eq_true rfl) rfl ?_
      refine hz_goto (tgt := 93) hO dX11_minute_112 (by decide) ?_
      exact hz_ls [1, 0] rfl (ih x18 M16 h)
set_option maxRecDepth 100000 in
set_option maxHeartbeats 4000000 in
theorem g_X11_minute_L70 {p : Program} {l : Launch} {e : Env} {s : State} {m : MethodId} {args : Array Value} {below : List Frame} {meth : Method} {c : Code} {w : hz_C} {N : Nat} (hN : 193 ≤ N) {rE : Int32} {ME : hz_M} (hO : hz_Ok p s m args meth c w cX11_minute 2 RX11 none) (kk91 : hz_M → hz_O) (gkk91 : ∀  (M : hz_M), kk91 M = some (rE, ME) → hz_G p l e 3 hz_z0 s m args below meth c w N 2 (MQ below (hz_Qv w N ME) args s 0 0 (hz_A w)) M 91 [(0, .ref (hz_ad w 178))] []) : ∀ (n : Nat) (v1_20 : Int32) (M21 : hz_M), f_X11_minute_L70 kk91 n v1_20 M21 = some (rE, ME) → hz_G p l e 3 hz_z0 s m args below meth c w N 2 (MQ below (hz_Qv w N ME) args s 0 0 (hz_A w)) M21 70 [(0, .ref (hz_ad w 178)), (1, .int v1_20)] [] := by
  intro n
  induction n with
  | zero =>
    intro v1_20 M21 h
    rw [f_X11_minute_L70] at h
    cases h
  | succ n ih =>
    intro v1_20 M21 h
    rw [f_X11_minute_L70] at h
    refine hz_iload_n hO dX11_minute_70 rfl 1 rfl ?_
    refine hz_aload_n hO dX11_minute_71 rfl 0 rfl ?_
    refine hz_getR (k := 0) hO 179 hz_K_9 hz_sh_178 (hz_lt_178 hN) rfl (Nat.le_of_ble_eq_true rfl) tw_6_229 rfl dX11_minute_72 ?_
    refine hz_iconst (v := (2 : Int32)) hO dX11_minute_75 (by decide) ?_
    refine hz_iald hO hz_sh_179 (hz_lt_179 hN) (by decide) dX11_minute_76 ?_
    refine hz_icmp_ge (tgt := 91) hO dX11_minute_77 (by decide) (fun hc22 => ?_) (fun hc22 => ?_)
    · rw [if_pos hc22] at h
      exact hz_ls [0] rfl (gkk91 M21 h)
    · rw [if_neg hc22] at h
      refine hz_aload_n hO dX11_minute_80 rfl 0 rfl ?_
      refine hz_iload_n hO dX11_minute_81 rfl 1 rfl ?_
      obtain ⟨r23, M24, hq25, h⟩ := hz_ct_e h
      refine hz_callVv (as := [.int v1_20]) (rest := []) hO (c_X11_towelPasses l w hN v1_20 hq25) hz_cal_X11_towelPasses hz_K_9 hz_sh_178 (hz_lt_178 hN) tw_7_206 (Nat.le_of_ble_eq_true rfl) rfl rfl (Nat.le_of_ble_eq_true rfl) dX11_minute_82 ?_
      obtain ⟨x26, h_x26, h⟩ := hz_lt_e h
      refine hz_iinc (k := 1) (v := x26) (ls1 := [(1, .int x26), (0, .ref (hz_ad w 178))]) hO dX11_minute_85 rfl (by rw [h_x26]; rfl) (Nat.le_of_ble_eq_true rfl) rfl ?_
      refine hz_goto (tgt := 70) hO dX11_minute_88 (by decide) ?_
      exact hz_ls [1, 0] rfl (ih x26 M24 h)
set_option maxRecDepth 100000 in
set_option maxHeartbeats 4000000 in
theorem c_X11_minute (l : Launch) (w : hz_C) {N : Nat} (hN : 193 ≤ N) {M : hz_M} {rE : Int32} {ME : hz_M} (h : f_X11_minute M = some (rE, ME)) : hz_Ct l yX11_minute cX11_minute 2 none 3 w N [.ref (hz_ad w 178)] M (hz_Qv w N ME) := by
  refine hz_ofW (by decide) rfl (Nat.le_of_ble_eq_true rfl) tw_7_200 ?_
  intro p e s m args below meth c hO
  show hz_G p l e 3 hz_z0 s m args below meth c w N 2 _ M 0 [(0, .ref (hz_ad w 178))] []
  unfold f_X11_minute at h
  refine hz_aload_n hO dX11_minute_0 rfl 0 rfl ?_
  refine hz_getR (k := 0) hO 179 hz_K_9 hz_sh_178 (hz_lt_178 hN) rfl (Nat.le_of_ble_eq_true rfl) tw_6_229 rfl dX11_minute_1 ?_
  refine hz_bipush (v := (8 : Int32)) hO dX11_minute_4 (by decide) ?_
  refine hz_dup2 hO dX11_minute_6 rfl rfl ?_
  refine hz_iald hO hz_sh_179 (hz_lt_179 hN) (by decide) dX11_minute_7 ?_
  refine hz_iconst (v := (1 : Int32)) hO dX11_minute_8 (by decide) ?_
  refine hz_iadd hO dX11_minute_9 ?_
  obtain ⟨M1, h_M1, h⟩ := hz_lm_e h
  refine hz_iast hO hz_sh_179 (hz_lt_179 hN) (by decide) dX11_minute_10 ?_
  refine hz_nameM h_M1 ?_
  refine hz_aload_n hO dX11_minute_11 rfl 0 rfl ?_
  refine hz_bipush (v := (8 : Int32)) hO dX11_minute_12 (by decide) ?_
  refine hz_iconst (v := (1 : Int32)) hO dX11_minute_14 (by decide) ?_
  obtain ⟨r2, M3, hq4, h⟩ := hz_ct_e h
  refine hz_callVv (as := [.int (8 : Int32), .int (1 : Int32)]) (rest := []) hO (c_X11_counts l w hN (8 : Int32) (1 : Int32) hq4) hz_cal_X11_counts hz_K_9 hz_sh_178 (hz_lt_178 hN) tw_7_177 (Nat.le_of_ble_eq_true rfl) rfl rfl (Nat.le_of_ble_eq_true rfl) dX11_minute_15 ?_
  refine hz_aload_n hO dX11_minute_18 rfl 0 rfl ?_
  refine hz_getR (k := 0) hO 179 hz_K_9 hz_sh_178 (hz_lt_178 hN) rfl (Nat.le_of_ble_eq_true rfl) tw_6_229 rfl dX11_minute_19 ?_
  refine hz_bipush (v := (8 : Int32)) hO dX11_minute_22 (by decide) ?_
  refine hz_iald hO hz_sh_179 (hz_lt_179 hN) (by decide) dX11_minute_24 ?_
  refine hz_aload_n hO dX11_minute_25 rfl 0 rfl ?_
  refine hz_getR (k := 0) hO 179 hz_K_9 hz_sh_178 (hz_lt_178 hN) rfl (Nat.le_of_ble_eq_true rfl) tw_6_229 rfl dX11_minute_26 ?_
  refine hz_bipush (v := (6 : Int32)) hO dX11_minute_29 (by decide) ?_
  refine hz_iald hO hz_sh_179 (hz_lt_179 hN) (by decide) dX11_minute_31 ?_
  obtain ⟨hg5, h⟩ := hz_gd_e h
  refine hz_irem hO dX11_minute_32 (hz_nz_e hg5) ?_
  obtain ⟨k27, hk27, h⟩ := hz_jn_e h
  have gk27 : ∀  (M6 : hz_M), k27 M6 = some (rE, ME) → hz_G p l e 3 hz_z0 s m args below meth c w N 2 (MQ below (hz_Qv w N ME) args s 0 0 (hz_A w)) M6 57 [(0, .ref (hz_ad w 178))] [] := by
    intro M6 h
    rw [hk27] at h
    dsimp only at h
    refine hz_aload_n hO dX11_minute_57 rfl 0 rfl ?_
    refine hz_getR (k := 0) hO 179 hz_K_9 hz_sh_178 (hz_lt_178 hN) rfl (Nat.le_of_ble_eq_true rfl) tw_6_229 rfl dX11_minute_58 ?_
    refine hz_bipush (v := (9 : Int32)) hO dX11_minute_61 (by decide) ?_
    refine hz_aload_n hO dX11_minute_63 rfl 0 rfl ?_
    obtain ⟨r7, M8, hq9, h⟩ := hz_ct_e h
    refine hz_callVi (as := []) (rest := [.int (9 : Int32), .ref (hz_ad w 179)]) hO (c_X11_nextHeat l w hN hq9) hz_cal_X11_nextHeat hz_K_9 hz_sh_178 (hz_lt_178 hN) tw_7_201 (Nat.le_of_ble_eq_true rfl) rfl rfl (Nat.le_of_ble_eq_true rfl) dX11_minute_64 ?_
    obtain ⟨M10, h_M10, h⟩ := hz_lm_e h
    refine hz_iast hO hz_sh_179 (hz_lt_179 hN) (by decide) dX11_minute_67 ?_
    refine hz_nameM h_M10 ?_
    refine hz_iconst (v := (0 : Int32)) hO dX11_minute_68 (by decide) ?_
    refine hz_istore_n (ls1 := [(1, .int (0 : Int32)), (0, .ref (hz_ad w 178))]) hO dX11_minute_69 rfl (Nat.le_of_ble_eq_true rfl) rfl ?_
    obtain ⟨k19, hk19, h⟩ := hz_jn_e h
    have gk19 : ∀  (M11 : hz_M), k19 M11 = some (rE, ME) → hz_G p l e 3 hz_z0 s m args below meth c w N 2 (MQ below (hz_Qv w N ME) args s 0 0 (hz_A w)) M11 91 [(0, .ref (hz_ad w 178))] [] := by
      intro M11 h
      rw [hk19] at h
      dsimp only at h
      refine hz_iconst (v := (0 : Int32)) hO dX11_minute_91 (by decide) ?_
      refine hz_istore_n (ls1 := [(1, .int (0 : Int32)), (0, .ref (hz_ad w 178))]) hO dX11_minute_92 rfl (Nat.le_of_ble_eq_true rfl) rfl ?_
      exact hz_ls [1, 0] rfl (g_X11_minute_L93 hN hO _ (0 : Int32) M11 h)
    clear hk19
    exact hz_ls [1, 0] rfl (g_X11_minute_L70 hN hO _ gk19 _ (0 : Int32) M10 h)
  clear hk27
  refine hz_if_ne (tgt := 57) hO dX11_minute_33 (by decide) (fun hc28 => ?_) (fun hc28 => ?_)
  · rw [if_neg hc28] at h
    exact hz_ls [0] rfl (gk27 M3 h)
  · rw [if_pos hc28] at h
    refine hz_aload_n hO dX11_minute_36 rfl 0 rfl ?_
    refine hz_getR (k := 0) hO 179 hz_K_9 hz_sh_178 (hz_lt_178 hN) rfl (Nat.le_of_ble_eq_true rfl) tw_6_229 rfl dX11_minute_37 ?_
    refine hz_bipush (v := (10 : Int32)) hO dX11_minute_40 (by decide) ?_
    refine hz_aload_n hO dX11_minute_42 rfl 0 rfl ?_
    refine hz_getR (k := 0) hO 179 hz_K_9 hz_sh_178 (hz_lt_178 hN) rfl (Nat.le_of_ble_eq_true rfl) tw_6_229 rfl dX11_minute_43 ?_
    refine hz_bipush (v := (8 : Int32)) hO dX11_minute_46 (by decide) ?_
    refine hz_iald hO hz_sh_179 (hz_lt_179 hN) (by decide) dX11_minute_48 ?_
    obtain ⟨M29, h_M29, h⟩ := hz_lm_e h
    refine hz_iast hO hz_sh_179 (hz_lt_179 hN) (by decide) dX11_minute_49 ?_
    refine hz_nameM h_M29 ?_
    refine hz_aload_n hO dX11_minute_50 rfl 0 rfl ?_
    refine hz_bipush (v := (7 : Int32)) hO dX11_minute_51 (by decide) ?_
    refine hz_iconst (v := (1 : Int32)) hO dX11_minute_53 (by decide) ?_
    obtain ⟨r30, M31, hq32, h⟩ := hz_ct_e h
    refine hz_callVv (as := [.int (7 : Int32), .int (1 : Int32)]) (rest := []) hO (c_X11_counts l w hN (7 : Int32) (1 : Int32) hq32) hz_cal_X11_counts hz_K_9 hz_sh_178 (hz_lt_178 hN) tw_7_177 (Nat.le_of_ble_eq_true rfl) rfl rfl (Nat.le_of_ble_eq_true rfl) dX11_minute_54 ?_
    exact hz_ls [0] rfl (gk27 M31 h)
def f_X11_tries_L2 : Nat → Int32 → hz_M → hz_O
  | 0, _, _ => none
  | n + 1, v1_1, M2 =>
    if (185 : Int32) ≤ v1_1 then
      some (0, M2)
    else
      hz_gd (hz_in v1_1 185) <|
      hz_gd (hz_in v1_1 185) <|
      hz_lm (hz_set M2 180 (Int32.toNatClampNeg v1_1) (M2 179 (Int32.toNatClampNeg v1_1))) fun M6 =>
      hz_lt (v1_1 + (1 : Int32)) fun x7 =>
      f_X11_tries_L2 n x7 M6
def f_X11_tries (M : hz_M) : hz_O :=
  f_X11_tries_L2 hz_FU (0 : Int32) M
set_option maxRecDepth 100000 in
set_option maxHeartbeats 4000000 in
theorem g_X11_tries_L2 {p : Program} {l : Launch} {e : Env} {s : State} {m : MethodId} {args : Array Value} {below : List Frame} {meth : Method} {c : Code} {w : hz_C} {N : Nat} (hN : 193 ≤ N) {rE : Int32} {ME : hz_M} (hO : hz_Ok p s m args meth c w cX11_tries 2 RX11 none) : ∀ (n : Nat) (v1_1 : Int32) (M2 : hz_M), f_X11_tries_L2 n v1_1 M2 = some (rE, ME) → hz_G p l e 0 hz_z0 s m args below meth c w N 2 (MQ below (hz_Qv w N ME) args s 0 0 (hz_A w)) M2 2 [(0, .ref (hz_ad w 178)), (1, .int v1_1)] [] := by
  intro n
  induction n with
  | zero =>
    intro v1_1 M2 h
    rw [f_X11_tries_L2] at h
    cases h
  | succ n ih =>
    intro v1_1 M2 h
    rw [f_X11_tries_L2] at h
    refine hz_iload_n hO dX11_tries_2 rfl 1 rfl ?_
    refine hz_sipush (v := (185 : Int32)) hO dX11_tries_3 (by decide) ?_
    refine hz_icmp_ge (tgt := 27) hO dX11_tries_6 (by decide) (fun hc3 => ?_) (fun hc3 => ?_)
    · rw [if_pos hc3] at h
      exact hz_nameM (hz_some_e h).2.symm (hz_vret hO dX11_tries_27)
    · rw [if_neg hc3] at h
      refine hz_aload_n hO dX11_tries_9 rfl 0 rfl ?_
      refine hz_getR (k := 1) hO 180 hz_K_9 hz_sh_178 (hz_lt_178 hN) rfl (Nat.le_of_ble_eq_true rfl) tw_6_230 rfl dX11_tries_10 ?_
      refine hz_iload_n hO dX11_tries_13 rfl 1 rfl ?_
      refine hz_aload_n hO dX11_tries_14 rfl 0 rfl ?_
      refine hz_getR (k := 0) hO 179 hz_K_9 hz_sh_178 (hz_lt_178 hN) rfl (Nat.le_of_ble_eq_true rfl) tw_6_229 rfl dX11_tries_15 ?_
      refine hz_iload_n hO dX11_tries_18 rfl 1 rfl ?_
      obtain ⟨hg4, h⟩ := hz_gd_e h
      refine hz_iald hO hz_sh_179 (hz_lt_179 hN) hg4 dX11_tries_19 ?_
      obtain ⟨hg5, h⟩ := hz_gd_e h
      obtain ⟨M6, h_M6, h⟩ := hz_lm_e h
      refine hz_iast hO hz_sh_180 (hz_lt_180 hN) hg5 dX11_tries_20 ?_
      refine hz_nameM h_M6 ?_
      obtain ⟨x7, h_x7, h⟩ := hz_lt_e h
      refine hz_iinc (k := 1) (v := x7) (ls1 := [(1, .int x7), (0, .ref (hz_ad w 178))]) hO dX11_tries_21 rfl (by rw [h_x7]; rfl) (Nat.le_of_ble_eq_true rfl) rfl ?_
      refine hz_goto (tgt := 2) hO dX11_tries_24 (by decide) ?_
      exact hz_ls [1, 0] rfl (ih x7 M6 h)
set_option maxRecDepth 100000 in
set_option maxHeartbeats 4000000 in
theorem c_X11_tries (l : Launch) (w : hz_C) {N : Nat} (hN : 193 ≤ N) {M : hz_M} {rE : Int32} {ME : hz_M} (h : f_X11_tries M = some (rE, ME)) : hz_Ct l yX11_tries cX11_tries 2 none 0 w N [.ref (hz_ad w 178)] M (hz_Qv w N ME) := by
  refine hz_ofW (by decide) rfl (Nat.le_of_ble_eq_true rfl) tw_8_212 ?_
  intro p e s m args below meth c hO
  show hz_G p l e 0 hz_z0 s m args below meth c w N 2 _ M 0 [(0, .ref (hz_ad w 178))] []
  unfold f_X11_tries at h
  refine hz_iconst (v := (0 : Int32)) hO dX11_tries_0 (by decide) ?_
  refine hz_istore_n (ls1 := [(1, .int (0 : Int32)), (0, .ref (hz_ad w 178))]) hO dX11_tries_1 rfl (Nat.le_of_ble_eq_true rfl) rfl ?_
  exact hz_ls [1, 0] rfl (g_X11_tries_L2 hN hO _ (0 : Int32) M h)
def f_X11_back_L2 : Nat → Int32 → Int32 → hz_M → hz_O
  | 0, _, _, _ => none
  | n + 1, v1_1, v2_2, M3 =>
    if (185 : Int32) ≤ v2_2 then
      some (v1_1, M3)
    else
      hz_gd (hz_in v2_2 185) <|
      hz_gd (hz_in v2_2 185) <|
      hz_lm (hz_set M3 179 (Int32.toNatClampNeg v2_2) (M3 180 (Int32.toNatClampNeg v2_2))) fun M7 =>
      hz_lt (v2_2 + (1 : Int32)) fun x8 =>
      f_X11_back_L2 n v1_1 x8 M7
def f_X11_back (a1 : Int32) (M : hz_M) : hz_O :=
  f_X11_back_L2 hz_FU a1 (0 : Int32) M
set_option maxRecDepth 100000 in
set_option maxHeartbeats 4000000 in
theorem g_X11_back_L2 {p : Program} {l : Launch} {e : Env} {s : State} {m : MethodId} {args : Array Value} {below : List Frame} {meth : Method} {c : Code} {w : hz_C} {N : Nat} (hN : 193 ≤ N) {rE : Int32} {ME : hz_M} (hO : hz_Ok p s m args meth c w cX11_back 3 RX11 (some .int)) : ∀ (n : Nat) (v1_1 : Int32) (v2_2 : Int32) (M3 : hz_M), f_X11_back_L2 n v1_1 v2_2 M3 = some (rE, ME) → hz_G p l e 0 hz_z0 s m args below meth c w N 3 (MQ below (hz_Qi w N rE ME) args s 0 0 (hz_A w)) M3 2 [(0, .ref (hz_ad w 178)), (1, .int v1_1), (2, .int v2_2)] [] := by
  intro n
  induction n with
  | zero =>
    intro v1_1 v2_2 M3 h
    rw [f_X11_back_L2] at h
    cases h
  | succ n ih =>
    intro v1_1 v2_2 M3 h
    rw [f_X11_back_L2] at h
    refine hz_iload_n hO dX11_back_2 rfl 2 rfl ?_
    refine hz_sipush (v := (185 : Int32)) hO dX11_back_3 (by decide) ?_
    refine hz_icmp_ge (tgt := 27) hO dX11_back_6 (by decide) (fun hc4 => ?_) (fun hc4 => ?_)
    · rw [if_pos hc4] at h
      refine hz_iload_n hO dX11_back_27 rfl 1 rfl ?_
      exact hz_nameM (hz_some_e h).2.symm (hz_name (hz_some_e h).1.symm (hz_iret hO dX11_back_28))
    · rw [if_neg hc4] at h
      refine hz_aload_n hO dX11_back_9 rfl 0 rfl ?_
      refine hz_getR (k := 0) hO 179 hz_K_9 hz_sh_178 (hz_lt_178 hN) rfl (Nat.le_of_ble_eq_true rfl) tw_6_229 rfl dX11_back_10 ?_
      refine hz_iload_n hO dX11_back_13 rfl 2 rfl ?_
      refine hz_aload_n hO dX11_back_14 rfl 0 rfl ?_
      refine hz_getR (k := 1) hO 180 hz_K_9 hz_sh_178 (hz_lt_178 hN) rfl (Nat.le_of_ble_eq_true rfl) tw_6_230 rfl dX11_back_15 ?_
      refine hz_iload_n hO dX11_back_18 rfl 2 rfl ?_
      obtain ⟨hg5, h⟩ := hz_gd_e h
      refine hz_iald hO hz_sh_180 (hz_lt_180 hN) hg5 dX11_back_19 ?_
      obtain ⟨hg6, h⟩ := hz_gd_e h
      obtain ⟨M7, h_M7, h⟩ := hz_lm_e h
      refine hz_iast hO hz_sh_179 (hz_lt_179 hN) hg6 dX11_back_20 ?_
      refine hz_nameM h_M7 ?_
      obtain ⟨x8, h_x8, h⟩ := hz_lt_e h
      refine hz_iinc (k := 2) (v := x8) (ls1 := [(2, .int x8), (0, .ref (hz_ad w 178)), (1, .int v1_1)]) hO dX11_back_21 rfl (by rw [h_x8]; rfl) (Nat.le_of_ble_eq_true rfl) rfl ?_
      refine hz_goto (tgt := 2) hO dX11_back_24 (by decide) ?_
      exact hz_ls [1, 2, 0] rfl (ih v1_1 x8 M7 h)
set_option maxRecDepth 100000 in
set_option maxHeartbeats 4000000 in
theorem c_X11_back (l : Launch) (w : hz_C) {N : Nat} (hN : 193 ≤ N) (a1 : Int32) {M : hz_M} {rE : Int32} {ME : hz_M} (h : f_X11_back a1 M = some (rE, ME)) : hz_Ct l yX11_back cX11_back 3 (some .int) 0 w N [.ref (hz_ad w 178), .int a1] M (hz_Qi w N rE ME) := by
  refine hz_ofW (by decide) rfl (Nat.le_of_ble_eq_true rfl) tw_8_216 ?_
  intro p e s m args below meth c hO
  show hz_G p l e 0 hz_z0 s m args below meth c w N 3 _ M 0 [(0, .ref (hz_ad w 178)), (1, .int a1)] []
  unfold f_X11_back at h
  refine hz_iconst (v := (0 : Int32)) hO dX11_back_0 (by decide) ?_
  refine hz_istore_n (ls1 := [(2, .int (0 : Int32)), (0, .ref (hz_ad w 178)), (1, .int a1)]) hO dX11_back_1 rfl (Nat.le_of_ble_eq_true rfl) rfl ?_
  exact hz_ls [1, 2, 0] rfl (g_X11_back_L2 hN hO _ a1 (0 : Int32) M h)
def f_X11_feeds_L3 : Nat → Int32 → Int32 → hz_M → hz_O
  | 0, _, _, _ => none
  | n + 1, v1_1, v2_2, M3 =>
    if v2_2 < 0 then
      some (0, M3)
    else
      hz_lt (((v1_1 >>> (v2_2 &&& 31)) &&& (255 : Int32))) fun x5 =>
      hz_jn (fun (v1_6 : Int32) (v2_7 : Int32) (M8 : hz_M) =>
        hz_lt (v2_7 + (-8 : Int32)) fun x9 =>
        f_X11_feeds_L3 n v1_6 x9 M8
        ) fun k10 =>
      if x5 = 0 then
        k10 v1_1 v2_2 M3
      else
        hz_jn (fun (v1_12 : Int32) (v2_13 : Int32) (M14 : hz_M) =>
          hz_lm (hz_set M14 178 11 ((M14 178 11) + (1 : Int32))) fun M15 =>
          k10 v1_12 v2_13 M15
          ) fun k16 =>
        if (600 : Int32) ≤ (M3 178 11) then
          k16 v1_1 v2_2 M3
        else
          hz_gd (hz_in (M3 178 11) 600) <|
          hz_lm (hz_set M3 186 (Int32.toNatClampNeg (M3 178 11)) x5) fun M19 =>
          k16 v1_1 v2_2 M19
def f_X11_feeds (a1 : Int32) (M : hz_M) : hz_O :=
  f_X11_feeds_L3 hz_FU a1 (24 : Int32) M
set_option maxRecDepth 100000 in
set_option maxHeartbeats 4000000 in
theorem g_X11_feeds_L3 {p : Program} {l : Launch} {e : Env} {s : State} {m : MethodId} {args : Array Value} {below : List Frame} {meth : Method} {c : Code} {w : hz_C} {N : Nat} (hN : 193 ≤ N) {rE : Int32} {ME : hz_M} (hO : hz_Ok p s m args meth c w cX11_feeds 4 RX11 none) : ∀ (n : Nat) (v1_1 : Int32) (v2_2 : Int32) (M3 : hz_M), f_X11_feeds_L3 n v1_1 v2_2 M3 = some (rE, ME) → hz_G p l e 0 hz_z0 s m args below meth c w N 4 (MQ below (hz_Qv w N ME) args s 0 0 (hz_A w)) M3 3 [(0, .ref (hz_ad w 178)), (1, .int v1_1), (2, .int v2_2)] [] := by
  intro n
  induction n with
  | zero =>
    intro v1_1 v2_2 M3 h
    rw [f_X11_feeds_L3] at h
    cases h
  | succ n ih =>
    intro v1_1 v2_2 M3 h
    rw [f_X11_feeds_L3] at h
    refine hz_iload_n hO dX11_feeds_3 rfl 2 rfl ?_
    refine hz_if_lt (tgt := 58) hO dX11_feeds_4 (by decide) (fun hc4 => ?_) (fun hc4 => ?_)
    · rw [if_pos hc4] at h
      exact hz_nameM (hz_some_e h).2.symm (hz_vret hO dX11_feeds_58)
    · rw [if_neg hc4] at h
      refine hz_iload_n hO dX11_feeds_7 rfl 1 rfl ?_
      refine hz_iload_n hO dX11_feeds_8 rfl 2 rfl ?_
      refine hz_ishr hO dX11_feeds_9 ?_
      refine hz_sipush (v := (255 : Int32)) hO dX11_feeds_10 (by decide) ?_
      refine hz_iand hO dX11_feeds_13 ?_
      obtain ⟨x5, h_x5, h⟩ := hz_lt_e h
      refine hz_name h_x5 ?_
      refine hz_istore_n (ls1 := [(3, .int x5), (0, .ref (hz_ad w 178)), (1, .int v1_1), (2, .int v2_2)]) hO dX11_feeds_14 rfl (Nat.le_of_ble_eq_true rfl) rfl ?_
      refine hz_iload_n hO dX11_feeds_15 rfl 0 rfl ?_
      obtain ⟨k10, hk10, h⟩ := hz_jn_e h
      have gk10 : ∀ (v1_6 : Int32) (v2_7 : Int32) (M8 : hz_M), k10 v1_6 v2_7 M8 = some (rE, ME) → hz_G p l e 0 hz_z0 s m args below meth c w N 4 (MQ below (hz_Qv w N ME) args s 0 0 (hz_A w)) M8 52 [(0, .ref (hz_ad w 178)), (1, .int v1_6), (2, .int v2_7)] [] := by
        intro v1_6 v2_7 M8 h
        rw [hk10] at h
        dsimp only at h
        obtain ⟨x9, h_x9, h⟩ := hz_lt_e h
        refine hz_iinc (k := 2) (v := x9) (ls1 := [(2, .int x9), (0, .ref (hz_ad w 178)), (1, .int v1_6)]) hO dX11_feeds_52 rfl (by rw [h_x9]; rfl) (Nat.le_of_ble_eq_true rfl) rfl ?_
        refine hz_goto (tgt := 3) hO dX11_feeds_55 (by decide) ?_
        exact hz_ls [1, 2, 0] rfl (ih v1_6 x9 M8 h)
      clear hk10
      refine hz_if_ne (tgt := 22) hO dX11_feeds_16 (by decide) (fun hc11 => ?_) (fun hc11 => ?_)
      · rw [if_neg hc11] at h
        refine hz_aload_n hO dX11_feeds_22 rfl 1 rfl ?_
        refine hz_getI (k := 11) hO hz_K_9 hz_sh_178 (hz_lt_178 hN) rfl (Nat.le_of_ble_eq_true rfl) tw_7_0 rfl dX11_feeds_23 ?_
        refine hz_sipush (v := (600 : Int32)) hO dX11_feeds_26 (by decide) ?_
        obtain ⟨k16, hk16, h⟩ := hz_jn_e h
        have gk16 : ∀ (v1_12 : Int32) (v2_13 : Int32) (M14 : hz_M), k16 v1_12 v2_13 M14 = some (rE, ME) → hz_G p l e 0 hz_z0 s m args below meth c w N 4 (MQ below (hz_Qv w N ME) args s 0 0 (hz_A w)) M14 42 [(0, .ref (hz_ad w 178)), (1, .int v1_12), (2, .int v2_13)] [] := by
          intro v1_12 v2_13 M14 h
          rw [hk16] at h
          dsimp only at h
          refine hz_aload_n hO dX11_feeds_42 rfl 0 rfl ?_
          refine hz_dup hO dX11_feeds_43 rfl ?_
          refine hz_getI (k := 11) hO hz_K_9 hz_sh_178 (hz_lt_178 hN) rfl (Nat.le_of_ble_eq_true rfl) tw_7_0 rfl dX11_feeds_44 ?_
          refine hz_iconst (v := (1 : Int32)) hO dX11_feeds_47 (by decide) ?_
          refine hz_iadd hO dX11_feeds_48 ?_
          obtain ⟨M15, h_M15, h⟩ := hz_lm_e h
          refine hz_putI (k := 11) (ty := .int) hO hz_K_9 tyX11_ok nmX11 hz_sh_178 (hz_lt_178 hN) rfl (Nat.le_of_ble_eq_true rfl) tw_7_0 rfl rfl rfl rfl rfl dX11_feeds_49 ?_
          refine hz_nameM h_M15 ?_
          exact hz_ls [0, 1, 2] rfl (gk10 v1_12 v2_13 M15 h)
        clear hk16
        refine hz_icmp_ge (tgt := 42) hO dX11_feeds_29 (by decide) (fun hc17 => ?_) (fun hc17 => ?_)
        · rw [if_pos hc17] at h
          exact hz_ls [1, 2, 3] rfl (gk16 v1_1 v2_2 M3 h)
        · rw [if_neg hc17] at h
          refine hz_aload_n hO dX11_feeds_32 rfl 1 rfl ?_
          refine hz_getR (k := 10) hO 186 hz_K_9 hz_sh_178 (hz_lt_178 hN) rfl (Nat.le_of_ble_eq_true rfl) tw_6_239 rfl dX11_feeds_33 ?_
          refine hz_aload_n hO dX11_feeds_36 rfl 1 rfl ?_
          refine hz_getI (k := 11) hO hz_K_9 hz_sh_178 (hz_lt_178 hN) rfl (Nat.le_of_ble_eq_true rfl) tw_7_0 rfl dX11_feeds_37 ?_
          refine hz_iload_n hO dX11_feeds_40 rfl 0 rfl ?_
          obtain ⟨hg18, h⟩ := hz_gd_e h
          obtain ⟨M19, h_M19, h⟩ := hz_lm_e h
          refine hz_iast hO hz_sh_186 (hz_lt_186 hN) hg18 dX11_feeds_41 ?_
          refine hz_nameM h_M19 ?_
          exact hz_ls [1, 2, 3] rfl (gk16 v1_1 v2_2 M19 h)
      · rw [if_pos hc11] at h
        refine hz_goto (tgt := 52) hO dX11_feeds_19 (by decide) ?_
        exact hz_ls [1, 2, 3] rfl (gk10 v1_1 v2_2 M3 h)
set_option maxRecDepth 100000 in
set_option maxHeartbeats 4000000 in
theorem c_X11_feeds (l : Launch) (w : hz_C) {N : Nat} (hN : 193 ≤ N) (a1 : Int32) {M : hz_M} {rE : Int32} {ME : hz_M} (h : f_X11_feeds a1 M = some (rE, ME)) : hz_Ct l yX11_feeds cX11_feeds 4 none 0 w N [.ref (hz_ad w 178), .int a1] M (hz_Qv w N ME) := by
  refine hz_ofW (by decide) rfl (Nat.le_of_ble_eq_true rfl) tw_7_85 ?_
  intro p e s m args below meth c hO
  show hz_G p l e 0 hz_z0 s m args below meth c w N 4 _ M 0 [(0, .ref (hz_ad w 178)), (1, .int a1)] []
  unfold f_X11_feeds at h
  refine hz_bipush (v := (24 : Int32)) hO dX11_feeds_0 (by decide) ?_
  refine hz_istore_n (ls1 := [(2, .int (24 : Int32)), (0, .ref (hz_ad w 178)), (1, .int a1)]) hO dX11_feeds_2 rfl (Nat.le_of_ble_eq_true rfl) rfl ?_
  exact hz_ls [1, 2, 0] rfl (g_X11_feeds_L3 hN hO _ a1 (24 : Int32) M h)
def f_X11_feed (a1 : Int32) (a2 : Int32) (a3 : Int32) (a4 : Int32) (a5 : Int32) (M : hz_M) : hz_O :=
  hz_lm (hz_set M 178 8 (0 : Int32)) fun M1 =>
  hz_lt ((M1 178 11)) fun x2 =>
  hz_ct (f_X11_feeds a1 M1) fun r3 M4 =>
  hz_ct (f_X11_feeds a2 M4) fun r6 M7 =>
  hz_ct (f_X11_feeds a3 M7) fun r9 M10 =>
  hz_ct (f_X11_feeds a4 M10) fun r12 M13 =>
  hz_ct (f_X11_feeds a5 M13) fun r15 M16 =>
  if (600 : Int32) < (M16 178 11) then
    hz_lm (hz_set M16 178 11 x2) fun M19 =>
    some ((-1 : Int32), M19)
  else
    some ((M16 178 11), M16)
set_option maxRecDepth 100000 in
set_option maxHeartbeats 4000000 in
theorem c_X11_feed (l : Launch) (w : hz_C) {N : Nat} (hN : 193 ≤ N) (a1 : Int32) (a2 : Int32) (a3 : Int32) (a4 : Int32) (a5 : Int32) {M : hz_M} {rE : Int32} {ME : hz_M} (h : f_X11_feed a1 a2 a3 a4 a5 M = some (rE, ME)) : hz_Ct l yX11_feed cX11_feed 7 (some .int) 1 w N [.ref (hz_ad w 178), .int a1, .int a2, .int a3, .int a4, .int a5] M (hz_Qi w N rE ME) := by
  refine hz_ofW (by decide) rfl (Nat.le_of_ble_eq_true rfl) tw_7_81 ?_
  intro p e s m args below meth c hO
  show hz_G p l e 1 hz_z0 s m args below meth c w N 7 _ M 0 [(0, .ref (hz_ad w 178)), (1, .int a1), (2, .int a2), (3, .int a3), (4, .int a4), (5, .int a5)] []
  unfold f_X11_feed at h
  refine hz_aload_n hO dX11_feed_0 rfl 0 rfl ?_
  refine hz_iconst (v := (0 : Int32)) hO dX11_feed_1 (by decide) ?_
  obtain ⟨M1, h_M1, h⟩ := hz_lm_e h
  refine hz_putI (k := 8) (ty := .int) hO hz_K_9 tyX11_ok nmX11 hz_sh_178 (hz_lt_178 hN) rfl (Nat.le_of_ble_eq_true rfl) tw_6_237 rfl rfl rfl rfl rfl dX11_feed_2 ?_
  refine hz_nameM h_M1 ?_
  refine hz_aload_n hO dX11_feed_5 rfl 0 rfl ?_
  refine hz_getI (k := 11) hO hz_K_9 hz_sh_178 (hz_lt_178 hN) rfl (Nat.le_of_ble_eq_true rfl) tw_7_0 rfl dX11_feed_6 ?_
  obtain ⟨x2, h_x2, h⟩ := hz_lt_e h
  refine hz_name h_x2 ?_
  refine hz_istore (ls1 := [(6, .int x2), (0, .ref (hz_ad w 178)), (1, .int a1), (2, .int a2), (3, .int a3), (4, .int a4), (5, .int a5)]) hO dX11_feed_9 (Nat.le_of_ble_eq_true rfl) rfl ?_
  refine hz_aload_n hO dX11_feed_11 rfl 1 rfl ?_
  refine hz_iload_n hO dX11_feed_12 rfl 2 rfl ?_
  obtain ⟨r3, M4, hq5, h⟩ := hz_ct_e h
  refine hz_callVv (as := [.int a1]) (rest := []) hO (c_X11_feeds l w hN a1 hq5) hz_cal_X11_feeds hz_K_9 hz_sh_178 (hz_lt_178 hN) tw_7_82 (Nat.le_of_ble_eq_true rfl) rfl rfl (Nat.le_of_ble_eq_true rfl) dX11_feed_13 ?_
  refine hz_aload_n hO dX11_feed_16 rfl 1 rfl ?_
  refine hz_iload_n hO dX11_feed_17 rfl 3 rfl ?_
  obtain ⟨r6, M7, hq8, h⟩ := hz_ct_e h
  refine hz_callVv (as := [.int a2]) (rest := []) hO (c_X11_feeds l w hN a2 hq8) hz_cal_X11_feeds hz_K_9 hz_sh_178 (hz_lt_178 hN) tw_7_82 (Nat.le_of_ble_eq_true rfl) rfl rfl (Nat.le_of_ble_eq_true rfl) dX11_feed_18 ?_
  refine hz_aload_n hO dX11_feed_21 rfl 1 rfl ?_
  refine hz_iload_n hO dX11_feed_22 rfl 4 rfl ?_
  obtain ⟨r9, M10, hq11, h⟩ := hz_ct_e h
  refine hz_callVv (as := [.int a3]) (rest := []) hO (c_X11_feeds l w hN a3 hq11) hz_cal_X11_feeds hz_K_9 hz_sh_178 (hz_lt_178 hN) tw_7_82 (Nat.le_of_ble_eq_true rfl) rfl rfl (Nat.le_of_ble_eq_true rfl) dX11_feed_23 ?_
  refine hz_aload_n hO dX11_feed_26 rfl 1 rfl ?_
  refine hz_iload hO dX11_feed_27 5 rfl ?_
  obtain ⟨r12, M13, hq14, h⟩ := hz_ct_e h
  refine hz_callVv (as := [.int a4]) (rest := []) hO (c_X11_feeds l w hN a4 hq14) hz_cal_X11_feeds hz_K_9 hz_sh_178 (hz_lt_178 hN) tw_7_82 (Nat.le_of_ble_eq_true rfl) rfl rfl (Nat.le_of_ble_eq_true rfl) dX11_feed_29 ?_
  refine hz_aload_n hO dX11_feed_32 rfl 1 rfl ?_
  refine hz_iload hO dX11_feed_33 6 rfl ?_
  obtain ⟨r15, M16, hq17, h⟩ := hz_ct_e h
  refine hz_callVv (as := [.int a5]) (rest := []) hO (c_X11_feeds l w hN a5 hq17) hz_cal_X11_feeds hz_K_9 hz_sh_178 (hz_lt_178 hN) tw_7_82 (Nat.le_of_ble_eq_true rfl) rfl rfl (Nat.le_of_ble_eq_true rfl) dX11_feed_35 ?_
  refine hz_aload_n hO dX11_feed_38 rfl 1 rfl ?_
  refine hz_getI (k := 11) hO hz_K_9 hz_sh_178 (hz_lt_178 hN) rfl (Nat.le_of_ble_eq_true rfl) tw_7_0 rfl dX11_feed_39 ?_
  refine hz_sipush (v := (600 : Int32)) hO dX11_feed_42 (by decide) ?_
  refine hz_icmp_gt (tgt := 53) hO dX11_feed_45 (by decide) (fun hc18 => ?_) (fun hc18 => ?_)
  · rw [if_pos hc18] at h
    refine hz_aload_n hO dX11_feed_53 rfl 1 rfl ?_
    refine hz_iload hO dX11_feed_54 0 rfl ?_
    obtain ⟨M19, h_M19, h⟩ := hz_lm_e h
    refine hz_putI (k := 11) (ty := .int) hO hz_K_9 tyX11_ok nmX11 hz_sh_178 (hz_lt_178 hN) rfl (Nat.le_of_ble_eq_true rfl) tw_7_0 rfl rfl rfl rfl rfl dX11_feed_56 ?_
    refine hz_nameM h_M19 ?_
    refine hz_iconst (v := (-1 : Int32)) hO dX11_feed_59 (by decide) ?_
    exact hz_nameM (hz_some_e h).2.symm (hz_name (hz_some_e h).1.symm (hz_iret hO dX11_feed_60))
  · rw [if_neg hc18] at h
    refine hz_aload_n hO dX11_feed_48 rfl 1 rfl ?_
    refine hz_getI (k := 11) hO hz_K_9 hz_sh_178 (hz_lt_178 hN) rfl (Nat.le_of_ble_eq_true rfl) tw_7_0 rfl dX11_feed_49 ?_
    exact hz_nameM (hz_some_e h).2.symm (hz_name (hz_some_e h).1.symm (hz_iret hO dX11_feed_52))
def f_X11_errorPosition (M : hz_M) : hz_O :=
  hz_lm (hz_set M 178 8 (0 : Int32)) fun M1 =>
  some ((M1 178 12), M1)
set_option maxRecDepth 100000 in
set_option maxHeartbeats 4000000 in
theorem c_X11_errorPosition (l : Launch) (w : hz_C) {N : Nat} (hN : 193 ≤ N) {M : hz_M} {rE : Int32} {ME : hz_M} (h : f_X11_errorPosition M = some (rE, ME)) : hz_Ct l yX11_errorPosition cX11_errorPosition 1 (some .int) 0 w N [.ref (hz_ad w 178)] M (hz_Qi w N rE ME) := by
  refine hz_ofW (by decide) rfl (Nat.le_of_ble_eq_true rfl) tw_7_89 ?_
  intro p e s m args below meth c hO
  show hz_G p l e 0 hz_z0 s m args below meth c w N 1 _ M 0 [(0, .ref (hz_ad w 178))] []
  unfold f_X11_errorPosition at h
  refine hz_aload_n hO dX11_errorPosition_0 rfl 0 rfl ?_
  refine hz_iconst (v := (0 : Int32)) hO dX11_errorPosition_1 (by decide) ?_
  obtain ⟨M1, h_M1, h⟩ := hz_lm_e h
  refine hz_putI (k := 8) (ty := .int) hO hz_K_9 tyX11_ok nmX11 hz_sh_178 (hz_lt_178 hN) rfl (Nat.le_of_ble_eq_true rfl) tw_6_237 rfl rfl rfl rfl rfl dX11_errorPosition_2 ?_
  refine hz_nameM h_M1 ?_
  refine hz_aload_n hO dX11_errorPosition_5 rfl 0 rfl ?_
  refine hz_getI (k := 12) hO hz_K_9 hz_sh_178 (hz_lt_178 hN) rfl (Nat.le_of_ble_eq_true rfl) tw_7_1 rfl dX11_errorPosition_6 ?_
  exact hz_nameM (hz_some_e h).2.symm (hz_name (hz_some_e h).1.symm (hz_iret hO dX11_errorPosition_9))
def f_X11_seen (a1 : Int32) (M : hz_M) : hz_O :=
  if (M 178 11) ≤ a1 then
    some ((-1 : Int32), M)
  else
    hz_gd (hz_in a1 600) <|
    some ((M 186 (Int32.toNatClampNeg a1)), M)
set_option maxRecDepth 100000 in
set_option maxHeartbeats 4000000 in
theorem c_X11_seen (l : Launch) (w : hz_C) {N : Nat} (hN : 193 ≤ N) (a1 : Int32) {M : hz_M} {rE : Int32} {ME : hz_M} (h : f_X11_seen a1 M = some (rE, ME)) : hz_Ct l yX11_seen cX11_seen 2 (some .int) 0 w N [.ref (hz_ad w 178), .int a1] M (hz_Qi w N rE ME) := by
  refine hz_ofW (by decide) rfl (Nat.le_of_ble_eq_true rfl) tw_6_170 ?_
  intro p e s m args below meth c hO
  show hz_G p l e 0 hz_z0 s m args below meth c w N 2 _ M 0 [(0, .ref (hz_ad w 178)), (1, .int a1)] []
  unfold f_X11_seen at h
  refine hz_iload_n hO dX11_seen_0 rfl 1 rfl ?_
  refine hz_aload_n hO dX11_seen_1 rfl 0 rfl ?_
  refine hz_getI (k := 11) hO hz_K_9 hz_sh_178 (hz_lt_178 hN) rfl (Nat.le_of_ble_eq_true rfl) tw_7_0 rfl dX11_seen_2 ?_
  refine hz_icmp_ge (tgt := 17) hO dX11_seen_5 (by decide) (fun hc1 => ?_) (fun hc1 => ?_)
  · rw [if_pos hc1] at h
    refine hz_iconst (v := (-1 : Int32)) hO dX11_seen_17 (by decide) ?_
    exact hz_nameM (hz_some_e h).2.symm (hz_name (hz_some_e h).1.symm (hz_iret hO dX11_seen_18))
  · rw [if_neg hc1] at h
    refine hz_aload_n hO dX11_seen_8 rfl 0 rfl ?_
    refine hz_getR (k := 10) hO 186 hz_K_9 hz_sh_178 (hz_lt_178 hN) rfl (Nat.le_of_ble_eq_true rfl) tw_6_239 rfl dX11_seen_9 ?_
    refine hz_iload_n hO dX11_seen_12 rfl 1 rfl ?_
    obtain ⟨hg2, h⟩ := hz_gd_e h
    refine hz_iald hO hz_sh_186 (hz_lt_186 hN) hg2 dX11_seen_13 ?_
    refine hz_goto (tgt := 18) hO dX11_seen_14 (by decide) ?_
    exact hz_nameM (hz_some_e h).2.symm (hz_name (hz_some_e h).1.symm (hz_iret hO dX11_seen_18))
def f_X11_goesOn_L137 : Nat → hz_M → hz_O
  | 0, _ => none
  | n + 1, M27 =>
    hz_ct (f_X11_seen (M27 178 13) M27) fun r28 M29 =>
    hz_ct (f_X11_in r28 (48 : Int32) (57 : Int32) M29) fun r31 M32 =>
    if r31 = 0 then
      some (0, M32)
    else
      hz_ct (f_X11_seen (M32 178 13) M32) fun r35 M36 =>
      hz_lm (hz_set M36 178 16 (if ((((10 : Int32) * (M32 178 16)) + r35) - (48 : Int32)) < (1000 : Int32) then ((((10 : Int32) * (M32 178 16)) + r35) - (48 : Int32)) else (1000 : Int32))) fun M38 =>
      hz_lm (hz_set M38 178 13 ((M38 178 13) + (1 : Int32))) fun M39 =>
      f_X11_goesOn_L137 n M39
def f_X11_goesOn_L85 : Nat → hz_M → hz_O
  | 0, _ => none
  | n + 1, M41 =>
    hz_ct (f_X11_seen (M41 178 13) M41) fun r42 M43 =>
    hz_ct (f_X11_in r42 (97 : Int32) (122 : Int32) M43) fun r45 M46 =>
    if r45 = 0 then
      some (0, M46)
    else
      hz_lm (hz_set M46 178 13 ((M46 178 13) + (1 : Int32))) fun M49 =>
      f_X11_goesOn_L85 n M49
def f_X11_goesOn_L0 (kk39 : hz_M → hz_O) : Nat → hz_M → hz_O
  | 0, _ => none
  | n + 1, M52 =>
    hz_ct (f_X11_seen (M52 178 13) M52) fun r53 M54 =>
    hz_jn (fun  (M56 : hz_M) =>
      hz_lm (hz_set M56 178 13 ((M56 178 13) + (1 : Int32))) fun M57 =>
      f_X11_goesOn_L0 kk39 n M57
      ) fun k58 =>
    if r53 = (32 : Int32) then
      k58 M54
    else
      hz_ct (f_X11_seen (M54 178 13) M54) fun r60 M61 =>
      if r60 = (10 : Int32) then
        k58 M61
      else
        kk39 M61
def f_X11_goesOn (M : hz_M) : hz_O :=
  hz_jn (fun  (M1 : hz_M) =>
    hz_lm (hz_set M1 178 14 (M1 178 13)) fun M2 =>
    hz_ct (f_X11_seen (M2 178 13) M2) fun r3 M4 =>
    if r3 = (-1 : Int32) then
      hz_lm (hz_set M4 178 15 (0 : Int32)) fun M50 =>
      some (0, M50)
    else
      hz_ct (f_X11_in r3 (97 : Int32) (122 : Int32) M4) fun r7 M8 =>
      if r7 = 0 then
        hz_ct (f_X11_in r3 (48 : Int32) (57 : Int32) M8) fun r11 M12 =>
        if r11 = 0 then
          hz_jn (fun (q15 : Int32) (M16 : hz_M) =>
            hz_lm (hz_set M16 178 15 q15) fun M17 =>
            hz_lm (hz_set M17 178 13 ((M17 178 13) + (1 : Int32))) fun M18 =>
            some (0, M18)
            ) fun k19 =>
          hz_jn (fun  (M20 : hz_M) =>
            k19 (3 : Int32) M20
            ) fun k21 =>
          if r3 = (59 : Int32) then
            k21 M12
          else
            if r3 = (40 : Int32) then
              k21 M12
            else
              if r3 = (41 : Int32) then
                k21 M12
              else
                k19 (4 : Int32) M12
        else
          hz_lm (hz_set M12 178 15 (2 : Int32)) fun M25 =>
          hz_lm (hz_set M25 178 16 (0 : Int32)) fun M26 =>
          f_X11_goesOn_L137 hz_FU M26
      else
        hz_lm (hz_set M8 178 15 (1 : Int32)) fun M40 =>
        f_X11_goesOn_L85 hz_FU M40
    ) fun k51 =>
  f_X11_goesOn_L0 k51 hz_FU M
set_option maxRecDepth 100000 in
set_option maxHeartbeats 4000000 in
theorem g_X11_goesOn_L137 {p : Program} {l : Launch} {e : Env} {s : State} {m : MethodId} {args : Array Value} {below : List Frame} {meth : Method} {c : Code} {w : hz_C} {N : Nat} (hN : 193 ≤ N) {rE : Int32} {ME : hz_M} (hO : hz_Ok p s m args meth c w cX11_goesOn 2 RX11 none) : ∀ (n : Nat)  (M27 : hz_M), f_X11_goesOn_L137 n M27 = some (rE, ME) → hz_G p l e 1 hz_z0 s m args below meth c w N 2 (MQ below (hz_Qv w N ME) args s 0 0 (hz_A w)) M27 137 [(0, .ref (hz_ad w 178))] [] := by
  intro n
  induction n with
  | zero =>
    intro M27 h
    rw [f_X11_goesOn_L137] at h
    cases h
  | succ n ih =>
    intro M27 h
    rw [f_X11_goesOn_L137] at h
    refine hz_aload_n hO dX11_goesOn_137 rfl 0 rfl ?_
    refine hz_aload_n hO dX11_goesOn_138 rfl 0 rfl ?_
    refine hz_getI (k := 13) hO hz_K_9 hz_sh_178 (hz_lt_178 hN) rfl (Nat.le_of_ble_eq_true rfl) tw_7_2 rfl dX11_goesOn_139 ?_
    obtain ⟨r28, M29, hq30, h⟩ := hz_ct_e h
    refine hz_callVi (as := [.int (M27 178 13)]) (rest := []) hO (c_X11_seen l w hN (M27 178 13) hq30) hz_cal_X11_seen hz_K_9 hz_sh_178 (hz_lt_178 hN) tw_6_167 (Nat.le_of_ble_eq_true rfl) rfl rfl (Nat.le_of_ble_eq_true rfl) dX11_goesOn_142 ?_
    refine hz_bipush (v := (48 : Int32)) hO dX11_goesOn_145 (by decide) ?_
    refine hz_bipush (v := (57 : Int32)) hO dX11_goesOn_147 (by decide) ?_
    obtain ⟨r31, M32, hq33, h⟩ := hz_ct_e h
    refine hz_callSi (as := [.int r28, .int (48 : Int32), .int (57 : Int32)]) (rest := []) hO (c_X11_in l w hN r28 (48 : Int32) (57 : Int32) hq33) hz_cal_X11_in tw_6_171 (Nat.le_of_ble_eq_true rfl) rfl rfl (Nat.le_of_ble_eq_true rfl) dX11_goesOn_149 ?_
    refine hz_if_eq (tgt := 234) hO dX11_goesOn_152 (by decide) (fun hc34 => ?_) (fun hc34 => ?_)
    · rw [if_pos hc34] at h
      exact hz_nameM (hz_some_e h).2.symm (hz_vret hO dX11_goesOn_234)
    · rw [if_neg hc34] at h
      refine hz_aload_n hO dX11_goesOn_155 rfl 0 rfl ?_
      refine hz_sipush (v := (1000 : Int32)) hO dX11_goesOn_156 (by decide) ?_
      refine hz_bipush (v := (10 : Int32)) hO dX11_goesOn_159 (by decide) ?_
      refine hz_aload_n hO dX11_goesOn_161 rfl 0 rfl ?_
      refine hz_getI (k := 16) hO hz_K_9 hz_sh_178 (hz_lt_178 hN) rfl (Nat.le_of_ble_eq_true rfl) tw_7_5 rfl dX11_goesOn_162 ?_
      refine hz_imul hO dX11_goesOn_165 ?_
      refine hz_aload_n hO dX11_goesOn_166 rfl 0 rfl ?_
      refine hz_aload_n hO dX11_goesOn_167 rfl 0 rfl ?_
      refine hz_getI (k := 13) hO hz_K_9 hz_sh_178 (hz_lt_178 hN) rfl (Nat.le_of_ble_eq_true rfl) tw_7_2 rfl dX11_goesOn_168 ?_
      obtain ⟨r35, M36, hq37, h⟩ := hz_ct_e h
      refine hz_callVi (as := [.int (M32 178 13)]) (rest := [.int ((10 : Int32) * (M32 178 16)), .int (1000 : Int32), .ref (hz_ad w 178)]) hO (c_X11_seen l w hN (M32 178 13) hq37) hz_cal_X11_seen hz_K_9 hz_sh_178 (hz_lt_178 hN) tw_6_167 (Nat.le_of_ble_eq_true rfl) rfl rfl (Nat.le_of_ble_eq_true rfl) dX11_goesOn_171 ?_
      refine hz_iadd hO dX11_goesOn_174 ?_
      refine hz_bipush (v := (48 : Int32)) hO dX11_goesOn_175 (by decide) ?_
      refine hz_isub hO dX11_goesOn_177 ?_
      refine hz_mmin hO tw_6_174 (Nat.le_of_ble_eq_true rfl) (Nat.le_of_ble_eq_true rfl) dX11_goesOn_178 ?_
      obtain ⟨M38, h_M38, h⟩ := hz_lm_e h
      refine hz_putI (k := 16) (ty := .int) hO hz_K_9 tyX11_ok nmX11 hz_sh_178 (hz_lt_178 hN) rfl (Nat.le_of_ble_eq_true rfl) tw_7_5 rfl rfl rfl rfl rfl dX11_goesOn_181 ?_
      refine hz_nameM h_M38 ?_
      refine hz_aload_n hO dX11_goesOn_184 rfl 0 rfl ?_
      refine hz_dup hO dX11_goesOn_185 rfl ?_
      refine hz_getI (k := 13) hO hz_K_9 hz_sh_178 (hz_lt_178 hN) rfl (Nat.le_of_ble_eq_true rfl) tw_7_2 rfl dX11_goesOn_186 ?_
      refine hz_iconst (v := (1 : Int32)) hO dX11_goesOn_189 (by decide) ?_
      refine hz_iadd hO dX11_goesOn_190 ?_
      obtain ⟨M39, h_M39, h⟩ := hz_lm_e h
      refine hz_putI (k := 13) (ty := .int) hO hz_K_9 tyX11_ok nmX11 hz_sh_178 (hz_lt_178 hN) rfl (Nat.le_of_ble_eq_true rfl) tw_7_2 rfl rfl rfl rfl rfl dX11_goesOn_191 ?_
      refine hz_nameM h_M39 ?_
      refine hz_goto (tgt := 137) hO dX11_goesOn_194 (by decide) ?_
      exact hz_ls [0] rfl (ih M39 h)
set_option maxRecDepth 100000 in
set_option maxHeartbeats 4000000 in
theorem g_X11_goesOn_L85 {p : Program} {l : Launch} {e : Env} {s : State} {m : MethodId} {args : Array Value} {below : List Frame} {meth : Method} {c : Code} {w : hz_C} {N : Nat} (hN : 193 ≤ N) {rE : Int32} {ME : hz_M} (hO : hz_Ok p s m args meth c w cX11_goesOn 2 RX11 none) : ∀ (n : Nat)  (M41 : hz_M), f_X11_goesOn_L85 n M41 = some (rE, ME) → hz_G p l e 1 hz_z0 s m args below meth c w N 2 (MQ below (hz_Qv w N ME) args s 0 0 (hz_A w)) M41 85 [(0, .ref (hz_ad w 178))] [] := by
  intro n
  induction n with
  | zero =>
    intro M41 h
    rw [f_X11_goesOn_L85] at h
    cases h
  | succ n ih =>
    intro M41 h
    rw [f_X11_goesOn_L85] at h
    refine hz_aload_n hO dX11_goesOn_85 rfl 0 rfl ?_
    refine hz_aload_n hO dX11_goesOn_86 rfl 0 rfl ?_
    refine hz_getI (k := 13) hO hz_K_9 hz_sh_178 (hz_lt_178 hN) rfl (Nat.le_of_ble_eq_true rfl) tw_7_2 rfl dX11_goesOn_87 ?_
    obtain ⟨r42, M43, hq44, h⟩ := hz_ct_e h
    refine hz_callVi (as := [.int (M41 178 13)]) (rest := []) hO (c_X11_seen l w hN (M41 178 13) hq44) hz_cal_X11_seen hz_K_9 hz_sh_178 (hz_lt_178 hN) tw_6_167 (Nat.le_of_ble_eq_true rfl) rfl rfl (Nat.le_of_ble_eq_true rfl) dX11_goesOn_90 ?_
    refine hz_bipush (v := (97 : Int32)) hO dX11_goesOn_93 (by decide) ?_
    refine hz_bipush (v := (122 : Int32)) hO dX11_goesOn_95 (by decide) ?_
    obtain ⟨r45, M46, hq47, h⟩ := hz_ct_e h
    refine hz_callSi (as := [.int r42, .int (97 : Int32), .int (122 : Int32)]) (rest := []) hO (c_X11_in l w hN r42 (97 : Int32) (122 : Int32) hq47) hz_cal_X11_in tw_6_171 (Nat.le_of_ble_eq_true rfl) rfl rfl (Nat.le_of_ble_eq_true rfl) dX11_goesOn_97 ?_
    refine hz_if_eq (tgt := 234) hO dX11_goesOn_100 (by decide) (fun hc48 => ?_) (fun hc48 => ?_)
    · rw [if_pos hc48] at h
      exact hz_nameM (hz_some_e h).2.symm (hz_vret hO dX11_goesOn_234)
    · rw [if_neg hc48] at h
      refine hz_aload_n hO dX11_goesOn_103 rfl 0 rfl ?_
      refine hz_dup hO dX11_goesOn_104 rfl ?_
      refine hz_getI (k := 13) hO hz_K_9 hz_sh_178 (hz_lt_178 hN) rfl (Nat.le_of_ble_eq_true rfl) tw_7_2 rfl dX11_goesOn_105 ?_
      refine hz_iconst (v := (1 : Int32)) hO dX11_goesOn_108 (by decide) ?_
      refine hz_iadd hO dX11_goesOn_109 ?_
      obtain ⟨M49, h_M49, h⟩ := hz_lm_e h
      refine hz_putI (k := 13) (ty := .int) hO hz_K_9 tyX11_ok nmX11 hz_sh_178 (hz_lt_178 hN) rfl (Nat.le_of_ble_eq_true rfl) tw_7_2 rfl rfl rfl rfl rfl dX11_goesOn_110 ?_
      refine hz_nameM h_M49 ?_
      refine hz_goto (tgt := 85) hO dX11_goesOn_113 (by decide) ?_
      exact hz_ls [0] rfl (ih M49 h)
set_option maxRecDepth 100000 in
set_option maxHeartbeats 4000000 in
theorem g_X11_goesOn_L0 {p : Program} {l : Launch} {e : Env} {s : State} {m : MethodId} {args : Array Value} {below : List Frame} {meth : Method} {c : Code} {w : hz_C} {N : Nat} (hN : 193 ≤ N) {rE : Int32} {ME : hz_M} (hO : hz_Ok p s m args meth c w cX11_goesOn 2 RX11 none) (kk39 : hz_M → hz_O) (gkk39 : ∀  (M : hz_M), kk39 M = some (rE, ME) → hz_G p l e 1 hz_z0 s m args below meth c w N 2 (MQ below (hz_Qv w N ME) args s 0 0 (hz_A w)) M 39 [(0, .ref (hz_ad w 178))] []) : ∀ (n : Nat)  (M52 : hz_M), f_X11_goesOn_L0 kk39 n M52 = some (rE, ME) → hz_G p l e 1 hz_z0 s m args below meth c w N 2 (MQ below (hz_Qv w N ME) args s 0 0 (hz_A w)) M52 0 [(0, .ref (hz_ad w 178))] [] := by
  intro n
  induction n with
  | zero =>
    intro M52 h
    rw [f_X11_goesOn_L0] at h
    cases h
  | succ n ih =>
    intro M52 h
    rw [f_X11_goesOn_L0] at h
    refine hz_aload_n hO dX11_goesOn_0 rfl 0 rfl ?_
    refine hz_aload_n hO dX11_goesOn_1 rfl 0 rfl ?_
    refine hz_getI (k := 13) hO hz_K_9 hz_sh_178 (hz_lt_178 hN) rfl (Nat.le_of_ble_eq_true rfl) tw_7_2 rfl dX11_goesOn_2 ?_
    obtain ⟨r53, M54, hq55, h⟩ := hz_ct_e h
    refine hz_callVi (as := [.int (M52 178 13)]) (rest := []) hO (c_X11_seen l w hN (M52 178 13) hq55) hz_cal_X11_seen hz_K_9 hz_sh_178 (hz_lt_178 hN) tw_6_167 (Nat.le_of_ble_eq_true rfl) rfl rfl (Nat.le_of_ble_eq_true rfl) dX11_goesOn_5 ?_
    refine hz_bipush (v := (32 : Int32)) hO dX11_goesOn_8 (by decide) ?_
    obtain ⟨k58, hk58, h⟩ := hz_jn_e h
    have gk58 : ∀  (M56 : hz_M), k58 M56 = some (rE, ME) → hz_G p l e 1 hz_z0 s m args below meth c w N 2 (MQ below (hz_Qv w N ME) args s 0 0 (hz_A w)) M56 26 [(0, .ref (hz_ad w 178))] [] := by
      intro M56 h
      rw [hk58] at h
      dsimp only at h
      refine hz_aload_n hO dX11_goesOn_26 rfl 0 rfl ?_
      refine hz_dup hO dX11_goesOn_27 rfl ?_
      refine hz_getI (k := 13) hO hz_K_9 hz_sh_178 (hz_lt_178 hN) rfl (Nat.le_of_ble_eq_true rfl) tw_7_2 rfl dX11_goesOn_28 ?_
      refine hz_iconst (v := (1 : Int32)) hO dX11_goesOn_31 (by decide) ?_
      refine hz_iadd hO dX11_goesOn_32 ?_
      obtain ⟨M57, h_M57, h⟩ := hz_lm_e h
      refine hz_putI (k := 13) (ty := .int) hO hz_K_9 tyX11_ok nmX11 hz_sh_178 (hz_lt_178 hN) rfl (Nat.le_of_ble_eq_true rfl) tw_7_2 rfl rfl rfl rfl rfl dX11_goesOn_33 ?_
      refine hz_nameM h_M57 ?_
      refine hz_goto (tgt := 0) hO dX11_goesOn_36 (by decide) ?_
      exact hz_ls [0] rfl (ih M57 h)
    clear hk58
    refine hz_icmp_eq (tgt := 26) hO dX11_goesOn_10 (by decide) (fun hc59 => ?_) (fun hc59 => ?_)
    · rw [if_pos hc59] at h
      exact hz_ls [0] rfl (gk58 M54 h)
    · rw [if_neg hc59] at h
      refine hz_aload_n hO dX11_goesOn_13 rfl 0 rfl ?_
      refine hz_aload_n hO dX11_goesOn_14 rfl 0 rfl ?_
      refine hz_getI (k := 13) hO hz_K_9 hz_sh_178 (hz_lt_178 hN) rfl (Nat.le_of_ble_eq_true rfl) tw_7_2 rfl dX11_goesOn_15 ?_
      obtain ⟨r60, M61, hq62, h⟩ := hz_ct_e h
      refine hz_callVi (as := [.int (M54 178 13)]) (rest := []) hO (c_X11_seen l w hN (M54 178 13) hq62) hz_cal_X11_seen hz_K_9 hz_sh_178 (hz_lt_178 hN) tw_6_167 (Nat.le_of_ble_eq_true rfl) rfl rfl (Nat.le_of_ble_eq_true rfl) dX11_goesOn_18 ?_
      refine hz_bipush (v := (10 : Int32)) hO dX11_goesOn_21 (by decide) ?_
      refine hz_icmp_ne (tgt := 39) hO dX11_goesOn_23 (by decide) (fun hc63 => ?_) (fun hc63 => ?_)
      · rw [if_neg hc63] at h
        exact hz_ls [0] rfl (gkk39 M61 h)
      · rw [if_pos hc63] at h
        exact hz_ls [0] rfl (gk58 M61 h)
set_option maxRecDepth 100000 in
set_option maxHeartbeats 4000000 in
theorem c_X11_goesOn (l : Launch) (w : hz_C) {N : Nat} (hN : 193 ≤ N) {M : hz_M} {rE : Int32} {ME : hz_M} (h : f_X11_goesOn M = some (rE, ME)) : hz_Ct l yX11_goesOn cX11_goesOn 2 none 1 w N [.ref (hz_ad w 178)] M (hz_Qv w N ME) := by
  refine hz_ofW (by decide) rfl (Nat.le_of_ble_eq_true rfl) tw_6_166 ?_
  intro p e s m args below meth c hO
  show hz_G p l e 1 hz_z0 s m args below meth c w N 2 _ M 0 [(0, .ref (hz_ad w 178))] []
  unfold f_X11_goesOn at h
  obtain ⟨k51, hk51, h⟩ := hz_jn_e h
  have gk51 : ∀  (M1 : hz_M), k51 M1 = some (rE, ME) → hz_G p l e 1 hz_z0 s m args below meth c w N 2 (MQ below (hz_Qv w N ME) args s 0 0 (hz_A w)) M1 39 [(0, .ref (hz_ad w 178))] [] := by
    intro M1 h
    rw [hk51] at h
    dsimp only at h
    refine hz_aload_n hO dX11_goesOn_39 rfl 0 rfl ?_
    refine hz_aload_n hO dX11_goesOn_40 rfl 0 rfl ?_
    refine hz_getI (k := 13) hO hz_K_9 hz_sh_178 (hz_lt_178 hN) rfl (Nat.le_of_ble_eq_true rfl) tw_7_2 rfl dX11_goesOn_41 ?_
    obtain ⟨M2, h_M2, h⟩ := hz_lm_e h
    refine hz_putI (k := 14) (ty := .int) hO hz_K_9 tyX11_ok nmX11 hz_sh_178 (hz_lt_178 hN) rfl (Nat.le_of_ble_eq_true rfl) tw_7_3 rfl rfl rfl rfl rfl dX11_goesOn_44 ?_
    refine hz_nameM h_M2 ?_
    refine hz_aload_n hO dX11_goesOn_47 rfl 0 rfl ?_
    refine hz_aload_n hO dX11_goesOn_48 rfl 0 rfl ?_
    refine hz_getI (k := 13) hO hz_K_9 hz_sh_178 (hz_lt_178 hN) rfl (Nat.le_of_ble_eq_true rfl) tw_7_2 rfl dX11_goesOn_49 ?_
    obtain ⟨r3, M4, hq5, h⟩ := hz_ct_e h
    refine hz_callVi (as := [.int (M2 178 13)]) (rest := []) hO (c_X11_seen l w hN (M2 178 13) hq5) hz_cal_X11_seen hz_K_9 hz_sh_178 (hz_lt_178 hN) tw_6_167 (Nat.le_of_ble_eq_true rfl) rfl rfl (Nat.le_of_ble_eq_true rfl) dX11_goesOn_52 ?_
    refine hz_istore_n (ls1 := [(1, .int r3), (0, .ref (hz_ad w 178))]) hO dX11_goesOn_55 rfl (Nat.le_of_ble_eq_true rfl) rfl ?_
    refine hz_iload_n hO dX11_goesOn_56 rfl 0 rfl ?_
    refine hz_iconst (v := (-1 : Int32)) hO dX11_goesOn_57 (by decide) ?_
    refine hz_icmp_ne (tgt := 69) hO dX11_goesOn_58 (by decide) (fun hc6 => ?_) (fun hc6 => ?_)
    · rw [if_neg hc6] at h
      refine hz_iload_n hO dX11_goesOn_69 rfl 0 rfl ?_
      refine hz_bipush (v := (97 : Int32)) hO dX11_goesOn_70 (by decide) ?_
      refine hz_bipush (v := (122 : Int32)) hO dX11_goesOn_72 (by decide) ?_
      obtain ⟨r7, M8, hq9, h⟩ := hz_ct_e h
      refine hz_callSi (as := [.int r3, .int (97 : Int32), .int (122 : Int32)]) (rest := []) hO (c_X11_in l w hN r3 (97 : Int32) (122 : Int32) hq9) hz_cal_X11_in tw_6_171 (Nat.le_of_ble_eq_true rfl) rfl rfl (Nat.le_of_ble_eq_true rfl) dX11_goesOn_74 ?_
      refine hz_if_eq (tgt := 116) hO dX11_goesOn_77 (by decide) (fun hc10 => ?_) (fun hc10 => ?_)
      · rw [if_pos hc10] at h
        refine hz_iload_n hO dX11_goesOn_116 rfl 0 rfl ?_
        refine hz_bipush (v := (48 : Int32)) hO dX11_goesOn_117 (by decide) ?_
        refine hz_bipush (v := (57 : Int32)) hO dX11_goesOn_119 (by decide) ?_
        obtain ⟨r11, M12, hq13, h⟩ := hz_ct_e h
        refine hz_callSi (as := [.int r3, .int (48 : Int32), .int (57 : Int32)]) (rest := []) hO (c_X11_in l w hN r3 (48 : Int32) (57 : Int32) hq13) hz_cal_X11_in tw_6_171 (Nat.le_of_ble_eq_true rfl) rfl rfl (Nat.le_of_ble_eq_true rfl) dX11_goesOn_121 ?_
        refine hz_if_eq (tgt := 197) hO dX11_goesOn_124 (by decide) (fun hc14 => ?_) (fun hc14 => ?_)
        · rw [if_pos hc14] at h
          refine hz_aload_n hO dX11_goesOn_197 rfl 1 rfl ?_
          refine hz_iload_n hO dX11_goesOn_198 rfl 0 rfl ?_
          refine hz_bipush (v := (59 : Int32)) hO dX11_goesOn_199 (by decide) ?_
          obtain ⟨k19, hk19, h⟩ := hz_jn_e h
          have gk19 : ∀ (q15 : Int32) (M16 : hz_M), k19 q15 M16 = some (rE, ME) → hz_G p l e 1 hz_z0 s m args below meth c w N 2 (MQ below (hz_Qv w N ME) args s 0 0 (hz_A w)) M16 221 [(0, .ref (hz_ad w 178))] [.int q15, .ref (hz_ad w 178)] := by
            intro q15 M16 h
            rw [hk19] at h
            dsimp only at h
            obtain ⟨M17, h_M17, h⟩ := hz_lm_e h
            refine hz_putI (k := 15) (ty := .int) hO hz_K_9 tyX11_ok nmX11 hz_sh_178 (hz_lt_178 hN) rfl (Nat.le_of_ble_eq_true rfl) tw_7_4 rfl rfl rfl rfl rfl dX11_goesOn_221 ?_
            refine hz_nameM h_M17 ?_
            refine hz_aload_n hO dX11_goesOn_224 rfl 0 rfl ?_
            refine hz_dup hO dX11_goesOn_225 rfl ?_
            refine hz_getI (k := 13) hO hz_K_9 hz_sh_178 (hz_lt_178 hN) rfl (Nat.le_of_ble_eq_true rfl) tw_7_2 rfl dX11_goesOn_226 ?_
            refine hz_iconst (v := (1 : Int32)) hO dX11_goesOn_229 (by decide) ?_
            refine hz_iadd hO dX11_goesOn_230 ?_
            obtain ⟨M18, h_M18, h⟩ := hz_lm_e h
            refine hz_putI (k := 13) (ty := .int) hO hz_K_9 tyX11_ok nmX11 hz_sh_178 (hz_lt_178 hN) rfl (Nat.le_of_ble_eq_true rfl) tw_7_2 rfl rfl rfl rfl rfl dX11_goesOn_231 ?_
            refine hz_nameM h_M18 ?_
            exact hz_nameM (hz_some_e h).2.symm (hz_vret hO dX11_goesOn_234)
          clear hk19
          obtain ⟨k21, hk21, h⟩ := hz_jn_e h
          have gk21 : ∀  (M20 : hz_M), k21 M20 = some (rE, ME) → hz_G p l e 1 hz_z0 s m args below meth c w N 2 (MQ below (hz_Qv w N ME) args s 0 0 (hz_A w)) M20 216 [(0, .ref (hz_ad w 178))] [.ref (hz_ad w 178)] := by
            intro M20 h
            rw [hk21] at h
            dsimp only at h
            refine hz_iconst (v := (3 : Int32)) hO dX11_goesOn_216 (by decide) ?_
            refine hz_goto (tgt := 221) hO dX11_goesOn_217 (by decide) ?_
            exact hz_ls [0] rfl (gk19 (3 : Int32) M20 h)
          clear hk21
          refine hz_icmp_eq (tgt := 216) hO dX11_goesOn_201 (by decide) (fun hc22 => ?_) (fun hc22 => ?_)
          · rw [if_pos hc22] at h
            exact hz_ls [1] rfl (gk21 M12 h)
          · rw [if_neg hc22] at h
            refine hz_iload_n hO dX11_goesOn_204 rfl 0 rfl ?_
            refine hz_bipush (v := (40 : Int32)) hO dX11_goesOn_205 (by decide) ?_
            refine hz_icmp_eq (tgt := 216) hO dX11_goesOn_207 (by decide) (fun hc23 => ?_) (fun hc23 => ?_)
            · rw [if_pos hc23] at h
              exact hz_ls [1] rfl (gk21 M12 h)
            · rw [if_neg hc23] at h
              refine hz_iload_n hO dX11_goesOn_210 rfl 0 rfl ?_
              refine hz_bipush (v := (41 : Int32)) hO dX11_goesOn_211 (by decide) ?_
              refine hz_icmp_ne (tgt := 220) hO dX11_goesOn_213 (by decide) (fun hc24 => ?_) (fun hc24 => ?_)
              · rw [if_neg hc24] at h
                refine hz_iconst (v := (4 : Int32)) hO dX11_goesOn_220 (by decide) ?_
                exact hz_ls [1] rfl (gk19 (4 : Int32) M12 h)
              · rw [if_pos hc24] at h
                exact hz_ls [1] rfl (gk21 M12 h)
        · rw [if_neg hc14] at h
          refine hz_aload_n hO dX11_goesOn_127 rfl 1 rfl ?_
          refine hz_iconst (v := (2 : Int32)) hO dX11_goesOn_128 (by decide) ?_
          obtain ⟨M25, h_M25, h⟩ := hz_lm_e h
          refine hz_putI (k := 15) (ty := .int) hO hz_K_9 tyX11_ok nmX11 hz_sh_178 (hz_lt_178 hN) rfl (Nat.le_of_ble_eq_true rfl) tw_7_4 rfl rfl rfl rfl rfl dX11_goesOn_129 ?_
          refine hz_nameM h_M25 ?_
          refine hz_aload_n hO dX11_goesOn_132 rfl 1 rfl ?_
          refine hz_iconst (v := (0 : Int32)) hO dX11_goesOn_133 (by decide) ?_
          obtain ⟨M26, h_M26, h⟩ := hz_lm_e h
          refine hz_putI (k := 16) (ty := .int) hO hz_K_9 tyX11_ok nmX11 hz_sh_178 (hz_lt_178 hN) rfl (Nat.le_of_ble_eq_true rfl) tw_7_5 rfl rfl rfl rfl rfl dX11_goesOn_134 ?_
          refine hz_nameM h_M26 ?_
          exact hz_ls [1] rfl (g_X11_goesOn_L137 hN hO _ M26 h)
      · rw [if_neg hc10] at h
        refine hz_aload_n hO dX11_goesOn_80 rfl 1 rfl ?_
        refine hz_iconst (v := (1 : Int32)) hO dX11_goesOn_81 (by decide) ?_
        obtain ⟨M40, h_M40, h⟩ := hz_lm_e h
        refine hz_putI (k := 15) (ty := .int) hO hz_K_9 tyX11_ok nmX11 hz_sh_178 (hz_lt_178 hN) rfl (Nat.le_of_ble_eq_true rfl) tw_7_4 rfl rfl rfl rfl rfl dX11_goesOn_82 ?_
        refine hz_nameM h_M40 ?_
        exact hz_ls [1] rfl (g_X11_goesOn_L85 hN hO _ M40 h)
    · rw [if_pos hc6] at h
      refine hz_aload_n hO dX11_goesOn_61 rfl 1 rfl ?_
      refine hz_iconst (v := (0 : Int32)) hO dX11_goesOn_62 (by decide) ?_
      obtain ⟨M50, h_M50, h⟩ := hz_lm_e h
      refine hz_putI (k := 15) (ty := .int) hO hz_K_9 tyX11_ok nmX11 hz_sh_178 (hz_lt_178 hN) rfl (Nat.le_of_ble_eq_true rfl) tw_7_4 rfl rfl rfl rfl rfl dX11_goesOn_63 ?_
      refine hz_nameM h_M50 ?_
      refine hz_goto (tgt := 234) hO dX11_goesOn_66 (by decide) ?_
      exact hz_nameM (hz_some_e h).2.symm (hz_vret hO dX11_goesOn_234)
  clear hk51
  exact hz_ls [0] rfl (g_X11_goesOn_L0 hN hO _ gk51 _ M h)
def f_X11_starts (M : hz_M) : hz_O :=
  hz_lm (hz_set M 178 13 (0 : Int32)) fun M1 =>
  hz_lm (hz_set M1 178 17 (0 : Int32)) fun M2 =>
  hz_lm (hz_set M2 178 12 (-1 : Int32)) fun M3 =>
  hz_ct (f_X11_goesOn M3) fun r4 M5 =>
  some (0, M5)
set_option maxRecDepth 100000 in
set_option maxHeartbeats 4000000 in
theorem c_X11_starts (l : Launch) (w : hz_C) {N : Nat} (hN : 193 ≤ N) {M : hz_M} {rE : Int32} {ME : hz_M} (h : f_X11_starts M = some (rE, ME)) : hz_Ct l yX11_starts cX11_starts 1 none 2 w N [.ref (hz_ad w 178)] M (hz_Qv w N ME) := by
  refine hz_ofW (by decide) rfl (Nat.le_of_ble_eq_true rfl) tw_6_162 ?_
  intro p e s m args below meth c hO
  show hz_G p l e 2 hz_z0 s m args below meth c w N 1 _ M 0 [(0, .ref (hz_ad w 178))] []
  unfold f_X11_starts at h
  refine hz_aload_n hO dX11_starts_0 rfl 0 rfl ?_
  refine hz_iconst (v := (0 : Int32)) hO dX11_starts_1 (by decide) ?_
  obtain ⟨M1, h_M1, h⟩ := hz_lm_e h
  refine hz_putI (k := 13) (ty := .int) hO hz_K_9 tyX11_ok nmX11 hz_sh_178 (hz_lt_178 hN) rfl (Nat.le_of_ble_eq_true rfl) tw_7_2 rfl rfl rfl rfl rfl dX11_starts_2 ?_
  refine hz_nameM h_M1 ?_
  refine hz_aload_n hO dX11_starts_5 rfl 0 rfl ?_
  refine hz_iconst (v := (0 : Int32)) hO dX11_starts_6 (by decide) ?_
  obtain ⟨M2, h_M2, h⟩ := hz_lm_e h
  refine hz_putI (k := 17) (ty := .int) hO hz_K_9 tyX11_ok nmX11 hz_sh_178 (hz_lt_178 hN) rfl (Nat.le_of_ble_eq_true rfl) tw_7_6 rfl rfl rfl rfl rfl dX11_starts_7 ?_
  refine hz_nameM h_M2 ?_
  refine hz_aload_n hO dX11_starts_10 rfl 0 rfl ?_
  refine hz_iconst (v := (-1 : Int32)) hO dX11_starts_11 (by decide) ?_
  obtain ⟨M3, h_M3, h⟩ := hz_lm_e h
  refine hz_putI (k := 12) (ty := .int) hO hz_K_9 tyX11_ok nmX11 hz_sh_178 (hz_lt_178 hN) rfl (Nat.le_of_ble_eq_true rfl) tw_7_1 rfl rfl rfl rfl rfl dX11_starts_12 ?_
  refine hz_nameM h_M3 ?_
  refine hz_aload_n hO dX11_starts_15 rfl 0 rfl ?_
  obtain ⟨r4, M5, hq6, h⟩ := hz_ct_e h
  refine hz_callVv (as := []) (rest := []) hO (c_X11_goesOn l w hN hq6) hz_cal_X11_goesOn hz_K_9 hz_sh_178 (hz_lt_178 hN) tw_6_163 (Nat.le_of_ble_eq_true rfl) rfl rfl (Nat.le_of_ble_eq_true rfl) dX11_starts_16 ?_
  exact hz_nameM (hz_some_e h).2.symm (hz_vret hO dX11_starts_19)
def f_X11_must (a1 : Int32) (a2 : Int32) (M : hz_M) : hz_O :=
  hz_jn (fun  (M1 : hz_M) =>
    if (M1 178 17) = 0 then
      some ((1 : Int32), M1)
    else
      some ((0 : Int32), M1)
    ) fun k3 =>
  if (M 178 17) = 0 then
    if a1 = 0 then
      hz_lm (hz_set M 178 17 a2) fun M6 =>
      hz_lm (hz_set M6 178 12 (M6 178 14)) fun M7 =>
      k3 M7
    else
      k3 M
  else
    k3 M
set_option maxRecDepth 100000 in
set_option maxHeartbeats 4000000 in
theorem c_X11_must (l : Launch) (w : hz_C) {N : Nat} (hN : 193 ≤ N) (a1 : Int32) (a2 : Int32) {M : hz_M} {rE : Int32} {ME : hz_M} (h : f_X11_must a1 a2 M = some (rE, ME)) : hz_Ct l yX11_must cX11_must 3 (some .boolean) 0 w N [.ref (hz_ad w 178), .int a1, .int a2] M (hz_Qi w N rE ME) := by
  refine hz_ofW (by decide) rfl (Nat.le_of_ble_eq_true rfl) tw_6_187 ?_
  intro p e s m args below meth c hO
  show hz_G p l e 0 hz_z0 s m args below meth c w N 3 _ M 0 [(0, .ref (hz_ad w 178)), (1, .int a1), (2, .int a2)] []
  unfold f_X11_must at h
  refine hz_aload_n hO dX11_must_0 rfl 0 rfl ?_
  refine hz_getI (k := 17) hO hz_K_9 hz_sh_178 (hz_lt_178 hN) rfl (Nat.le_of_ble_eq_true rfl) tw_7_6 rfl dX11_must_1 ?_
  obtain ⟨k3, hk3, h⟩ := hz_jn_e h
  have gk3 : ∀  (M1 : hz_M), k3 M1 = some (rE, ME) → hz_G p l e 0 hz_z0 s m args below meth c w N 3 (MQ below (hz_Qi w N rE ME) args s 0 0 (hz_A w)) M1 24 [(0, .ref (hz_ad w 178))] [] := by
    intro M1 h
    rw [hk3] at h
    dsimp only at h
    refine hz_aload_n hO dX11_must_24 rfl 0 rfl ?_
    refine hz_getI (k := 17) hO hz_K_9 hz_sh_178 (hz_lt_178 hN) rfl (Nat.le_of_ble_eq_true rfl) tw_7_6 rfl dX11_must_25 ?_
    refine hz_if_ne (tgt := 35) hO dX11_must_28 (by decide) (fun hc2 => ?_) (fun hc2 => ?_)
    · rw [if_neg hc2] at h
      refine hz_iconst (v := (0 : Int32)) hO dX11_must_35 (by decide) ?_
      exact hz_nameM (hz_some_e h).2.symm (hz_name (hz_some_e h).1.symm (hz_zret hO (by rw [← (hz_some_e h).1]; decide) dX11_must_36))
    · rw [if_pos hc2] at h
      refine hz_iconst (v := (1 : Int32)) hO dX11_must_31 (by decide) ?_
      refine hz_goto (tgt := 36) hO dX11_must_32 (by decide) ?_
      exact hz_nameM (hz_some_e h).2.symm (hz_name (hz_some_e h).1.symm (hz_zret hO (by rw [← (hz_some_e h).1]; decide) dX11_must_36))
  clear hk3
  refine hz_if_ne (tgt := 24) hO dX11_must_4 (by decide) (fun hc4 => ?_) (fun hc4 => ?_)
  · rw [if_neg hc4] at h
    exact hz_ls [0] rfl (gk3 M h)
  · rw [if_pos hc4] at h
    refine hz_iload_n hO dX11_must_7 rfl 1 rfl ?_
    refine hz_if_ne (tgt := 24) hO dX11_must_8 (by decide) (fun hc5 => ?_) (fun hc5 => ?_)
    · rw [if_neg hc5] at h
      exact hz_ls [0] rfl (gk3 M h)
    · rw [if_pos hc5] at h
      refine hz_aload_n hO dX11_must_11 rfl 0 rfl ?_
      refine hz_iload_n hO dX11_must_12 rfl 2 rfl ?_
      obtain ⟨M6, h_M6, h⟩ := hz_lm_e h
      refine hz_putI (k := 17) (ty := .int) hO hz_K_9 tyX11_ok nmX11 hz_sh_178 (hz_lt_178 hN) rfl (Nat.le_of_ble_eq_true rfl) tw_7_6 rfl rfl rfl rfl rfl dX11_must_13 ?_
      refine hz_nameM h_M6 ?_
      refine hz_aload_n hO dX11_must_16 rfl 0 rfl ?_
      refine hz_aload_n hO dX11_must_17 rfl 0 rfl ?_
      refine hz_getI (k := 14) hO hz_K_9 hz_sh_178 (hz_lt_178 hN) rfl (Nat.le_of_ble_eq_true rfl) tw_7_3 rfl dX11_must_18 ?_
      obtain ⟨M7, h_M7, h⟩ := hz_lm_e h
      refine hz_putI (k := 12) (ty := .int) hO hz_K_9 tyX11_ok nmX11 hz_sh_178 (hz_lt_178 hN) rfl (Nat.le_of_ble_eq_true rfl) tw_7_1 rfl rfl rfl rfl rfl dX11_must_21 ?_
      refine hz_nameM h_M7 ?_
      exact hz_ls [0] rfl (gk3 M7 h)
def f_X11_passes (M : hz_M) : hz_O :=
  if (M 178 17) = 0 then
    hz_ct (f_X11_goesOn M) fun r2 M3 =>
    some (0, M3)
  else
    some (0, M)
set_option maxRecDepth 100000 in
set_option maxHeartbeats 4000000 in
theorem c_X11_passes (l : Launch) (w : hz_C) {N : Nat} (hN : 193 ≤ N) {M : hz_M} {rE : Int32} {ME : hz_M} (h : f_X11_passes M = some (rE, ME)) : hz_Ct l yX11_passes cX11_passes 1 none 2 w N [.ref (hz_ad w 178)] M (hz_Qv w N ME) := by
  refine hz_ofW (by decide) rfl (Nat.le_of_ble_eq_true rfl) tw_6_191 ?_
  intro p e s m args below meth c hO
  show hz_G p l e 2 hz_z0 s m args below meth c w N 1 _ M 0 [(0, .ref (hz_ad w 178))] []
  unfold f_X11_passes at h
  refine hz_aload_n hO dX11_passes_0 rfl 0 rfl ?_
  refine hz_getI (k := 17) hO hz_K_9 hz_sh_178 (hz_lt_178 hN) rfl (Nat.le_of_ble_eq_true rfl) tw_7_6 rfl dX11_passes_1 ?_
  refine hz_if_ne (tgt := 11) hO dX11_passes_4 (by decide) (fun hc1 => ?_) (fun hc1 => ?_)
  · rw [if_neg hc1] at h
    exact hz_nameM (hz_some_e h).2.symm (hz_vret hO dX11_passes_11)
  · rw [if_pos hc1] at h
    refine hz_aload_n hO dX11_passes_7 rfl 0 rfl ?_
    obtain ⟨r2, M3, hq4, h⟩ := hz_ct_e h
    refine hz_callVv (as := []) (rest := []) hO (c_X11_goesOn l w hN hq4) hz_cal_X11_goesOn hz_K_9 hz_sh_178 (hz_lt_178 hN) tw_6_163 (Nat.le_of_ble_eq_true rfl) rfl rfl (Nat.le_of_ble_eq_true rfl) dX11_passes_8 ?_
    exact hz_nameM (hz_some_e h).2.symm (hz_vret hO dX11_passes_11)
def f_X11_isSign (a1 : Int32) (M : hz_M) : hz_O :=
  if (M 178 17) = 0 then
    if (M 178 15) = (3 : Int32) then
      hz_ct (f_X11_seen (M 178 14) M) fun r3 M4 =>
      if r3 = a1 then
        some ((1 : Int32), M4)
      else
        some ((0 : Int32), M4)
    else
      some ((0 : Int32), M)
  else
    some ((0 : Int32), M)
set_option maxRecDepth 100000 in
set_option maxHeartbeats 4000000 in
theorem c_X11_isSign (l : Launch) (w : hz_C) {N : Nat} (hN : 193 ≤ N) (a1 : Int32) {M : hz_M} {rE : Int32} {ME : hz_M} (h : f_X11_isSign a1 M = some (rE, ME)) : hz_Ct l yX11_isSign cX11_isSign 2 (some .boolean) 1 w N [.ref (hz_ad w 178), .int a1] M (hz_Qi w N rE ME) := by
  refine hz_ofW (by decide) rfl (Nat.le_of_ble_eq_true rfl) tw_6_199 ?_
  intro p e s m args below meth c hO
  show hz_G p l e 1 hz_z0 s m args below meth c w N 2 _ M 0 [(0, .ref (hz_ad w 178)), (1, .int a1)] []
  unfold f_X11_isSign at h
  refine hz_aload_n hO dX11_isSign_0 rfl 0 rfl ?_
  refine hz_getI (k := 17) hO hz_K_9 hz_sh_178 (hz_lt_178 hN) rfl (Nat.le_of_ble_eq_true rfl) tw_7_6 rfl dX11_isSign_1 ?_
  refine hz_if_ne (tgt := 31) hO dX11_isSign_4 (by decide) (fun hc1 => ?_) (fun hc1 => ?_)
  · rw [if_neg hc1] at h
    refine hz_iconst (v := (0 : Int32)) hO dX11_isSign_31 (by decide) ?_
    exact hz_nameM (hz_some_e h).2.symm (hz_name (hz_some_e h).1.symm (hz_zret hO (by rw [← (hz_some_e h).1]; decide) dX11_isSign_32))
  · rw [if_pos hc1] at h
    refine hz_aload_n hO dX11_isSign_7 rfl 0 rfl ?_
    refine hz_getI (k := 15) hO hz_K_9 hz_sh_178 (hz_lt_178 hN) rfl (Nat.le_of_ble_eq_true rfl) tw_7_4 rfl dX11_isSign_8 ?_
    refine hz_iconst (v := (3 : Int32)) hO dX11_isSign_11 (by decide) ?_
    refine hz_icmp_ne (tgt := 31) hO dX11_isSign_12 (by decide) (fun hc2 => ?_) (fun hc2 => ?_)
    · rw [if_neg hc2] at h
      refine hz_iconst (v := (0 : Int32)) hO dX11_isSign_31 (by decide) ?_
      exact hz_nameM (hz_some_e h).2.symm (hz_name (hz_some_e h).1.symm (hz_zret hO (by rw [← (hz_some_e h).1]; decide) dX11_isSign_32))
    · rw [if_pos hc2] at h
      refine hz_aload_n hO dX11_isSign_15 rfl 0 rfl ?_
      refine hz_aload_n hO dX11_isSign_16 rfl 0 rfl ?_
      refine hz_getI (k := 14) hO hz_K_9 hz_sh_178 (hz_lt_178 hN) rfl (Nat.le_of_ble_eq_true rfl) tw_7_3 rfl dX11_isSign_17 ?_
      obtain ⟨r3, M4, hq5, h⟩ := hz_ct_e h
      refine hz_callVi (as := [.int (M 178 14)]) (rest := []) hO (c_X11_seen l w hN (M 178 14) hq5) hz_cal_X11_seen hz_K_9 hz_sh_178 (hz_lt_178 hN) tw_6_167 (Nat.le_of_ble_eq_true rfl) rfl rfl (Nat.le_of_ble_eq_true rfl) dX11_isSign_20 ?_
      refine hz_iload_n hO dX11_isSign_23 rfl 1 rfl ?_
      refine hz_icmp_ne (tgt := 31) hO dX11_isSign_24 (by decide) (fun hc6 => ?_) (fun hc6 => ?_)
      · rw [if_neg hc6] at h
        refine hz_iconst (v := (0 : Int32)) hO dX11_isSign_31 (by decide) ?_
        exact hz_nameM (hz_some_e h).2.symm (hz_name (hz_some_e h).1.symm (hz_zret hO (by rw [← (hz_some_e h).1]; decide) dX11_isSign_32))
      · rw [if_pos hc6] at h
        refine hz_iconst (v := (1 : Int32)) hO dX11_isSign_27 (by decide) ?_
        refine hz_goto (tgt := 32) hO dX11_isSign_28 (by decide) ?_
        exact hz_nameM (hz_some_e h).2.symm (hz_name (hz_some_e h).1.symm (hz_zret hO (by rw [← (hz_some_e h).1]; decide) dX11_isSign_32))
def f_X11_takesSign (a1 : Int32) (M : hz_M) : hz_O :=
  hz_ct (f_X11_isSign a1 M) fun r1 M2 =>
  hz_ct (f_X11_must r1 (1 : Int32) M2) fun r4 M5 =>
  hz_ct (f_X11_passes M5) fun r7 M8 =>
  some (0, M8)
set_option maxRecDepth 100000 in
set_option maxHeartbeats 4000000 in
theorem c_X11_takesSign (l : Launch) (w : hz_C) {N : Nat} (hN : 193 ≤ N) (a1 : Int32) {M : hz_M} {rE : Int32} {ME : hz_M} (h : f_X11_takesSign a1 M = some (rE, ME)) : hz_Ct l yX11_takesSign cX11_takesSign 2 none 3 w N [.ref (hz_ad w 178), .int a1] M (hz_Qv w N ME) := by
  refine hz_ofW (by decide) rfl (Nat.le_of_ble_eq_true rfl) tw_7_128 ?_
  intro p e s m args below meth c hO
  show hz_G p l e 3 hz_z0 s m args below meth c w N 2 _ M 0 [(0, .ref (hz_ad w 178)), (1, .int a1)] []
  unfold f_X11_takesSign at h
  refine hz_aload_n hO dX11_takesSign_0 rfl 0 rfl ?_
  refine hz_aload_n hO dX11_takesSign_1 rfl 0 rfl ?_
  refine hz_iload_n hO dX11_takesSign_2 rfl 1 rfl ?_
  obtain ⟨r1, M2, hq3, h⟩ := hz_ct_e h
  refine hz_callVi (as := [.int a1]) (rest := [.ref (hz_ad w 178)]) hO (c_X11_isSign l w hN a1 hq3) hz_cal_X11_isSign hz_K_9 hz_sh_178 (hz_lt_178 hN) tw_6_196 (Nat.le_of_ble_eq_true rfl) rfl rfl (Nat.le_of_ble_eq_true rfl) dX11_takesSign_3 ?_
  refine hz_iconst (v := (1 : Int32)) hO dX11_takesSign_6 (by decide) ?_
  obtain ⟨r4, M5, hq6, h⟩ := hz_ct_e h
  refine hz_callVi (as := [.int r1, .int (1 : Int32)]) (rest := []) hO (c_X11_must l w hN r1 (1 : Int32) hq6) hz_cal_X11_must hz_K_9 hz_sh_178 (hz_lt_178 hN) tw_6_184 (Nat.le_of_ble_eq_true rfl) rfl rfl (Nat.le_of_ble_eq_true rfl) dX11_takesSign_7 ?_
  refine hz_pop hO dX11_takesSign_10 rfl ?_
  refine hz_aload_n hO dX11_takesSign_11 rfl 0 rfl ?_
  obtain ⟨r7, M8, hq9, h⟩ := hz_ct_e h
  refine hz_callVv (as := []) (rest := []) hO (c_X11_passes l w hN hq9) hz_cal_X11_passes hz_K_9 hz_sh_178 (hz_lt_178 hN) tw_6_188 (Nat.le_of_ble_eq_true rfl) rfl rfl (Nat.le_of_ble_eq_true rfl) dX11_takesSign_12 ?_
  exact hz_nameM (hz_some_e h).2.symm (hz_vret hO dX11_takesSign_15)
def f_X11_number (a1 : Int32) (a2 : Int32) (M : hz_M) : hz_O :=
  hz_jn (fun (v1_1 : Int32) (v2_2 : Int32) (q3 : Int32) (M4 : hz_M) =>
    hz_ct (f_X11_must q3 (1 : Int32) M4) fun r5 M6 =>
    hz_jn (fun  (M8 : hz_M) =>
      hz_lt ((M8 178 16)) fun x9 =>
      hz_ct (f_X11_passes M8) fun r10 M11 =>
      some (x9, M11)
      ) fun k13 =>
    if r5 = 0 then
      k13 M6
    else
      hz_ct (f_X11_in (M6 178 16) v1_1 v2_2 M6) fun r15 M16 =>
      hz_ct (f_X11_must r15 (2 : Int32) M16) fun r18 M19 =>
      k13 M19
    ) fun k21 =>
  if (M 178 15) = (2 : Int32) then
    k21 a1 a2 (1 : Int32) M
  else
    k21 a1 a2 (0 : Int32) M
set_option maxRecDepth 100000 in
set_option maxHeartbeats 4000000 in
theorem c_X11_number (l : Launch) (w : hz_C) {N : Nat} (hN : 193 ≤ N) (a1 : Int32) (a2 : Int32) {M : hz_M} {rE : Int32} {ME : hz_M} (h : f_X11_number a1 a2 M = some (rE, ME)) : hz_Ct l yX11_number cX11_number 4 (some .int) 3 w N [.ref (hz_ad w 178), .int a1, .int a2] M (hz_Qi w N rE ME) := by
  refine hz_ofW (by decide) rfl (Nat.le_of_ble_eq_true rfl) tw_6_195 ?_
  intro p e s m args below meth c hO
  show hz_G p l e 3 hz_z0 s m args below meth c w N 4 _ M 0 [(0, .ref (hz_ad w 178)), (1, .int a1), (2, .int a2)] []
  unfold f_X11_number at h
  refine hz_aload_n hO dX11_number_0 rfl 0 rfl ?_
  refine hz_aload_n hO dX11_number_1 rfl 0 rfl ?_
  refine hz_getI (k := 15) hO hz_K_9 hz_sh_178 (hz_lt_178 hN) rfl (Nat.le_of_ble_eq_true rfl) tw_7_4 rfl dX11_number_2 ?_
  refine hz_iconst (v := (2 : Int32)) hO dX11_number_5 (by decide) ?_
  obtain ⟨k21, hk21, h⟩ := hz_jn_e h
  have gk21 : ∀ (v1_1 : Int32) (v2_2 : Int32) (q3 : Int32) (M4 : hz_M), k21 v1_1 v2_2 q3 M4 = some (rE, ME) → hz_G p l e 3 hz_z0 s m args below meth c w N 4 (MQ below (hz_Qi w N rE ME) args s 0 0 (hz_A w)) M4 14 [(0, .ref (hz_ad w 178)), (1, .int v1_1), (2, .int v2_2)] [.int q3, .ref (hz_ad w 178)] := by
    intro v1_1 v2_2 q3 M4 h
    rw [hk21] at h
    dsimp only at h
    refine hz_iconst (v := (1 : Int32)) hO dX11_number_14 (by decide) ?_
    obtain ⟨r5, M6, hq7, h⟩ := hz_ct_e h
    refine hz_callVi (as := [.int q3, .int (1 : Int32)]) (rest := []) hO (c_X11_must l w hN q3 (1 : Int32) hq7) hz_cal_X11_must hz_K_9 hz_sh_178 (hz_lt_178 hN) tw_6_184 (Nat.le_of_ble_eq_true rfl) rfl rfl (Nat.le_of_ble_eq_true rfl) dX11_number_15 ?_
    obtain ⟨k13, hk13, h⟩ := hz_jn_e h
    have gk13 : ∀  (M8 : hz_M), k13 M8 = some (rE, ME) → hz_G p l e 3 hz_z0 s m args below meth c w N 4 (MQ below (hz_Qi w N rE ME) args s 0 0 (hz_A w)) M8 36 [(0, .ref (hz_ad w 178))] [] := by
      intro M8 h
      rw [hk13] at h
      dsimp only at h
      refine hz_aload_n hO dX11_number_36 rfl 0 rfl ?_
      refine hz_getI (k := 16) hO hz_K_9 hz_sh_178 (hz_lt_178 hN) rfl (Nat.le_of_ble_eq_true rfl) tw_7_5 rfl dX11_number_37 ?_
      obtain ⟨x9, h_x9, h⟩ := hz_lt_e h
      refine hz_name h_x9 ?_
      refine hz_istore_n (ls1 := [(3, .int x9), (0, .ref (hz_ad w 178))]) hO dX11_number_40 rfl (Nat.le_of_ble_eq_true rfl) rfl ?_
      refine hz_aload_n hO dX11_number_41 rfl 1 rfl ?_
      obtain ⟨r10, M11, hq12, h⟩ := hz_ct_e h
      refine hz_callVv (as := []) (rest := []) hO (c_X11_passes l w hN hq12) hz_cal_X11_passes hz_K_9 hz_sh_178 (hz_lt_178 hN) tw_6_188 (Nat.le_of_ble_eq_true rfl) rfl rfl (Nat.le_of_ble_eq_true rfl) dX11_number_42 ?_
      refine hz_iload_n hO dX11_number_45 rfl 0 rfl ?_
      exact hz_nameM (hz_some_e h).2.symm (hz_name (hz_some_e h).1.symm (hz_iret hO dX11_number_46))
    clear hk13
    refine hz_if_eq (tgt := 36) hO dX11_number_18 (by decide) (fun hc14 => ?_) (fun hc14 => ?_)
    · rw [if_pos hc14] at h
      exact hz_ls [0] rfl (gk13 M6 h)
    · rw [if_neg hc14] at h
      refine hz_aload_n hO dX11_number_21 rfl 0 rfl ?_
      refine hz_aload_n hO dX11_number_22 rfl 0 rfl ?_
      refine hz_getI (k := 16) hO hz_K_9 hz_sh_178 (hz_lt_178 hN) rfl (Nat.le_of_ble_eq_true rfl) tw_7_5 rfl dX11_number_23 ?_
      refine hz_iload_n hO dX11_number_26 rfl 1 rfl ?_
      refine hz_iload_n hO dX11_number_27 rfl 2 rfl ?_
      obtain ⟨r15, M16, hq17, h⟩ := hz_ct_e h
      refine hz_callSi (as := [.int (M6 178 16), .int v1_1, .int v2_2]) (rest := [.ref (hz_ad w 178)]) hO (c_X11_in l w hN (M6 178 16) v1_1 v2_2 hq17) hz_cal_X11_in tw_6_171 (Nat.le_of_ble_eq_true rfl) rfl rfl (Nat.le_of_ble_eq_true rfl) dX11_number_28 ?_
      refine hz_iconst (v := (2 : Int32)) hO dX11_number_31 (by decide) ?_
      obtain ⟨r18, M19, hq20, h⟩ := hz_ct_e h
      refine hz_callVi (as := [.int r15, .int (2 : Int32)]) (rest := []) hO (c_X11_must l w hN r15 (2 : Int32) hq20) hz_cal_X11_must hz_K_9 hz_sh_178 (hz_lt_178 hN) tw_6_184 (Nat.le_of_ble_eq_true rfl) rfl rfl (Nat.le_of_ble_eq_true rfl) dX11_number_32 ?_
      refine hz_pop hO dX11_number_35 rfl ?_
      exact hz_ls [0] rfl (gk13 M19 h)
  clear hk21
  refine hz_icmp_ne (tgt := 13) hO dX11_number_6 (by decide) (fun hc22 => ?_) (fun hc22 => ?_)
  · rw [if_neg hc22] at h
    refine hz_iconst (v := (0 : Int32)) hO dX11_number_13 (by decide) ?_
    exact hz_ls [0, 1, 2] rfl (gk21 a1 a2 (0 : Int32) M h)
  · rw [if_pos hc22] at h
    refine hz_iconst (v := (1 : Int32)) hO dX11_number_9 (by decide) ?_
    refine hz_goto (tgt := 14) hO dX11_number_10 (by decide) ?_
    exact hz_ls [0, 1, 2] rfl (gk21 a1 a2 (1 : Int32) M h)
def f_X11_packed_L5 : Nat → Int32 → Int32 → Int32 → Int32 → hz_M → hz_O
  | 0, _, _, _, _, _ => none
  | n + 1, v1_1, v2_2, v3_3, v4_4, M5 =>
    if v2_2 ≤ v4_4 then
      some (v3_3, M5)
    else
      hz_gd (hz_in (v1_1 + v4_4) 600) <|
      hz_lt (((((27 : Int32) * v3_3) + (M5 186 (Int32.toNatClampNeg (v1_1 + v4_4)))) - (96 : Int32))) fun x8 =>
      hz_lt (v4_4 + (1 : Int32)) fun x9 =>
      f_X11_packed_L5 n v1_1 v2_2 x8 x9 M5
def f_X11_packed (a1 : Int32) (a2 : Int32) (M : hz_M) : hz_O :=
  f_X11_packed_L5 hz_FU a1 a2 (0 : Int32) (0 : Int32) M
set_option maxRecDepth 100000 in
set_option maxHeartbeats 4000000 in
theorem g_X11_packed_L5 {p : Program} {l : Launch} {e : Env} {s : State} {m : MethodId} {args : Array Value} {below : List Frame} {meth : Method} {c : Code} {w : hz_C} {N : Nat} (hN : 193 ≤ N) {rE : Int32} {ME : hz_M} (hO : hz_Ok p s m args meth c w cX11_packed 5 RX11 (some .int)) : ∀ (n : Nat) (v1_1 : Int32) (v2_2 : Int32) (v3_3 : Int32) (v4_4 : Int32) (M5 : hz_M), f_X11_packed_L5 n v1_1 v2_2 v3_3 v4_4 M5 = some (rE, ME) → hz_G p l e 0 hz_z0 s m args below meth c w N 5 (MQ below (hz_Qi w N rE ME) args s 0 0 (hz_A w)) M5 5 [(0, .ref (hz_ad w 178)), (1, .int v1_1), (2, .int v2_2), (3, .int v3_3), (4, .int v4_4)] [] := by
  intro n
  induction n with
  | zero =>
    intro v1_1 v2_2 v3_3 v4_4 M5 h
    rw [f_X11_packed_L5] at h
    cases h
  | succ n ih =>
    intro v1_1 v2_2 v3_3 v4_4 M5 h
    rw [f_X11_packed_L5] at h
    refine hz_iload hO dX11_packed_5 4 rfl ?_
    refine hz_iload_n hO dX11_packed_7 rfl 2 rfl ?_
    refine hz_icmp_ge (tgt := 35) hO dX11_packed_8 (by decide) (fun hc6 => ?_) (fun hc6 => ?_)
    · rw [if_pos hc6] at h
      refine hz_iload_n hO dX11_packed_35 rfl 3 rfl ?_
      exact hz_nameM (hz_some_e h).2.symm (hz_name (hz_some_e h).1.symm (hz_iret hO dX11_packed_36))
    · rw [if_neg hc6] at h
      refine hz_bipush (v := (27 : Int32)) hO dX11_packed_11 (by decide) ?_
      refine hz_iload_n hO dX11_packed_13 rfl 3 rfl ?_
      refine hz_imul hO dX11_packed_14 ?_
      refine hz_aload_n hO dX11_packed_15 rfl 0 rfl ?_
      refine hz_getR (k := 10) hO 186 hz_K_9 hz_sh_178 (hz_lt_178 hN) rfl (Nat.le_of_ble_eq_true rfl) tw_6_239 rfl dX11_packed_16 ?_
      refine hz_iload_n hO dX11_packed_19 rfl 1 rfl ?_
      refine hz_iload hO dX11_packed_20 4 rfl ?_
      refine hz_iadd hO dX11_packed_22 ?_
      obtain ⟨hg7, h⟩ := hz_gd_e h
      refine hz_iald hO hz_sh_186 (hz_lt_186 hN) hg7 dX11_packed_23 ?_
      refine hz_iadd hO dX11_packed_24 ?_
      refine hz_bipush (v := (96 : Int32)) hO dX11_packed_25 (by decide) ?_
      refine hz_isub hO dX11_packed_27 ?_
      obtain ⟨x8, h_x8, h⟩ := hz_lt_e h
      refine hz_name h_x8 ?_
      refine hz_istore_n (ls1 := [(3, .int x8), (0, .ref (hz_ad w 178)), (1, .int v1_1), (2, .int v2_2), (4, .int v4_4)]) hO dX11_packed_28 rfl (Nat.le_of_ble_eq_true rfl) rfl ?_
      obtain ⟨x9, h_x9, h⟩ := hz_lt_e h
      refine hz_iinc (k := 4) (v := x9) (ls1 := [(4, .int x9), (3, .int x8), (0, .ref (hz_ad w 178)), (1, .int v1_1), (2, .int v2_2)]) hO dX11_packed_29 rfl (by rw [h_x9]; rfl) (Nat.le_of_ble_eq_true rfl) rfl ?_
      refine hz_goto (tgt := 5) hO dX11_packed_32 (by decide) ?_
      exact hz_ls [2, 3, 4, 1, 0] rfl (ih v1_1 v2_2 x8 x9 M5 h)
set_option maxRecDepth 100000 in
set_option maxHeartbeats 4000000 in
theorem c_X11_packed (l : Launch) (w : hz_C) {N : Nat} (hN : 193 ≤ N) (a1 : Int32) (a2 : Int32) {M : hz_M} {rE : Int32} {ME : hz_M} (h : f_X11_packed a1 a2 M = some (rE, ME)) : hz_Ct l yX11_packed cX11_packed 5 (some .int) 0 w N [.ref (hz_ad w 178), .int a1, .int a2] M (hz_Qi w N rE ME) := by
  refine hz_ofW (by decide) rfl (Nat.le_of_ble_eq_true rfl) tw_6_212 ?_
  intro p e s m args below meth c hO
  show hz_G p l e 0 hz_z0 s m args below meth c w N 5 _ M 0 [(0, .ref (hz_ad w 178)), (1, .int a1), (2, .int a2)] []
  unfold f_X11_packed at h
  refine hz_iconst (v := (0 : Int32)) hO dX11_packed_0 (by decide) ?_
  refine hz_istore_n (ls1 := [(3, .int (0 : Int32)), (0, .ref (hz_ad w 178)), (1, .int a1), (2, .int a2)]) hO dX11_packed_1 rfl (Nat.le_of_ble_eq_true rfl) rfl ?_
  refine hz_iconst (v := (0 : Int32)) hO dX11_packed_2 (by decide) ?_
  refine hz_istore (ls1 := [(4, .int (0 : Int32)), (3, .int (0 : Int32)), (0, .ref (hz_ad w 178)), (1, .int a1), (2, .int a2)]) hO dX11_packed_3 (Nat.le_of_ble_eq_true rfl) rfl ?_
  exact hz_ls [2, 3, 4, 1, 0] rfl (g_X11_packed_L5 hN hO _ a1 a2 (0 : Int32) (0 : Int32) M h)
def f_X11_named_L2 : Nat → Int32 → Int32 → hz_M → hz_O
  | 0, _, _, _ => none
  | n + 1, v1_1, v2_2, M3 =>
    if (M3 179 (Int32.toNatClampNeg (11 : Int32))) ≤ v2_2 then
      some ((-1 : Int32), M3)
    else
      hz_ct (f_X11_of v2_2 (0 : Int32) M3) fun r5 M6 =>
      if r5 = v1_1 then
        some (v2_2, M6)
      else
        hz_lt (v2_2 + (1 : Int32)) fun x9 =>
        f_X11_named_L2 n v1_1 x9 M6
def f_X11_named (a1 : Int32) (M : hz_M) : hz_O :=
  f_X11_named_L2 hz_FU a1 (0 : Int32) M
set_option maxRecDepth 100000 in
set_option maxHeartbeats 4000000 in
theorem g_X11_named_L2 {p : Program} {l : Launch} {e : Env} {s : State} {m : MethodId} {args : Array Value} {below : List Frame} {meth : Method} {c : Code} {w : hz_C} {N : Nat} (hN : 193 ≤ N) {rE : Int32} {ME : hz_M} (hO : hz_Ok p s m args meth c w cX11_named 3 RX11 (some .int)) : ∀ (n : Nat) (v1_1 : Int32) (v2_2 : Int32) (M3 : hz_M), f_X11_named_L2 n v1_1 v2_2 M3 = some (rE, ME) → hz_G p l e 1 hz_z0 s m args below meth c w N 3 (MQ below (hz_Qi w N rE ME) args s 0 0 (hz_A w)) M3 2 [(0, .ref (hz_ad w 178)), (1, .int v1_1), (2, .int v2_2)] [] := by
  intro n
  induction n with
  | zero =>
    intro v1_1 v2_2 M3 h
    rw [f_X11_named_L2] at h
    cases h
  | succ n ih =>
    intro v1_1 v2_2 M3 h
    rw [f_X11_named_L2] at h
    refine hz_iload_n hO dX11_named_2 rfl 2 rfl ?_
    refine hz_aload_n hO dX11_named_3 rfl 0 rfl ?_
    refine hz_getR (k := 0) hO 179 hz_K_9 hz_sh_178 (hz_lt_178 hN) rfl (Nat.le_of_ble_eq_true rfl) tw_6_229 rfl dX11_named_4 ?_
    refine hz_bipush (v := (11 : Int32)) hO dX11_named_7 (by decide) ?_
    refine hz_iald hO hz_sh_179 (hz_lt_179 hN) (by decide) dX11_named_9 ?_
    refine hz_icmp_ge (tgt := 31) hO dX11_named_10 (by decide) (fun hc4 => ?_) (fun hc4 => ?_)
    · rw [if_pos hc4] at h
      refine hz_iconst (v := (-1 : Int32)) hO dX11_named_31 (by decide) ?_
      exact hz_nameM (hz_some_e h).2.symm (hz_name (hz_some_e h).1.symm (hz_iret hO dX11_named_32))
    · rw [if_neg hc4] at h
      refine hz_aload_n hO dX11_named_13 rfl 0 rfl ?_
      refine hz_iload_n hO dX11_named_14 rfl 2 rfl ?_
      refine hz_iconst (v := (0 : Int32)) hO dX11_named_15 (by decide) ?_
      obtain ⟨r5, M6, hq7, h⟩ := hz_ct_e h
      refine hz_callVi (as := [.int v2_2, .int (0 : Int32)]) (rest := []) hO (c_X11_of l w hN v2_2 (0 : Int32) hq7) hz_cal_X11_of hz_K_9 hz_sh_178 (hz_lt_178 hN) tw_6_217 (Nat.le_of_ble_eq_true rfl) rfl rfl (Nat.le_of_ble_eq_true rfl) dX11_named_16 ?_
      refine hz_iload_n hO dX11_named_19 rfl 1 rfl ?_
      refine hz_icmp_ne (tgt := 25) hO dX11_named_20 (by decide) (fun hc8 => ?_) (fun hc8 => ?_)
      · rw [if_neg hc8] at h
        obtain ⟨x9, h_x9, h⟩ := hz_lt_e h
        refine hz_iinc (k := 2) (v := x9) (ls1 := [(2, .int x9), (0, .ref (hz_ad w 178)), (1, .int v1_1)]) hO dX11_named_25 rfl (by rw [h_x9]; rfl) (Nat.le_of_ble_eq_true rfl) rfl ?_
        refine hz_goto (tgt := 2) hO dX11_named_28 (by decide) ?_
        exact hz_ls [1, 2, 0] rfl (ih v1_1 x9 M6 h)
      · rw [if_pos hc8] at h
        refine hz_iload_n hO dX11_named_23 rfl 2 rfl ?_
        exact hz_nameM (hz_some_e h).2.symm (hz_name (hz_some_e h).1.symm (hz_iret hO dX11_named_24))
set_option maxRecDepth 100000 in
set_option maxHeartbeats 4000000 in
theorem c_X11_named (l : Launch) (w : hz_C) {N : Nat} (hN : 193 ≤ N) (a1 : Int32) {M : hz_M} {rE : Int32} {ME : hz_M} (h : f_X11_named a1 M = some (rE, ME)) : hz_Ct l yX11_named cX11_named 3 (some .int) 1 w N [.ref (hz_ad w 178), .int a1] M (hz_Qi w N rE ME) := by
  refine hz_ofW (by decide) rfl (Nat.le_of_ble_eq_true rfl) tw_6_216 ?_
  intro p e s m args below meth c hO
  show hz_G p l e 1 hz_z0 s m args below meth c w N 3 _ M 0 [(0, .ref (hz_ad w 178)), (1, .int a1)] []
  unfold f_X11_named at h
  refine hz_iconst (v := (0 : Int32)) hO dX11_named_0 (by decide) ?_
  refine hz_istore_n (ls1 := [(2, .int (0 : Int32)), (0, .ref (hz_ad w 178)), (1, .int a1)]) hO dX11_named_1 rfl (Nat.le_of_ble_eq_true rfl) rfl ?_
  exact hz_ls [1, 2, 0] rfl (g_X11_named_L2 hN hO _ a1 (0 : Int32) M h)
def f_X11_looksAtName (M : hz_M) : hz_O :=
  hz_jn (fun (q1 : Int32) (M2 : hz_M) =>
    hz_ct (f_X11_must q1 (1 : Int32) M2) fun r3 M4 =>
    hz_jn (fun  (M6 : hz_M) =>
      if (M6 178 17) = 0 then
        hz_ct (f_X11_packed (M6 178 14) ((M6 178 13) - (M6 178 14)) M6) fun r8 M9 =>
        some (r8, M9)
      else
        some ((0 : Int32), M6)
      ) fun k11 =>
    if r3 = 0 then
      k11 M4
    else
      hz_jn (fun (q13 : Int32) (M14 : hz_M) =>
        hz_ct (f_X11_must q13 (2 : Int32) M14) fun r15 M16 =>
        k11 M16
        ) fun k18 =>
      if (6 : Int32) < ((M4 178 13) - (M4 178 14)) then
        k18 (0 : Int32) M4
      else
        k18 (1 : Int32) M4
    ) fun k20 =>
  if (M 178 15) = (1 : Int32) then
    k20 (1 : Int32) M
  else
    k20 (0 : Int32) M
set_option maxRecDepth 100000 in
set_option maxHeartbeats 4000000 in
theorem c_X11_looksAtName (l : Launch) (w : hz_C) {N : Nat} (hN : 193 ≤ N) {M : hz_M} {rE : Int32} {ME : hz_M} (h : f_X11_looksAtName M = some (rE, ME)) : hz_Ct l yX11_looksAtName cX11_looksAtName 1 (some .int) 1 w N [.ref (hz_ad w 178)] M (hz_Qi w N rE ME) := by
  refine hz_ofW (by decide) rfl (Nat.le_of_ble_eq_true rfl) tw_6_208 ?_
  intro p e s m args below meth c hO
  show hz_G p l e 1 hz_z0 s m args below meth c w N 1 _ M 0 [(0, .ref (hz_ad w 178))] []
  unfold f_X11_looksAtName at h
  refine hz_aload_n hO dX11_looksAtName_0 rfl 0 rfl ?_
  refine hz_aload_n hO dX11_looksAtName_1 rfl 0 rfl ?_
  refine hz_getI (k := 15) hO hz_K_9 hz_sh_178 (hz_lt_178 hN) rfl (Nat.le_of_ble_eq_true rfl) tw_7_4 rfl dX11_looksAtName_2 ?_
  refine hz_iconst (v := (1 : Int32)) hO dX11_looksAtName_5 (by decide) ?_
  obtain ⟨k20, hk20, h⟩ := hz_jn_e h
  have gk20 : ∀ (q1 : Int32) (M2 : hz_M), k20 q1 M2 = some (rE, ME) → hz_G p l e 1 hz_z0 s m args below meth c w N 1 (MQ below (hz_Qi w N rE ME) args s 0 0 (hz_A w)) M2 14 [(0, .ref (hz_ad w 178))] [.int q1, .ref (hz_ad w 178)] := by
    intro q1 M2 h
    rw [hk20] at h
    dsimp only at h
    refine hz_iconst (v := (1 : Int32)) hO dX11_looksAtName_14 (by decide) ?_
    obtain ⟨r3, M4, hq5, h⟩ := hz_ct_e h
    refine hz_callVi (as := [.int q1, .int (1 : Int32)]) (rest := []) hO (c_X11_must l w hN q1 (1 : Int32) hq5) hz_cal_X11_must hz_K_9 hz_sh_178 (hz_lt_178 hN) tw_6_184 (Nat.le_of_ble_eq_true rfl) rfl rfl (Nat.le_of_ble_eq_true rfl) dX11_looksAtName_15 ?_
    obtain ⟨k11, hk11, h⟩ := hz_jn_e h
    have gk11 : ∀  (M6 : hz_M), k11 M6 = some (rE, ME) → hz_G p l e 1 hz_z0 s m args below meth c w N 1 (MQ below (hz_Qi w N rE ME) args s 0 0 (hz_A w)) M6 46 [(0, .ref (hz_ad w 178))] [] := by
      intro M6 h
      rw [hk11] at h
      dsimp only at h
      refine hz_aload_n hO dX11_looksAtName_46 rfl 0 rfl ?_
      refine hz_getI (k := 17) hO hz_K_9 hz_sh_178 (hz_lt_178 hN) rfl (Nat.le_of_ble_eq_true rfl) tw_7_6 rfl dX11_looksAtName_47 ?_
      refine hz_if_ne (tgt := 73) hO dX11_looksAtName_50 (by decide) (fun hc7 => ?_) (fun hc7 => ?_)
      · rw [if_neg hc7] at h
        refine hz_iconst (v := (0 : Int32)) hO dX11_looksAtName_73 (by decide) ?_
        exact hz_nameM (hz_some_e h).2.symm (hz_name (hz_some_e h).1.symm (hz_iret hO dX11_looksAtName_74))
      · rw [if_pos hc7] at h
        refine hz_aload_n hO dX11_looksAtName_53 rfl 0 rfl ?_
        refine hz_aload_n hO dX11_looksAtName_54 rfl 0 rfl ?_
        refine hz_getI (k := 14) hO hz_K_9 hz_sh_178 (hz_lt_178 hN) rfl (Nat.le_of_ble_eq_true rfl) tw_7_3 rfl dX11_looksAtName_55 ?_
        refine hz_aload_n hO dX11_looksAtName_58 rfl 0 rfl ?_
        refine hz_getI (k := 13) hO hz_K_9 hz_sh_178 (hz_lt_178 hN) rfl (Nat.le_of_ble_eq_true rfl) tw_7_2 rfl dX11_looksAtName_59 ?_
        refine hz_aload_n hO dX11_looksAtName_62 rfl 0 rfl ?_
        refine hz_getI (k := 14) hO hz_K_9 hz_sh_178 (hz_lt_178 hN) rfl (Nat.le_of_ble_eq_true rfl) tw_7_3 rfl dX11_looksAtName_63 ?_
        refine hz_isub hO dX11_looksAtName_66 ?_
        obtain ⟨r8, M9, hq10, h⟩ := hz_ct_e h
        refine hz_callVi (as := [.int (M6 178 14), .int ((M6 178 13) - (M6 178 14))]) (rest := []) hO (c_X11_packed l w hN (M6 178 14) ((M6 178 13) - (M6 178 14)) hq10) hz_cal_X11_packed hz_K_9 hz_sh_178 (hz_lt_178 hN) tw_6_209 (Nat.le_of_ble_eq_true rfl) rfl rfl (Nat.le_of_ble_eq_true rfl) dX11_looksAtName_67 ?_
        refine hz_goto (tgt := 74) hO dX11_looksAtName_70 (by decide) ?_
        exact hz_nameM (hz_some_e h).2.symm (hz_name (hz_some_e h).1.symm (hz_iret hO dX11_looksAtName_74))
    clear hk11
    refine hz_if_eq (tgt := 46) hO dX11_looksAtName_18 (by decide) (fun hc12 => ?_) (fun hc12 => ?_)
    · rw [if_pos hc12] at h
      exact hz_ls [0] rfl (gk11 M4 h)
    · rw [if_neg hc12] at h
      refine hz_aload_n hO dX11_looksAtName_21 rfl 0 rfl ?_
      refine hz_aload_n hO dX11_looksAtName_22 rfl 0 rfl ?_
      refine hz_getI (k := 13) hO hz_K_9 hz_sh_178 (hz_lt_178 hN) rfl (Nat.le_of_ble_eq_true rfl) tw_7_2 rfl dX11_looksAtName_23 ?_
      refine hz_aload_n hO dX11_looksAtName_26 rfl 0 rfl ?_
      refine hz_getI (k := 14) hO hz_K_9 hz_sh_178 (hz_lt_178 hN) rfl (Nat.le_of_ble_eq_true rfl) tw_7_3 rfl dX11_looksAtName_27 ?_
      refine hz_isub hO dX11_looksAtName_30 ?_
      refine hz_bipush (v := (6 : Int32)) hO dX11_looksAtName_31 (by decide) ?_
      obtain ⟨k18, hk18, h⟩ := hz_jn_e h
      have gk18 : ∀ (q13 : Int32) (M14 : hz_M), k18 q13 M14 = some (rE, ME) → hz_G p l e 1 hz_z0 s m args below meth c w N 1 (MQ below (hz_Qi w N rE ME) args s 0 0 (hz_A w)) M14 41 [(0, .ref (hz_ad w 178))] [.int q13, .ref (hz_ad w 178)] := by
        intro q13 M14 h
        rw [hk18] at h
        dsimp only at h
        refine hz_iconst (v := (2 : Int32)) hO dX11_looksAtName_41 (by decide) ?_
        obtain ⟨r15, M16, hq17, h⟩ := hz_ct_e h
        refine hz_callVi (as := [.int q13, .int (2 : Int32)]) (rest := []) hO (c_X11_must l w hN q13 (2 : Int32) hq17) hz_cal_X11_must hz_K_9 hz_sh_178 (hz_lt_178 hN) tw_6_184 (Nat.le_of_ble_eq_true rfl) rfl rfl (Nat.le_of_ble_eq_true rfl) dX11_looksAtName_42 ?_
        refine hz_pop hO dX11_looksAtName_45 rfl ?_
        exact hz_ls [0] rfl (gk11 M16 h)
      clear hk18
      refine hz_icmp_gt (tgt := 40) hO dX11_looksAtName_33 (by decide) (fun hc19 => ?_) (fun hc19 => ?_)
      · rw [if_pos hc19] at h
        refine hz_iconst (v := (0 : Int32)) hO dX11_looksAtName_40 (by decide) ?_
        exact hz_ls [0] rfl (gk18 (0 : Int32) M4 h)
      · rw [if_neg hc19] at h
        refine hz_iconst (v := (1 : Int32)) hO dX11_looksAtName_36 (by decide) ?_
        refine hz_goto (tgt := 41) hO dX11_looksAtName_37 (by decide) ?_
        exact hz_ls [0] rfl (gk18 (1 : Int32) M4 h)
  clear hk20
  refine hz_icmp_ne (tgt := 13) hO dX11_looksAtName_6 (by decide) (fun hc21 => ?_) (fun hc21 => ?_)
  · rw [if_neg hc21] at h
    refine hz_iconst (v := (0 : Int32)) hO dX11_looksAtName_13 (by decide) ?_
    exact hz_ls [0] rfl (gk20 (0 : Int32) M h)
  · rw [if_pos hc21] at h
    refine hz_iconst (v := (1 : Int32)) hO dX11_looksAtName_9 (by decide) ?_
    refine hz_goto (tgt := 14) hO dX11_looksAtName_10 (by decide) ?_
    exact hz_ls [0] rfl (gk20 (1 : Int32) M h)
def f_X11_takesName (M : hz_M) : hz_O :=
  hz_ct (f_X11_looksAtName M) fun r1 M2 =>
  hz_ct (f_X11_passes M2) fun r4 M5 =>
  some (r1, M5)
set_option maxRecDepth 100000 in
set_option maxHeartbeats 4000000 in
theorem c_X11_takesName (l : Launch) (w : hz_C) {N : Nat} (hN : 193 ≤ N) {M : hz_M} {rE : Int32} {ME : hz_M} (h : f_X11_takesName M = some (rE, ME)) : hz_Ct l yX11_takesName cX11_takesName 2 (some .int) 3 w N [.ref (hz_ad w 178)] M (hz_Qi w N rE ME) := by
  refine hz_ofW (by decide) rfl (Nat.le_of_ble_eq_true rfl) tw_7_136 ?_
  intro p e s m args below meth c hO
  show hz_G p l e 3 hz_z0 s m args below meth c w N 2 _ M 0 [(0, .ref (hz_ad w 178))] []
  unfold f_X11_takesName at h
  refine hz_aload_n hO dX11_takesName_0 rfl 0 rfl ?_
  obtain ⟨r1, M2, hq3, h⟩ := hz_ct_e h
  refine hz_callVi (as := []) (rest := []) hO (c_X11_looksAtName l w hN hq3) hz_cal_X11_looksAtName hz_K_9 hz_sh_178 (hz_lt_178 hN) tw_6_205 (Nat.le_of_ble_eq_true rfl) rfl rfl (Nat.le_of_ble_eq_true rfl) dX11_takesName_1 ?_
  refine hz_istore_n (ls1 := [(1, .int r1), (0, .ref (hz_ad w 178))]) hO dX11_takesName_4 rfl (Nat.le_of_ble_eq_true rfl) rfl ?_
  refine hz_aload_n hO dX11_takesName_5 rfl 1 rfl ?_
  obtain ⟨r4, M5, hq6, h⟩ := hz_ct_e h
  refine hz_callVv (as := []) (rest := []) hO (c_X11_passes l w hN hq6) hz_cal_X11_passes hz_K_9 hz_sh_178 (hz_lt_178 hN) tw_6_188 (Nat.le_of_ble_eq_true rfl) rfl rfl (Nat.le_of_ble_eq_true rfl) dX11_takesName_6 ?_
  refine hz_iload_n hO dX11_takesName_9 rfl 0 rfl ?_
  exact hz_nameM (hz_some_e h).2.symm (hz_name (hz_some_e h).1.symm (hz_iret hO dX11_takesName_10))
def f_X11_readsSingle (a1 : Int32) (M : hz_M) : hz_O :=
  hz_gd (hz_in a1 30) <|
  hz_lt ((M 187 (Int32.toNatClampNeg a1))) fun x2 =>
  if x2 = 7 then
    some (0, M)
  else
  if x2 = 8 then
    hz_ct (f_X11_number (0 : Int32) (3 : Int32) M) fun r5 M6 =>
    hz_gd (hz_in a1 30) <|
    hz_lm (hz_set M6 189 (Int32.toNatClampNeg a1) r5) fun M9 =>
    hz_ct (f_X11_number (0 : Int32) (9 : Int32) M9) fun r10 M11 =>
    hz_gd (hz_in a1 30) <|
    hz_lm (hz_set M11 190 (Int32.toNatClampNeg a1) r10) fun M14 =>
    some (0, M14)
  else
  if x2 = 9 then
    hz_ct (f_X11_number (1 : Int32) (60 : Int32) M) fun r16 M17 =>
    hz_gd (hz_in a1 30) <|
    hz_lm (hz_set M17 189 (Int32.toNatClampNeg a1) r16) fun M20 =>
    some (0, M20)
  else
  hz_ct (f_X11_takesName M) fun r21 M22 =>
  hz_gd (hz_in a1 30) <|
  hz_lm (hz_set M22 188 (Int32.toNatClampNeg a1) r21) fun M25 =>
  hz_gd (hz_in a1 30) <|
  hz_jn (fun (v1_27 : Int32) (M28 : hz_M) =>
    hz_gd (hz_in v1_27 30) <|
    hz_jn (fun (v1_30 : Int32) (M31 : hz_M) =>
      hz_ct (f_X11_number (0 : Int32) (15 : Int32) M31) fun r32 M33 =>
      hz_gd (hz_in v1_30 30) <|
      hz_lm (hz_set M33 189 (Int32.toNatClampNeg v1_30) r32) fun M36 =>
      some (0, M36)
      ) fun k37 =>
    if (M28 187 (Int32.toNatClampNeg v1_27)) = (3 : Int32) then
      k37 v1_27 M28
    else
      hz_gd (hz_in v1_27 30) <|
      if (M28 187 (Int32.toNatClampNeg v1_27)) = (4 : Int32) then
        k37 v1_27 M28
      else
        some (0, M28)
    ) fun k41 =>
  if (M25 187 (Int32.toNatClampNeg a1)) = (1 : Int32) then
    hz_ct (f_X11_number (1 : Int32) (6 : Int32) M25) fun r43 M44 =>
    hz_gd (hz_in a1 30) <|
    hz_lm (hz_set M44 189 (Int32.toNatClampNeg a1) r43) fun M47 =>
    k41 a1 M47
  else
    k41 a1 M25
set_option maxRecDepth 100000 in
set_option maxHeartbeats 4000000 in
theorem c_X11_readsSingle (l : Launch) (w : hz_C) {N : Nat} (hN : 193 ≤ N) (a1 : Int32) {M : hz_M} {rE : Int32} {ME : hz_M} (h : f_X11_readsSingle a1 M = some (rE, ME)) : hz_Ct l yX11_readsSingle cX11_readsSingle 2 none 4 w N [.ref (hz_ad w 178), .int a1] M (hz_Qv w N ME) := by
  refine hz_ofW (by decide) rfl (Nat.le_of_ble_eq_true rfl) tw_7_132 ?_
  intro p e s m args below meth c hO
  show hz_G p l e 4 hz_z0 s m args below meth c w N 2 _ M 0 [(0, .ref (hz_ad w 178)), (1, .int a1)] []
  unfold f_X11_readsSingle at h
  refine hz_aload_n hO dX11_readsSingle_0 rfl 0 rfl ?_
  refine hz_getR (k := 18) hO 187 hz_K_9 hz_sh_178 (hz_lt_178 hN) rfl (Nat.le_of_ble_eq_true rfl) tw_7_7 rfl dX11_readsSingle_1 ?_
  refine hz_iload_n hO dX11_readsSingle_4 rfl 1 rfl ?_
  obtain ⟨hg1, h⟩ := hz_gd_e h
  refine hz_iald hO hz_sh_187 (hz_lt_187 hN) hg1 dX11_readsSingle_5 ?_
  obtain ⟨x2, h_x2, h⟩ := hz_lt_e h
  refine hz_name h_x2 ?_
  by_cases hc3 : x2 = (7 : Int32)
  · rw [if_pos hc3] at h
    refine hz_tin (tgt := 32) hO hc3 dX11_readsSingle_6 (by decide) (by decide) rfl (by decide) ?_
    refine hz_goto (tgt := 145) hO dX11_readsSingle_32 (by decide) ?_
    exact hz_nameM (hz_some_e h).2.symm (hz_vret hO dX11_readsSingle_145)
  · rw [if_neg hc3] at h
    by_cases hc4 : x2 = (8 : Int32)
    · rw [if_pos hc4] at h
      refine hz_tin (tgt := 51) hO hc4 dX11_readsSingle_6 (by decide) (by decide) rfl (by decide) ?_
      refine hz_aload_n hO dX11_readsSingle_51 rfl 0 rfl ?_
      refine hz_getR (k := 20) hO 189 hz_K_9 hz_sh_178 (hz_lt_178 hN) rfl (Nat.le_of_ble_eq_true rfl) tw_7_9 rfl dX11_readsSingle_52 ?_
      refine hz_iload_n hO dX11_readsSingle_55 rfl 1 rfl ?_
      refine hz_aload_n hO dX11_readsSingle_56 rfl 0 rfl ?_
      refine hz_iconst (v := (0 : Int32)) hO dX11_readsSingle_57 (by decide) ?_
      refine hz_iconst (v := (3 : Int32)) hO dX11_readsSingle_58 (by decide) ?_
      obtain ⟨r5, M6, hq7, h⟩ := hz_ct_e h
      refine hz_callVi (as := [.int (0 : Int32), .int (3 : Int32)]) (rest := [.int a1, .ref (hz_ad w 189)]) hO (c_X11_number l w hN (0 : Int32) (3 : Int32) hq7) hz_cal_X11_number hz_K_9 hz_sh_178 (hz_lt_178 hN) tw_6_192 (Nat.le_of_ble_eq_true rfl) rfl rfl (Nat.le_of_ble_eq_true rfl) dX11_readsSingle_59 ?_
      obtain ⟨hg8, h⟩ := hz_gd_e h
      obtain ⟨M9, h_M9, h⟩ := hz_lm_e h
      refine hz_iast hO hz_sh_189 (hz_lt_189 hN) hg8 dX11_readsSingle_62 ?_
      refine hz_nameM h_M9 ?_
      refine hz_aload_n hO dX11_readsSingle_63 rfl 0 rfl ?_
      refine hz_getR (k := 21) hO 190 hz_K_9 hz_sh_178 (hz_lt_178 hN) rfl (Nat.le_of_ble_eq_true rfl) tw_7_10 rfl dX11_readsSingle_64 ?_
      refine hz_iload_n hO dX11_readsSingle_67 rfl 1 rfl ?_
      refine hz_aload_n hO dX11_readsSingle_68 rfl 0 rfl ?_
      refine hz_iconst (v := (0 : Int32)) hO dX11_readsSingle_69 (by decide) ?_
      refine hz_bipush (v := (9 : Int32)) hO dX11_readsSingle_70 (by decide) ?_
      obtain ⟨r10, M11, hq12, h⟩ := hz_ct_e h
      refine hz_callVi (as := [.int (0 : Int32), .int (9 : Int32)]) (rest := [.int a1, .ref (hz_ad w 190)]) hO (c_X11_number l w hN (0 : Int32) (9 : Int32) hq12) hz_cal_X11_number hz_K_9 hz_sh_178 (hz_lt_178 hN) tw_6_192 (Nat.le_of_ble_eq_true rfl) rfl rfl (Nat.le_of_ble_eq_true rfl) dX11_readsSingle_72 ?_
      obtain ⟨hg13, h⟩ := hz_gd_e h
      obtain ⟨M14, h_M14, h⟩ := hz_lm_e h
      refine hz_iast hO hz_sh_190 (hz_lt_190 hN) hg13 dX11_readsSingle_75 ?_
      refine hz_nameM h_M14 ?_
      refine hz_goto (tgt := 145) hO dX11_readsSingle_76 (by decide) ?_
      exact hz_nameM (hz_some_e h).2.symm (hz_vret hO dX11_readsSingle_145)
    · rw [if_neg hc4] at h
      by_cases hc15 : x2 = (9 : Int32)
      · rw [if_pos hc15] at h
        refine hz_tin (tgt := 35) hO hc15 dX11_readsSingle_6 (by decide) (by decide) rfl (by decide) ?_
        refine hz_aload_n hO dX11_readsSingle_35 rfl 0 rfl ?_
        refine hz_getR (k := 20) hO 189 hz_K_9 hz_sh_178 (hz_lt_178 hN) rfl (Nat.le_of_ble_eq_true rfl) tw_7_9 rfl dX11_readsSingle_36 ?_
        refine hz_iload_n hO dX11_readsSingle_39 rfl 1 rfl ?_
        refine hz_aload_n hO dX11_readsSingle_40 rfl 0 rfl ?_
        refine hz_iconst (v := (1 : Int32)) hO dX11_readsSingle_41 (by decide) ?_
        refine hz_bipush (v := (60 : Int32)) hO dX11_readsSingle_42 (by decide) ?_
        obtain ⟨r16, M17, hq18, h⟩ := hz_ct_e h
        refine hz_callVi (as := [.int (1 : Int32), .int (60 : Int32)]) (rest := [.int a1, .ref (hz_ad w 189)]) hO (c_X11_number l w hN (1 : Int32) (60 : Int32) hq18) hz_cal_X11_number hz_K_9 hz_sh_178 (hz_lt_178 hN) tw_6_192 (Nat.le_of_ble_eq_true rfl) rfl rfl (Nat.le_of_ble_eq_true rfl) dX11_readsSingle_44 ?_
        obtain ⟨hg19, h⟩ := hz_gd_e h
        obtain ⟨M20, h_M20, h⟩ := hz_lm_e h
        refine hz_iast hO hz_sh_189 (hz_lt_189 hN) hg19 dX11_readsSingle_47 ?_
        refine hz_nameM h_M20 ?_
        refine hz_goto (tgt := 145) hO dX11_readsSingle_48 (by decide) ?_
        exact hz_nameM (hz_some_e h).2.symm (hz_vret hO dX11_readsSingle_145)
      · rw [if_neg hc15] at h
        have hn7 : ¬ x2.toInt = 7 := lv_neT hc3 rfl
        have hn8 : ¬ x2.toInt = 8 := lv_neT hc4 rfl
        have hn9 : ¬ x2.toInt = 9 := lv_neT hc15 rfl
        refine hz_tout (tgt := 79) hO dX11_readsSingle_6 (by omega) (by decide) ?_
        refine hz_aload_n hO dX11_readsSingle_79 rfl 0 rfl ?_
        refine hz_getR (k := 19) hO 188 hz_K_9 hz_sh_178 (hz_lt_178 hN) rfl (Nat.le_of_ble_eq_true rfl) tw_7_8 rfl dX11_readsSingle_80 ?_
        refine hz_iload_n hO dX11_readsSingle_83 rfl 1 rfl ?_
        refine hz_aload_n hO dX11_readsSingle_84 rfl 0 rfl ?_
        obtain ⟨r21, M22, hq23, h⟩ := hz_ct_e h
        refine hz_callVi (as := []) (rest := [.int a1, .ref (hz_ad w 188)]) hO (c_X11_takesName l w hN hq23) hz_cal_X11_takesName hz_K_9 hz_sh_178 (hz_lt_178 hN) tw_7_133 (Nat.le_of_ble_eq_true rfl) rfl rfl (Nat.le_of_ble_eq_true rfl) dX11_readsSingle_85 ?_
        obtain ⟨hg24, h⟩ := hz_gd_e h
        obtain ⟨M25, h_M25, h⟩ := hz_lm_e h
        refine hz_iast hO hz_sh_188 (hz_lt_188 hN) hg24 dX11_readsSingle_88 ?_
        refine hz_nameM h_M25 ?_
        refine hz_aload_n hO dX11_readsSingle_89 rfl 0 rfl ?_
        refine hz_getR (k := 18) hO 187 hz_K_9 hz_sh_178 (hz_lt_178 hN) rfl (Nat.le_of_ble_eq_true rfl) tw_7_7 rfl dX11_readsSingle_90 ?_
        refine hz_iload_n hO dX11_readsSingle_93 rfl 1 rfl ?_
        obtain ⟨hg26, h⟩ := hz_gd_e h
        refine hz_iald hO hz_sh_187 (hz_lt_187 hN) hg26 dX11_readsSingle_94 ?_
        refine hz_iconst (v := (1 : Int32)) hO dX11_readsSingle_95 (by decide) ?_
        obtain ⟨k41, hk41, h⟩ := hz_jn_e h
        have gk41 : ∀ (v1_27 : Int32) (M28 : hz_M), k41 v1_27 M28 = some (rE, ME) → hz_G p l e 4 hz_z0 s m args below meth c w N 2 (MQ below (hz_Qv w N ME) args s 0 0 (hz_A w)) M28 112 [(0, .ref (hz_ad w 178)), (1, .int v1_27)] [] := by
          intro v1_27 M28 h
          rw [hk41] at h
          dsimp only at h
          refine hz_aload_n hO dX11_readsSingle_112 rfl 0 rfl ?_
          refine hz_getR (k := 18) hO 187 hz_K_9 hz_sh_178 (hz_lt_178 hN) rfl (Nat.le_of_ble_eq_true rfl) tw_7_7 rfl dX11_readsSingle_113 ?_
          refine hz_iload_n hO dX11_readsSingle_116 rfl 1 rfl ?_
          obtain ⟨hg29, h⟩ := hz_gd_e h
          refine hz_iald hO hz_sh_187 (hz_lt_187 hN) hg29 dX11_readsSingle_117 ?_
          refine hz_iconst (v := (3 : Int32)) hO dX11_readsSingle_118 (by decide) ?_
          obtain ⟨k37, hk37, h⟩ := hz_jn_e h
          have gk37 : ∀ (v1_30 : Int32) (M31 : hz_M), k37 v1_30 M31 = some (rE, ME) → hz_G p l e 4 hz_z0 s m args below meth c w N 2 (MQ below (hz_Qv w N ME) args s 0 0 (hz_A w)) M31 132 [(0, .ref (hz_ad w 178)), (1, .int v1_30)] [] := by
            intro v1_30 M31 h
            rw [hk37] at h
            dsimp only at h
            refine hz_aload_n hO dX11_readsSingle_132 rfl 0 rfl ?_
            refine hz_getR (k := 20) hO 189 hz_K_9 hz_sh_178 (hz_lt_178 hN) rfl (Nat.le_of_ble_eq_true rfl) tw_7_9 rfl dX11_readsSingle_133 ?_
            refine hz_iload_n hO dX11_readsSingle_136 rfl 1 rfl ?_
            refine hz_aload_n hO dX11_readsSingle_137 rfl 0 rfl ?_
            refine hz_iconst (v := (0 : Int32)) hO dX11_readsSingle_138 (by decide) ?_
            refine hz_bipush (v := (15 : Int32)) hO dX11_readsSingle_139 (by decide) ?_
            obtain ⟨r32, M33, hq34, h⟩ := hz_ct_e h
            refine hz_callVi (as := [.int (0 : Int32), .int (15 : Int32)]) (rest := [.int v1_30, .ref (hz_ad w 189)]) hO (c_X11_number l w hN (0 : Int32) (15 : Int32) hq34) hz_cal_X11_number hz_K_9 hz_sh_178 (hz_lt_178 hN) tw_6_192 (Nat.le_of_ble_eq_true rfl) rfl rfl (Nat.le_of_ble_eq_true rfl) dX11_readsSingle_141 ?_
            obtain ⟨hg35, h⟩ := hz_gd_e h
            obtain ⟨M36, h_M36, h⟩ := hz_lm_e h
            refine hz_iast hO hz_sh_189 (hz_lt_189 hN) hg35 dX11_readsSingle_144 ?_
            refine hz_nameM h_M36 ?_
            exact hz_nameM (hz_some_e h).2.symm (hz_vret hO dX11_readsSingle_145)
          clear hk37
          refine hz_icmp_eq (tgt := 132) hO dX11_readsSingle_119 (by decide) (fun hc38 => ?_) (fun hc38 => ?_)
          · rw [if_pos hc38] at h
            exact hz_ls [0, 1] rfl (gk37 v1_27 M28 h)
          · rw [if_neg hc38] at h
            refine hz_aload_n hO dX11_readsSingle_122 rfl 0 rfl ?_
            refine hz_getR (k := 18) hO 187 hz_K_9 hz_sh_178 (hz_lt_178 hN) rfl (Nat.le_of_ble_eq_true rfl) tw_7_7 rfl dX11_readsSingle_123 ?_
            refine hz_iload_n hO dX11_readsSingle_126 rfl 1 rfl ?_
            obtain ⟨hg39, h⟩ := hz_gd_e h
            refine hz_iald hO hz_sh_187 (hz_lt_187 hN) hg39 dX11_readsSingle_127 ?_
            refine hz_iconst (v := (4 : Int32)) hO dX11_readsSingle_128 (by decide) ?_
            refine hz_icmp_ne (tgt := 145) hO dX11_readsSingle_129 (by decide) (fun hc40 => ?_) (fun hc40 => ?_)
            · rw [if_neg hc40] at h
              exact hz_nameM (hz_some_e h).2.symm (hz_vret hO dX11_readsSingle_145)
            · rw [if_pos hc40] at h
              exact hz_ls [0, 1] rfl (gk37 v1_27 M28 h)
        clear hk41
        refine hz_icmp_ne (tgt := 112) hO dX11_readsSingle_96 (by decide) (fun hc42 => ?_) (fun hc42 => ?_)
        · rw [if_neg hc42] at h
          exact hz_ls [0, 1] rfl (gk41 a1 M25 h)
        · rw [if_pos hc42] at h
          refine hz_aload_n hO dX11_readsSingle_99 rfl 0 rfl ?_
          refine hz_getR (k := 20) hO 189 hz_K_9 hz_sh_178 (hz_lt_178 hN) rfl (Nat.le_of_ble_eq_true rfl) tw_7_9 rfl dX11_readsSingle_100 ?_
          refine hz_iload_n hO dX11_readsSingle_103 rfl 1 rfl ?_
          refine hz_aload_n hO dX11_readsSingle_104 rfl 0 rfl ?_
          refine hz_iconst (v := (1 : Int32)) hO dX11_readsSingle_105 (by decide) ?_
          refine hz_bipush (v := (6 : Int32)) hO dX11_readsSingle_106 (by decide) ?_
          obtain ⟨r43, M44, hq45, h⟩ := hz_ct_e h
          refine hz_callVi (as := [.int (1 : Int32), .int (6 : Int32)]) (rest := [.int a1, .ref (hz_ad w 189)]) hO (c_X11_number l w hN (1 : Int32) (6 : Int32) hq45) hz_cal_X11_number hz_K_9 hz_sh_178 (hz_lt_178 hN) tw_6_192 (Nat.le_of_ble_eq_true rfl) rfl rfl (Nat.le_of_ble_eq_true rfl) dX11_readsSingle_108 ?_
          obtain ⟨hg46, h⟩ := hz_gd_e h
          obtain ⟨M47, h_M47, h⟩ := hz_lm_e h
          refine hz_iast hO hz_sh_189 (hz_lt_189 hN) hg46 dX11_readsSingle_111 ?_
          refine hz_nameM h_M47 ?_
          exact hz_ls [0, 1] rfl (gk41 a1 M47 h)
def f_X11_freeLockers_L4 : Nat → Int32 → Int32 → hz_M → hz_O
  | 0, _, _, _ => none
  | n + 1, v1_1, v2_2, M3 =>
    if (M3 179 (Int32.toNatClampNeg (0 : Int32))) ≤ v2_2 then
      some (v1_1, M3)
    else
      hz_ct (f_X11_keeperOf v2_2 M3) fun r5 M6 =>
      hz_jn (fun (v1_8 : Int32) (v2_9 : Int32) (M10 : hz_M) =>
        hz_lt (v2_9 + (1 : Int32)) fun x11 =>
        f_X11_freeLockers_L4 n v1_8 x11 M10
        ) fun k12 =>
      if r5 = (-1 : Int32) then
        hz_lt (v1_1 + (1 : Int32)) fun x14 =>
        k12 x14 v2_2 M6
      else
        k12 v1_1 v2_2 M6
def f_X11_freeLockers (M : hz_M) : hz_O :=
  f_X11_freeLockers_L4 hz_FU (0 : Int32) (0 : Int32) M
set_option maxRecDepth 100000 in
set_option maxHeartbeats 4000000 in
theorem g_X11_freeLockers_L4 {p : Program} {l : Launch} {e : Env} {s : State} {m : MethodId} {args : Array Value} {below : List Frame} {meth : Method} {c : Code} {w : hz_C} {N : Nat} (hN : 193 ≤ N) {rE : Int32} {ME : hz_M} (hO : hz_Ok p s m args meth c w cX11_freeLockers 3 RX11 (some .int)) : ∀ (n : Nat) (v1_1 : Int32) (v2_2 : Int32) (M3 : hz_M), f_X11_freeLockers_L4 n v1_1 v2_2 M3 = some (rE, ME) → hz_G p l e 2 hz_z0 s m args below meth c w N 3 (MQ below (hz_Qi w N rE ME) args s 0 0 (hz_A w)) M3 4 [(0, .ref (hz_ad w 178)), (1, .int v1_1), (2, .int v2_2)] [] := by
  intro n
  induction n with
  | zero =>
    intro v1_1 v2_2 M3 h
    rw [f_X11_freeLockers_L4] at h
    cases h
  | succ n ih =>
    intro v1_1 v2_2 M3 h
    rw [f_X11_freeLockers_L4] at h
    refine hz_iload_n hO dX11_freeLockers_4 rfl 2 rfl ?_
    refine hz_aload_n hO dX11_freeLockers_5 rfl 0 rfl ?_
    refine hz_getR (k := 0) hO 179 hz_K_9 hz_sh_178 (hz_lt_178 hN) rfl (Nat.le_of_ble_eq_true rfl) tw_6_229 rfl dX11_freeLockers_6 ?_
    refine hz_iconst (v := (0 : Int32)) hO dX11_freeLockers_9 (by decide) ?_
    refine hz_iald hO hz_sh_179 (hz_lt_179 hN) (by decide) dX11_freeLockers_10 ?_
    refine hz_icmp_ge (tgt := 32) hO dX11_freeLockers_11 (by decide) (fun hc4 => ?_) (fun hc4 => ?_)
    · rw [if_pos hc4] at h
      refine hz_iload_n hO dX11_freeLockers_32 rfl 1 rfl ?_
      exact hz_nameM (hz_some_e h).2.symm (hz_name (hz_some_e h).1.symm (hz_iret hO dX11_freeLockers_33))
    · rw [if_neg hc4] at h
      refine hz_aload_n hO dX11_freeLockers_14 rfl 0 rfl ?_
      refine hz_iload_n hO dX11_freeLockers_15 rfl 2 rfl ?_
      obtain ⟨r5, M6, hq7, h⟩ := hz_ct_e h
      refine hz_callVi (as := [.int v2_2]) (rest := []) hO (c_X11_keeperOf l w hN v2_2 hq7) hz_cal_X11_keeperOf hz_K_9 hz_sh_178 (hz_lt_178 hN) tw_8_6 (Nat.le_of_ble_eq_true rfl) rfl rfl (Nat.le_of_ble_eq_true rfl) dX11_freeLockers_16 ?_
      refine hz_iconst (v := (-1 : Int32)) hO dX11_freeLockers_19 (by decide) ?_
      obtain ⟨k12, hk12, h⟩ := hz_jn_e h
      have gk12 : ∀ (v1_8 : Int32) (v2_9 : Int32) (M10 : hz_M), k12 v1_8 v2_9 M10 = some (rE, ME) → hz_G p l e 2 hz_z0 s m args below meth c w N 3 (MQ below (hz_Qi w N rE ME) args s 0 0 (hz_A w)) M10 26 [(0, .ref (hz_ad w 178)), (1, .int v1_8), (2, .int v2_9)] [] := by
        intro v1_8 v2_9 M10 h
        rw [hk12] at h
        dsimp only at h
        obtain ⟨x11, h_x11, h⟩ := hz_lt_e h
        refine hz_iinc (k := 2) (v := x11) (ls1 := [(2, .int x11), (0, .ref (hz_ad w 178)), (1, .int v1_8)]) hO dX11_freeLockers_26 rfl (by rw [h_x11]; rfl) (Nat.le_of_ble_eq_true rfl) rfl ?_
        refine hz_goto (tgt := 4) hO dX11_freeLockers_29 (by decide) ?_
        exact hz_ls [1, 2, 0] rfl (ih v1_8 x11 M10 h)
      clear hk12
      refine hz_icmp_ne (tgt := 26) hO dX11_freeLockers_20 (by decide) (fun hc13 => ?_) (fun hc13 => ?_)
      · rw [if_neg hc13] at h
        exact hz_ls [0, 1, 2] rfl (gk12 v1_1 v2_2 M6 h)
      · rw [if_pos hc13] at h
        obtain ⟨x14, h_x14, h⟩ := hz_lt_e h
        refine hz_iinc (k := 1) (v := x14) (ls1 := [(1, .int x14), (0, .ref (hz_ad w 178)), (2, .int v2_2)]) hO dX11_freeLockers_23 rfl (by rw [h_x14]; rfl) (Nat.le_of_ble_eq_true rfl) rfl ?_
        exact hz_ls [1, 0, 2] rfl (gk12 x14 v2_2 M6 h)
set_option maxRecDepth 100000 in
set_option maxHeartbeats 4000000 in
theorem c_X11_freeLockers (l : Launch) (w : hz_C) {N : Nat} (hN : 193 ≤ N) {M : hz_M} {rE : Int32} {ME : hz_M} (h : f_X11_freeLockers M = some (rE, ME)) : hz_Ct l yX11_freeLockers cX11_freeLockers 3 (some .int) 2 w N [.ref (hz_ad w 178)] M (hz_Qi w N rE ME) := by
  refine hz_ofW (by decide) rfl (Nat.le_of_ble_eq_true rfl) tw_8_97 ?_
  intro p e s m args below meth c hO
  show hz_G p l e 2 hz_z0 s m args below meth c w N 3 _ M 0 [(0, .ref (hz_ad w 178))] []
  unfold f_X11_freeLockers at h
  refine hz_iconst (v := (0 : Int32)) hO dX11_freeLockers_0 (by decide) ?_
  refine hz_istore_n (ls1 := [(1, .int (0 : Int32)), (0, .ref (hz_ad w 178))]) hO dX11_freeLockers_1 rfl (Nat.le_of_ble_eq_true rfl) rfl ?_
  refine hz_iconst (v := (0 : Int32)) hO dX11_freeLockers_2 (by decide) ?_
  refine hz_istore_n (ls1 := [(2, .int (0 : Int32)), (1, .int (0 : Int32)), (0, .ref (hz_ad w 178))]) hO dX11_freeLockers_3 rfl (Nat.le_of_ble_eq_true rfl) rfl ?_
  exact hz_ls [2, 1, 0] rfl (g_X11_freeLockers_L4 hN hO _ (0 : Int32) (0 : Int32) M h)
def f_X11_inside (M : hz_M) : hz_O :=
  hz_ct (f_X11_guestsOn (-1 : Int32) M) fun r1 M2 =>
  some (((M 179 (Int32.toNatClampNeg (11 : Int32))) - r1), M2)
set_option maxRecDepth 100000 in
set_option maxHeartbeats 4000000 in
theorem c_X11_inside (l : Launch) (w : hz_C) {N : Nat} (hN : 193 ≤ N) {M : hz_M} {rE : Int32} {ME : hz_M} (h : f_X11_inside M = some (rE, ME)) : hz_Ct l yX11_inside cX11_inside 1 (some .int) 2 w N [.ref (hz_ad w 178)] M (hz_Qi w N rE ME) := by
  refine hz_ofW (by decide) rfl (Nat.le_of_ble_eq_true rfl) tw_8_89 ?_
  intro p e s m args below meth c hO
  show hz_G p l e 2 hz_z0 s m args below meth c w N 1 _ M 0 [(0, .ref (hz_ad w 178))] []
  unfold f_X11_inside at h
  refine hz_aload_n hO dX11_inside_0 rfl 0 rfl ?_
  refine hz_getR (k := 0) hO 179 hz_K_9 hz_sh_178 (hz_lt_178 hN) rfl (Nat.le_of_ble_eq_true rfl) tw_6_229 rfl dX11_inside_1 ?_
  refine hz_bipush (v := (11 : Int32)) hO dX11_inside_4 (by decide) ?_
  refine hz_iald hO hz_sh_179 (hz_lt_179 hN) (by decide) dX11_inside_6 ?_
  refine hz_aload_n hO dX11_inside_7 rfl 0 rfl ?_
  refine hz_iconst (v := (-1 : Int32)) hO dX11_inside_8 (by decide) ?_
  obtain ⟨r1, M2, hq3, h⟩ := hz_ct_e h
  refine hz_callVi (as := [.int (-1 : Int32)]) (rest := [.int (M 179 (Int32.toNatClampNeg (11 : Int32)))]) hO (c_X11_guestsOn l w hN (-1 : Int32) hq3) hz_cal_X11_guestsOn hz_K_9 hz_sh_178 (hz_lt_178 hN) tw_7_222 (Nat.le_of_ble_eq_true rfl) rfl rfl (Nat.le_of_ble_eq_true rfl) dX11_inside_9 ?_
  refine hz_isub hO dX11_inside_12 ?_
  exact hz_nameM (hz_some_e h).2.symm (hz_name (hz_some_e h).1.symm (hz_iret hO dX11_inside_13))
def f_X11_size (a1 : Int32) (M : hz_M) : hz_O :=
  hz_lm (hz_set M 178 8 (0 : Int32)) fun M1 =>
  hz_ct (f_X11_in a1 (0 : Int32) (16 : Int32) M1) fun r2 M3 =>
  hz_ct (f_X11_right r2 M3) fun r5 M6 =>
  if r5 = 0 then
    some ((0 : Int32), M6)
  else
    hz_jn (fun (v1_9 : Int32) (M10 : hz_M) =>
      hz_gd (hz_in (v1_9 - (1 : Int32)) 185) <|
      some ((M10 179 (Int32.toNatClampNeg (v1_9 - (1 : Int32)))), M10)
      ) fun k12 =>
    if a1 = 0 then
      some ((M6 179 (Int32.toNatClampNeg (11 : Int32))), M6)
    else
    if a1 = 9 then
      some ((M6 179 (Int32.toNatClampNeg (8 : Int32))), M6)
    else
    if a1 = 10 then
      some ((M6 179 (Int32.toNatClampNeg (9 : Int32))), M6)
    else
    if a1 = 11 then
      hz_ct (f_X11_inside M6) fun r17 M18 =>
      some (r17, M18)
    else
    if a1 = 12 then
      hz_ct (f_X11_inside M6) fun r21 M22 =>
      hz_ct (f_X11_guestsOn (0 : Int32) M22) fun r24 M25 =>
      some ((r21 - r24), M25)
    else
    if a1 = 13 then
      hz_ct (f_X11_basket M6) fun r28 M29 =>
      some (r28, M29)
    else
    if a1 = 14 then
      hz_ct (f_X11_freeLockers M6) fun r32 M33 =>
      some (r32, M33)
    else
    if a1 = 15 then
      hz_ct (f_X11_isSilence M6) fun r36 M37 =>
      if r36 = 0 then
        some ((0 : Int32), M37)
      else
        some ((1 : Int32), M37)
    else
    if a1 = 16 then
      some ((M6 178 6), M6)
    else
    k12 a1 M6
set_option maxRecDepth 100000 in
set_option maxHeartbeats 4000000 in
theorem c_X11_size (l : Launch) (w : hz_C) {N : Nat} (hN : 193 ≤ N) (a1 : Int32) {M : hz_M} {rE : Int32} {ME : hz_M} (h : f_X11_size a1 M = some (rE, ME)) : hz_Ct l yX11_size cX11_size 2 (some .int) 4 w N [.ref (hz_ad w 178), .int a1] M (hz_Qi w N rE ME) := by
  refine hz_ofW (by decide) rfl (Nat.le_of_ble_eq_true rfl) tw_8_81 ?_
  intro p e s m args below meth c hO
  show hz_G p l e 4 hz_z0 s m args below meth c w N 2 _ M 0 [(0, .ref (hz_ad w 178)), (1, .int a1)] []
  unfold f_X11_size at h
  refine hz_aload_n hO dX11_size_0 rfl 0 rfl ?_
  refine hz_iconst (v := (0 : Int32)) hO dX11_size_1 (by decide) ?_
  obtain ⟨M1, h_M1, h⟩ := hz_lm_e h
  refine hz_putI (k := 8) (ty := .int) hO hz_K_9 tyX11_ok nmX11 hz_sh_178 (hz_lt_178 hN) rfl (Nat.le_of_ble_eq_true rfl) tw_6_237 rfl rfl rfl rfl rfl dX11_size_2 ?_
  refine hz_nameM h_M1 ?_
  refine hz_aload_n hO dX11_size_5 rfl 0 rfl ?_
  refine hz_iload_n hO dX11_size_6 rfl 1 rfl ?_
  refine hz_iconst (v := (0 : Int32)) hO dX11_size_7 (by decide) ?_
  refine hz_bipush (v := (16 : Int32)) hO dX11_size_8 (by decide) ?_
  obtain ⟨r2, M3, hq4, h⟩ := hz_ct_e h
  refine hz_callSi (as := [.int a1, .int (0 : Int32), .int (16 : Int32)]) (rest := [.ref (hz_ad w 178)]) hO (c_X11_in l w hN a1 (0 : Int32) (16 : Int32) hq4) hz_cal_X11_in tw_6_171 (Nat.le_of_ble_eq_true rfl) rfl rfl (Nat.le_of_ble_eq_true rfl) dX11_size_10 ?_
  obtain ⟨r5, M6, hq7, h⟩ := hz_ct_e h
  refine hz_callVi (as := [.int r2]) (rest := []) hO (c_X11_right l w hN r2 hq7) hz_cal_X11_right hz_K_9 hz_sh_178 (hz_lt_178 hN) tw_8_82 (Nat.le_of_ble_eq_true rfl) rfl rfl (Nat.le_of_ble_eq_true rfl) dX11_size_13 ?_
  refine hz_if_ne (tgt := 21) hO dX11_size_16 (by decide) (fun hc8 => ?_) (fun hc8 => ?_)
  · rw [if_neg hc8] at h
    refine hz_iload_n hO dX11_size_21 rfl 1 rfl ?_
    obtain ⟨k12, hk12, h⟩ := hz_jn_e h
    have gk12 : ∀ (v1_9 : Int32) (M10 : hz_M), k12 v1_9 M10 = some (rE, ME) → hz_G p l e 4 hz_z0 s m args below meth c w N 2 (MQ below (hz_Qi w N rE ME) args s 0 0 (hz_A w)) M10 172 [(0, .ref (hz_ad w 178)), (1, .int v1_9)] [] := by
      intro v1_9 M10 h
      rw [hk12] at h
      dsimp only at h
      refine hz_aload_n hO dX11_size_172 rfl 0 rfl ?_
      refine hz_getR (k := 0) hO 179 hz_K_9 hz_sh_178 (hz_lt_178 hN) rfl (Nat.le_of_ble_eq_true rfl) tw_6_229 rfl dX11_size_173 ?_
      refine hz_iload_n hO dX11_size_176 rfl 1 rfl ?_
      refine hz_iconst (v := (1 : Int32)) hO dX11_size_177 (by decide) ?_
      refine hz_isub hO dX11_size_178 ?_
      obtain ⟨hg11, h⟩ := hz_gd_e h
      refine hz_iald hO hz_sh_179 (hz_lt_179 hN) hg11 dX11_size_179 ?_
      exact hz_nameM (hz_some_e h).2.symm (hz_name (hz_some_e h).1.symm (hz_iret hO dX11_size_180))
    clear hk12
    by_cases hc13 : a1 = (0 : Int32)
    · rw [if_pos hc13] at h
      refine hz_tin (tgt := 104) hO hc13 dX11_size_22 (by decide) (by decide) rfl (by decide) ?_
      refine hz_aload_n hO dX11_size_104 rfl 0 rfl ?_
      refine hz_getR (k := 0) hO 179 hz_K_9 hz_sh_178 (hz_lt_178 hN) rfl (Nat.le_of_ble_eq_true rfl) tw_6_229 rfl dX11_size_105 ?_
      refine hz_bipush (v := (11 : Int32)) hO dX11_size_108 (by decide) ?_
      refine hz_iald hO hz_sh_179 (hz_lt_179 hN) (by decide) dX11_size_110 ?_
      exact hz_nameM (hz_some_e h).2.symm (hz_name (hz_some_e h).1.symm (hz_iret hO dX11_size_111))
    · rw [if_neg hc13] at h
      by_cases hc14 : a1 = (9 : Int32)
      · rw [if_pos hc14] at h
        refine hz_tin (tgt := 112) hO hc14 dX11_size_22 (by decide) (by decide) rfl (by decide) ?_
        refine hz_aload_n hO dX11_size_112 rfl 0 rfl ?_
        refine hz_getR (k := 0) hO 179 hz_K_9 hz_sh_178 (hz_lt_178 hN) rfl (Nat.le_of_ble_eq_true rfl) tw_6_229 rfl dX11_size_113 ?_
        refine hz_bipush (v := (8 : Int32)) hO dX11_size_116 (by decide) ?_
        refine hz_iald hO hz_sh_179 (hz_lt_179 hN) (by decide) dX11_size_118 ?_
        exact hz_nameM (hz_some_e h).2.symm (hz_name (hz_some_e h).1.symm (hz_iret hO dX11_size_119))
      · rw [if_neg hc14] at h
        by_cases hc15 : a1 = (10 : Int32)
        · rw [if_pos hc15] at h
          refine hz_tin (tgt := 120) hO hc15 dX11_size_22 (by decide) (by decide) rfl (by decide) ?_
          refine hz_aload_n hO dX11_size_120 rfl 0 rfl ?_
          refine hz_getR (k := 0) hO 179 hz_K_9 hz_sh_178 (hz_lt_178 hN) rfl (Nat.le_of_ble_eq_true rfl) tw_6_229 rfl dX11_size_121 ?_
          refine hz_bipush (v := (9 : Int32)) hO dX11_size_124 (by decide) ?_
          refine hz_iald hO hz_sh_179 (hz_lt_179 hN) (by decide) dX11_size_126 ?_
          exact hz_nameM (hz_some_e h).2.symm (hz_name (hz_some_e h).1.symm (hz_iret hO dX11_size_127))
        · rw [if_neg hc15] at h
          by_cases hc16 : a1 = (11 : Int32)
          · rw [if_pos hc16] at h
            refine hz_tin (tgt := 128) hO hc16 dX11_size_22 (by decide) (by decide) rfl (by decide) ?_
            refine hz_aload_n hO dX11_size_128 rfl 0 rfl ?_
            obtain ⟨r17, M18, hq19, h⟩ := hz_ct_e h
            refine hz_callVi (as := []) (rest := []) hO (c_X11_inside l w hN hq19) hz_cal_X11_inside hz_K_9 hz_sh_178 (hz_lt_178 hN) tw_8_86 (Nat.le_of_ble_eq_true rfl) rfl rfl (Nat.le_of_ble_eq_true rfl) dX11_size_129 ?_
            exact hz_nameM (hz_some_e h).2.symm (hz_name (hz_some_e h).1.symm (hz_iret hO dX11_size_132))
          · rw [if_neg hc16] at h
            by_cases hc20 : a1 = (12 : Int32)
            · rw [if_pos hc20] at h
              refine hz_tin (tgt := 133) hO hc20 dX11_size_22 (by decide) (by decide) rfl (by decide) ?_
              refine hz_aload_n hO dX11_size_133 rfl 0 rfl ?_
              obtain ⟨r21, M22, hq23, h⟩ := hz_ct_e h
              refine hz_callVi (as := []) (rest := []) hO (c_X11_inside l w hN hq23) hz_cal_X11_inside hz_K_9 hz_sh_178 (hz_lt_178 hN) tw_8_86 (Nat.le_of_ble_eq_true rfl) rfl rfl (Nat.le_of_ble_eq_true rfl) dX11_size_134 ?_
              refine hz_aload_n hO dX11_size_137 rfl 0 rfl ?_
              refine hz_iconst (v := (0 : Int32)) hO dX11_size_138 (by decide) ?_
              obtain ⟨r24, M25, hq26, h⟩ := hz_ct_e h
              refine hz_callVi (as := [.int (0 : Int32)]) (rest := [.int r21]) hO (c_X11_guestsOn l w hN (0 : Int32) hq26) hz_cal_X11_guestsOn hz_K_9 hz_sh_178 (hz_lt_178 hN) tw_7_222 (Nat.le_of_ble_eq_true rfl) rfl rfl (Nat.le_of_ble_eq_true rfl) dX11_size_139 ?_
              refine hz_isub hO dX11_size_142 ?_
              exact hz_nameM (hz_some_e h).2.symm (hz_name (hz_some_e h).1.symm (hz_iret hO dX11_size_143))
            · rw [if_neg hc20] at h
              by_cases hc27 : a1 = (13 : Int32)
              · rw [if_pos hc27] at h
                refine hz_tin (tgt := 144) hO hc27 dX11_size_22 (by decide) (by decide) rfl (by decide) ?_
                refine hz_aload_n hO dX11_size_144 rfl 0 rfl ?_
                obtain ⟨r28, M29, hq30, h⟩ := hz_ct_e h
                refine hz_callVi (as := []) (rest := []) hO (c_X11_basket l w hN hq30) hz_cal_X11_basket hz_K_9 hz_sh_178 (hz_lt_178 hN) tw_8_90 (Nat.le_of_ble_eq_true rfl) rfl rfl (Nat.le_of_ble_eq_true rfl) dX11_size_145 ?_
                exact hz_nameM (hz_some_e h).2.symm (hz_name (hz_some_e h).1.symm (hz_iret hO dX11_size_148))
              · rw [if_neg hc27] at h
                by_cases hc31 : a1 = (14 : Int32)
                · rw [if_pos hc31] at h
                  refine hz_tin (tgt := 149) hO hc31 dX11_size_22 (by decide) (by decide) rfl (by decide) ?_
                  refine hz_aload_n hO dX11_size_149 rfl 0 rfl ?_
                  obtain ⟨r32, M33, hq34, h⟩ := hz_ct_e h
                  refine hz_callVi (as := []) (rest := []) hO (c_X11_freeLockers l w hN hq34) hz_cal_X11_freeLockers hz_K_9 hz_sh_178 (hz_lt_178 hN) tw_8_94 (Nat.le_of_ble_eq_true rfl) rfl rfl (Nat.le_of_ble_eq_true rfl) dX11_size_150 ?_
                  exact hz_nameM (hz_some_e h).2.symm (hz_name (hz_some_e h).1.symm (hz_iret hO dX11_size_153))
                · rw [if_neg hc31] at h
                  by_cases hc35 : a1 = (15 : Int32)
                  · rw [if_pos hc35] at h
                    refine hz_tin (tgt := 154) hO hc35 dX11_size_22 (by decide) (by decide) rfl (by decide) ?_
                    refine hz_aload_n hO dX11_size_154 rfl 0 rfl ?_
                    obtain ⟨r36, M37, hq38, h⟩ := hz_ct_e h
                    refine hz_callVi (as := []) (rest := []) hO (c_X11_isSilence l w hN hq38) hz_cal_X11_isSilence hz_K_9 hz_sh_178 (hz_lt_178 hN) tw_8_74 (Nat.le_of_ble_eq_true rfl) rfl rfl (Nat.le_of_ble_eq_true rfl) dX11_size_155 ?_
                    refine hz_if_eq (tgt := 165) hO dX11_size_158 (by decide) (fun hc39 => ?_) (fun hc39 => ?_)
                    · rw [if_pos hc39] at h
                      refine hz_iconst (v := (0 : Int32)) hO dX11_size_165 (by decide) ?_
                      exact hz_nameM (hz_some_e h).2.symm (hz_name (hz_some_e h).1.symm (hz_iret hO dX11_size_166))
                    · rw [if_neg hc39] at h
                      refine hz_iconst (v := (1 : Int32)) hO dX11_size_161 (by decide) ?_
                      refine hz_goto (tgt := 166) hO dX11_size_162 (by decide) ?_
                      exact hz_nameM (hz_some_e h).2.symm (hz_name (hz_some_e h).1.symm (hz_iret hO dX11_size_166))
                  · rw [if_neg hc35] at h
                    by_cases hc40 : a1 = (16 : Int32)
                    · rw [if_pos hc40] at h
                      refine hz_tin (tgt := 167) hO hc40 dX11_size_22 (by decide) (by decide) rfl (by decide) ?_
                      refine hz_aload_n hO dX11_size_167 rfl 0 rfl ?_
                      refine hz_getI (k := 6) hO hz_K_9 hz_sh_178 (hz_lt_178 hN) rfl (Nat.le_of_ble_eq_true rfl) tw_6_235 rfl dX11_size_168 ?_
                      exact hz_nameM (hz_some_e h).2.symm (hz_name (hz_some_e h).1.symm (hz_iret hO dX11_size_171))
                    · rw [if_neg hc40] at h
                      by_cases hc41 : a1 = (1 : Int32)
                      · refine hz_tin (tgt := 172) hO hc41 dX11_size_22 (by decide) (by decide) rfl (by decide) ?_
                        exact hz_ls [0, 1] rfl (gk12 a1 M6 h)
                      ·
                        by_cases hc42 : a1 = (2 : Int32)
                        · refine hz_tin (tgt := 172) hO hc42 dX11_size_22 (by decide) (by decide) rfl (by decide) ?_
                          exact hz_ls [0, 1] rfl (gk12 a1 M6 h)
                        ·
                          by_cases hc43 : a1 = (3 : Int32)
                          · refine hz_tin (tgt := 172) hO hc43 dX11_size_22 (by decide) (by decide) rfl (by decide) ?_
                            exact hz_ls [0, 1] rfl (gk12 a1 M6 h)
                          ·
                            by_cases hc44 : a1 = (4 : Int32)
                            · refine hz_tin (tgt := 172) hO hc44 dX11_size_22 (by decide) (by decide) rfl (by decide) ?_
                              exact hz_ls [0, 1] rfl (gk12 a1 M6 h)
                            ·
                              by_cases hc45 : a1 = (5 : Int32)
                              · refine hz_tin (tgt := 172) hO hc45 dX11_size_22 (by decide) (by decide) rfl (by decide) ?_
                                exact hz_ls [0, 1] rfl (gk12 a1 M6 h)
                              ·
                                by_cases hc46 : a1 = (6 : Int32)
                                · refine hz_tin (tgt := 172) hO hc46 dX11_size_22 (by decide) (by decide) rfl (by decide) ?_
                                  exact hz_ls [0, 1] rfl (gk12 a1 M6 h)
                                ·
                                  by_cases hc47 : a1 = (7 : Int32)
                                  · refine hz_tin (tgt := 172) hO hc47 dX11_size_22 (by decide) (by decide) rfl (by decide) ?_
                                    exact hz_ls [0, 1] rfl (gk12 a1 M6 h)
                                  ·
                                    by_cases hc48 : a1 = (8 : Int32)
                                    · refine hz_tin (tgt := 172) hO hc48 dX11_size_22 (by decide) (by decide) rfl (by decide) ?_
                                      exact hz_ls [0, 1] rfl (gk12 a1 M6 h)
                                    · skip
                                      have hn0 : ¬ a1.toInt = 0 := lv_neT hc13 rfl
                                      have hn9 : ¬ a1.toInt = 9 := lv_neT hc14 rfl
                                      have hn10 : ¬ a1.toInt = 10 := lv_neT hc15 rfl
                                      have hn11 : ¬ a1.toInt = 11 := lv_neT hc16 rfl
                                      have hn12 : ¬ a1.toInt = 12 := lv_neT hc20 rfl
                                      have hn13 : ¬ a1.toInt = 13 := lv_neT hc27 rfl
                                      have hn14 : ¬ a1.toInt = 14 := lv_neT hc31 rfl
                                      have hn15 : ¬ a1.toInt = 15 := lv_neT hc35 rfl
                                      have hn16 : ¬ a1.toInt = 16 := lv_neT hc40 rfl
                                      have hn1 : ¬ a1.toInt = 1 := lv_neT hc41 rfl
                                      have hn2 : ¬ a1.toInt = 2 := lv_neT hc42 rfl
                                      have hn3 : ¬ a1.toInt = 3 := lv_neT hc43 rfl
                                      have hn4 : ¬ a1.toInt = 4 := lv_neT hc44 rfl
                                      have hn5 : ¬ a1.toInt = 5 := lv_neT hc45 rfl
                                      have hn6 : ¬ a1.toInt = 6 := lv_neT hc46 rfl
                                      have hn7 : ¬ a1.toInt = 7 := lv_neT hc47 rfl
                                      have hn8 : ¬ a1.toInt = 8 := lv_neT hc48 rfl
                                      refine hz_tout (tgt := 172) hO dX11_size_22 (by omega) (by decide) ?_
                                      exact hz_ls [0, 1] rfl (gk12 a1 M6 h)
  · rw [if_pos hc8] at h
    refine hz_iconst (v := (0 : Int32)) hO dX11_size_19 (by decide) ?_
    exact hz_nameM (hz_some_e h).2.symm (hz_name (hz_some_e h).1.symm (hz_iret hO dX11_size_20))
def f_X11_guest (a1 : Int32) (a2 : Int32) (M : hz_M) : hz_O :=
  hz_lm (hz_set M 178 8 (0 : Int32)) fun M1 =>
  hz_ct (f_X11_isGuest a1 M1) fun r2 M3 =>
  hz_jn (fun (v1_5 : Int32) (v2_6 : Int32) (q7 : Int32) (M8 : hz_M) =>
    hz_ct (f_X11_right q7 M8) fun r9 M10 =>
    if r9 = 0 then
      some ((0 : Int32), M10)
    else
      if v2_6 = 6 then
        hz_ct (f_X11_bears v1_5 M10) fun r14 M15 =>
        some (r14, M15)
      else
      if v2_6 = 7 then
        hz_ct (f_X11_of v1_5 (1 : Int32) M10) fun r18 M19 =>
        some ((if ((r18 / (5 : Int32)) + (1 : Int32)) < (M10 179 (Int32.toNatClampNeg (4 : Int32))) then ((r18 / (5 : Int32)) + (1 : Int32)) else (M10 179 (Int32.toNatClampNeg (4 : Int32)))), M19)
      else
      if v2_6 = 8 then
        hz_ct (f_X11_of v1_5 (7 : Int32) M10) fun r22 M23 =>
        some (r22, M23)
      else
      hz_ct (f_X11_of v1_5 ((1 : Int32) + v2_6) M10) fun r25 M26 =>
      some (r25, M26)
    ) fun k28 =>
  hz_jn (fun (v1_29 : Int32) (v2_30 : Int32) (M31 : hz_M) =>
    k28 v1_29 v2_30 (0 : Int32) M31
    ) fun k32 =>
  if r2 = 0 then
    k32 a1 a2 M3
  else
    hz_ct (f_X11_in a2 (0 : Int32) (8 : Int32) M3) fun r34 M35 =>
    if r34 = 0 then
      k32 a1 a2 M35
    else
      k28 a1 a2 (1 : Int32) M35
set_option maxRecDepth 100000 in
set_option maxHeartbeats 4000000 in
theorem c_X11_guest (l : Launch) (w : hz_C) {N : Nat} (hN : 193 ≤ N) (a1 : Int32) (a2 : Int32) {M : hz_M} {rE : Int32} {ME : hz_M} (h : f_X11_guest a1 a2 M = some (rE, ME)) : hz_Ct l yX11_guest cX11_guest 3 (some .int) 2 w N [.ref (hz_ad w 178), .int a1, .int a2] M (hz_Qi w N rE ME) := by
  refine hz_ofW (by decide) rfl (Nat.le_of_ble_eq_true rfl) tw_8_101 ?_
  intro p e s m args below meth c hO
  show hz_G p l e 2 hz_z0 s m args below meth c w N 3 _ M 0 [(0, .ref (hz_ad w 178)), (1, .int a1), (2, .int a2)] []
  unfold f_X11_guest at h
  refine hz_aload_n hO dX11_guest_0 rfl 0 rfl ?_
  refine hz_iconst (v := (0 : Int32)) hO dX11_guest_1 (by decide) ?_
  obtain ⟨M1, h_M1, h⟩ := hz_lm_e h
  refine hz_putI (k := 8) (ty := .int) hO hz_K_9 tyX11_ok nmX11 hz_sh_178 (hz_lt_178 hN) rfl (Nat.le_of_ble_eq_true rfl) tw_6_237 rfl rfl rfl rfl rfl dX11_guest_2 ?_
  refine hz_nameM h_M1 ?_
  refine hz_aload_n hO dX11_guest_5 rfl 0 rfl ?_
  refine hz_aload_n hO dX11_guest_6 rfl 0 rfl ?_
  refine hz_iload_n hO dX11_guest_7 rfl 1 rfl ?_
  obtain ⟨r2, M3, hq4, h⟩ := hz_ct_e h
  refine hz_callVi (as := [.int a1]) (rest := [.ref (hz_ad w 178)]) hO (c_X11_isGuest l w hN a1 hq4) hz_cal_X11_isGuest hz_K_9 hz_sh_178 (hz_lt_178 hN) tw_8_102 (Nat.le_of_ble_eq_true rfl) rfl rfl (Nat.le_of_ble_eq_true rfl) dX11_guest_8 ?_
  obtain ⟨k28, hk28, h⟩ := hz_jn_e h
  have gk28 : ∀ (v1_5 : Int32) (v2_6 : Int32) (q7 : Int32) (M8 : hz_M), k28 v1_5 v2_6 q7 M8 = some (rE, ME) → hz_G p l e 2 hz_z0 s m args below meth c w N 3 (MQ below (hz_Qi w N rE ME) args s 0 0 (hz_A w)) M8 29 [(0, .ref (hz_ad w 178)), (1, .int v1_5), (2, .int v2_6)] [.int q7, .ref (hz_ad w 178)] := by
    intro v1_5 v2_6 q7 M8 h
    rw [hk28] at h
    dsimp only at h
    obtain ⟨r9, M10, hq11, h⟩ := hz_ct_e h
    refine hz_callVi (as := [.int q7]) (rest := []) hO (c_X11_right l w hN q7 hq11) hz_cal_X11_right hz_K_9 hz_sh_178 (hz_lt_178 hN) tw_8_82 (Nat.le_of_ble_eq_true rfl) rfl rfl (Nat.le_of_ble_eq_true rfl) dX11_guest_29 ?_
    refine hz_if_ne (tgt := 37) hO dX11_guest_32 (by decide) (fun hc12 => ?_) (fun hc12 => ?_)
    · rw [if_neg hc12] at h
      refine hz_iload_n hO dX11_guest_37 rfl 2 rfl ?_
      by_cases hc13 : v2_6 = (6 : Int32)
      · rw [if_pos hc13] at h
        refine hz_tin (tgt := 64) hO hc13 dX11_guest_38 (by decide) (by decide) rfl (by decide) ?_
        refine hz_aload_n hO dX11_guest_64 rfl 0 rfl ?_
        refine hz_iload_n hO dX11_guest_65 rfl 1 rfl ?_
        obtain ⟨r14, M15, hq16, h⟩ := hz_ct_e h
        refine hz_callVi (as := [.int v1_5]) (rest := []) hO (c_X11_bears l w hN v1_5 hq16) hz_cal_X11_bears hz_K_9 hz_sh_178 (hz_lt_178 hN) tw_7_218 (Nat.le_of_ble_eq_true rfl) rfl rfl (Nat.le_of_ble_eq_true rfl) dX11_guest_66 ?_
        exact hz_nameM (hz_some_e h).2.symm (hz_name (hz_some_e h).1.symm (hz_iret hO dX11_guest_69))
      · rw [if_neg hc13] at h
        by_cases hc17 : v2_6 = (7 : Int32)
        · rw [if_pos hc17] at h
          refine hz_tin (tgt := 70) hO hc17 dX11_guest_38 (by decide) (by decide) rfl (by decide) ?_
          refine hz_aload_n hO dX11_guest_70 rfl 0 rfl ?_
          refine hz_getR (k := 0) hO 179 hz_K_9 hz_sh_178 (hz_lt_178 hN) rfl (Nat.le_of_ble_eq_true rfl) tw_6_229 rfl dX11_guest_71 ?_
          refine hz_iconst (v := (4 : Int32)) hO dX11_guest_74 (by decide) ?_
          refine hz_iald hO hz_sh_179 (hz_lt_179 hN) (by decide) dX11_guest_75 ?_
          refine hz_aload_n hO dX11_guest_76 rfl 0 rfl ?_
          refine hz_iload_n hO dX11_guest_77 rfl 1 rfl ?_
          refine hz_iconst (v := (1 : Int32)) hO dX11_guest_78 (by decide) ?_
          obtain ⟨r18, M19, hq20, h⟩ := hz_ct_e h
          refine hz_callVi (as := [.int v1_5, .int (1 : Int32)]) (rest := [.int (M10 179 (Int32.toNatClampNeg (4 : Int32)))]) hO (c_X11_of l w hN v1_5 (1 : Int32) hq20) hz_cal_X11_of hz_K_9 hz_sh_178 (hz_lt_178 hN) tw_6_217 (Nat.le_of_ble_eq_true rfl) rfl rfl (Nat.le_of_ble_eq_true rfl) dX11_guest_79 ?_
          refine hz_iconst (v := (5 : Int32)) hO dX11_guest_82 (by decide) ?_
          refine hz_idiv hO dX11_guest_83 (by decide) ?_
          refine hz_iconst (v := (1 : Int32)) hO dX11_guest_84 (by decide) ?_
          refine hz_iadd hO dX11_guest_85 ?_
          refine hz_mmin hO tw_6_174 (Nat.le_of_ble_eq_true rfl) (Nat.le_of_ble_eq_true rfl) dX11_guest_86 ?_
          exact hz_nameM (hz_some_e h).2.symm (hz_name (hz_some_e h).1.symm (hz_iret hO dX11_guest_89))
        · rw [if_neg hc17] at h
          by_cases hc21 : v2_6 = (8 : Int32)
          · rw [if_pos hc21] at h
            refine hz_tin (tgt := 90) hO hc21 dX11_guest_38 (by decide) (by decide) rfl (by decide) ?_
            refine hz_aload_n hO dX11_guest_90 rfl 0 rfl ?_
            refine hz_iload_n hO dX11_guest_91 rfl 1 rfl ?_
            refine hz_bipush (v := (7 : Int32)) hO dX11_guest_92 (by decide) ?_
            obtain ⟨r22, M23, hq24, h⟩ := hz_ct_e h
            refine hz_callVi (as := [.int v1_5, .int (7 : Int32)]) (rest := []) hO (c_X11_of l w hN v1_5 (7 : Int32) hq24) hz_cal_X11_of hz_K_9 hz_sh_178 (hz_lt_178 hN) tw_6_217 (Nat.le_of_ble_eq_true rfl) rfl rfl (Nat.le_of_ble_eq_true rfl) dX11_guest_94 ?_
            exact hz_nameM (hz_some_e h).2.symm (hz_name (hz_some_e h).1.symm (hz_iret hO dX11_guest_97))
          · rw [if_neg hc21] at h
            have hn6 : ¬ v2_6.toInt = 6 := lv_neT hc13 rfl
            have hn7 : ¬ v2_6.toInt = 7 := lv_neT hc17 rfl
            have hn8 : ¬ v2_6.toInt = 8 := lv_neT hc21 rfl
            refine hz_tout (tgt := 98) hO dX11_guest_38 (by omega) (by decide) ?_
            refine hz_aload_n hO dX11_guest_98 rfl 0 rfl ?_
            refine hz_iload_n hO dX11_guest_99 rfl 1 rfl ?_
            refine hz_iconst (v := (1 : Int32)) hO dX11_guest_100 (by decide) ?_
            refine hz_iload_n hO dX11_guest_101 rfl 2 rfl ?_
            refine hz_iadd hO dX11_guest_102 ?_
            obtain ⟨r25, M26, hq27, h⟩ := hz_ct_e h
            refine hz_callVi (as := [.int v1_5, .int ((1 : Int32) + v2_6)]) (rest := []) hO (c_X11_of l w hN v1_5 ((1 : Int32) + v2_6) hq27) hz_cal_X11_of hz_K_9 hz_sh_178 (hz_lt_178 hN) tw_6_217 (Nat.le_of_ble_eq_true rfl) rfl rfl (Nat.le_of_ble_eq_true rfl) dX11_guest_103 ?_
            exact hz_nameM (hz_some_e h).2.symm (hz_name (hz_some_e h).1.symm (hz_iret hO dX11_guest_106))
    · rw [if_pos hc12] at h
      refine hz_iconst (v := (0 : Int32)) hO dX11_guest_35 (by decide) ?_
      exact hz_nameM (hz_some_e h).2.symm (hz_name (hz_some_e h).1.symm (hz_iret hO dX11_guest_36))
  clear hk28
  obtain ⟨k32, hk32, h⟩ := hz_jn_e h
  have gk32 : ∀ (v1_29 : Int32) (v2_30 : Int32) (M31 : hz_M), k32 v1_29 v2_30 M31 = some (rE, ME) → hz_G p l e 2 hz_z0 s m args below meth c w N 3 (MQ below (hz_Qi w N rE ME) args s 0 0 (hz_A w)) M31 28 [(0, .ref (hz_ad w 178)), (1, .int v1_29), (2, .int v2_30)] [.ref (hz_ad w 178)] := by
    intro v1_29 v2_30 M31 h
    rw [hk32] at h
    dsimp only at h
    refine hz_iconst (v := (0 : Int32)) hO dX11_guest_28 (by decide) ?_
    exact hz_ls [0, 1, 2] rfl (gk28 v1_29 v2_30 (0 : Int32) M31 h)
  clear hk32
  refine hz_if_eq (tgt := 28) hO dX11_guest_11 (by decide) (fun hc33 => ?_) (fun hc33 => ?_)
  · rw [if_pos hc33] at h
    exact hz_ls [0, 1, 2] rfl (gk32 a1 a2 M3 h)
  · rw [if_neg hc33] at h
    refine hz_iload_n hO dX11_guest_14 rfl 2 rfl ?_
    refine hz_iconst (v := (0 : Int32)) hO dX11_guest_15 (by decide) ?_
    refine hz_bipush (v := (8 : Int32)) hO dX11_guest_16 (by decide) ?_
    obtain ⟨r34, M35, hq36, h⟩ := hz_ct_e h
    refine hz_callSi (as := [.int a2, .int (0 : Int32), .int (8 : Int32)]) (rest := [.ref (hz_ad w 178)]) hO (c_X11_in l w hN a2 (0 : Int32) (8 : Int32) hq36) hz_cal_X11_in tw_6_171 (Nat.le_of_ble_eq_true rfl) rfl rfl (Nat.le_of_ble_eq_true rfl) dX11_guest_18 ?_
    refine hz_if_eq (tgt := 28) hO dX11_guest_21 (by decide) (fun hc37 => ?_) (fun hc37 => ?_)
    · rw [if_pos hc37] at h
      exact hz_ls [0, 1, 2] rfl (gk32 a1 a2 M35 h)
    · rw [if_neg hc37] at h
      refine hz_iconst (v := (1 : Int32)) hO dX11_guest_24 (by decide) ?_
      refine hz_goto (tgt := 29) hO dX11_guest_25 (by decide) ?_
      exact hz_ls [0, 1, 2] rfl (gk28 a1 a2 (1 : Int32) M35 h)
def f_X11_towel (a1 : Int32) (a2 : Int32) (M : hz_M) : hz_O :=
  hz_lm (hz_set M 178 8 (0 : Int32)) fun M1 =>
  hz_ct (f_X11_isTowel a1 M1) fun r2 M3 =>
  hz_jn (fun (v1_5 : Int32) (v2_6 : Int32) (q7 : Int32) (M8 : hz_M) =>
    hz_ct (f_X11_right q7 M8) fun r9 M10 =>
    if r9 = 0 then
      some ((0 : Int32), M10)
    else
      if v2_6 = 0 then
        hz_ct (f_X11_ofT v1_5 (0 : Int32) M10) fun r14 M15 =>
        some (r14, M15)
      else
      if v2_6 = 1 then
        hz_ct (f_X11_ofT v1_5 (1 : Int32) M10) fun r18 M19 =>
        some (r18, M19)
      else
      if v2_6 = 2 then
        hz_ct (f_X11_holderOf v1_5 M10) fun r22 M23 =>
        some (r22, M23)
      else
      hz_ct (f_X11_isInBasket v1_5 M10) fun r25 M26 =>
      if r25 = 0 then
        some ((0 : Int32), M26)
      else
        some ((1 : Int32), M26)
    ) fun k29 =>
  hz_jn (fun (v1_30 : Int32) (v2_31 : Int32) (M32 : hz_M) =>
    k29 v1_30 v2_31 (0 : Int32) M32
    ) fun k33 =>
  if r2 = 0 then
    k33 a1 a2 M3
  else
    hz_ct (f_X11_in a2 (0 : Int32) (3 : Int32) M3) fun r35 M36 =>
    if r35 = 0 then
      k33 a1 a2 M36
    else
      k29 a1 a2 (1 : Int32) M36
set_option maxRecDepth 100000 in
set_option maxHeartbeats 4000000 in
theorem c_X11_towel (l : Launch) (w : hz_C) {N : Nat} (hN : 193 ≤ N) (a1 : Int32) (a2 : Int32) {M : hz_M} {rE : Int32} {ME : hz_M} (h : f_X11_towel a1 a2 M = some (rE, ME)) : hz_Ct l yX11_towel cX11_towel 3 (some .int) 3 w N [.ref (hz_ad w 178), .int a1, .int a2] M (hz_Qi w N rE ME) := by
  refine hz_ofW (by decide) rfl (Nat.le_of_ble_eq_true rfl) tw_8_109 ?_
  intro p e s m args below meth c hO
  show hz_G p l e 3 hz_z0 s m args below meth c w N 3 _ M 0 [(0, .ref (hz_ad w 178)), (1, .int a1), (2, .int a2)] []
  unfold f_X11_towel at h
  refine hz_aload_n hO dX11_towel_0 rfl 0 rfl ?_
  refine hz_iconst (v := (0 : Int32)) hO dX11_towel_1 (by decide) ?_
  obtain ⟨M1, h_M1, h⟩ := hz_lm_e h
  refine hz_putI (k := 8) (ty := .int) hO hz_K_9 tyX11_ok nmX11 hz_sh_178 (hz_lt_178 hN) rfl (Nat.le_of_ble_eq_true rfl) tw_6_237 rfl rfl rfl rfl rfl dX11_towel_2 ?_
  refine hz_nameM h_M1 ?_
  refine hz_aload_n hO dX11_towel_5 rfl 0 rfl ?_
  refine hz_aload_n hO dX11_towel_6 rfl 0 rfl ?_
  refine hz_iload_n hO dX11_towel_7 rfl 1 rfl ?_
  obtain ⟨r2, M3, hq4, h⟩ := hz_ct_e h
  refine hz_callVi (as := [.int a1]) (rest := [.ref (hz_ad w 178)]) hO (c_X11_isTowel l w hN a1 hq4) hz_cal_X11_isTowel hz_K_9 hz_sh_178 (hz_lt_178 hN) tw_8_110 (Nat.le_of_ble_eq_true rfl) rfl rfl (Nat.le_of_ble_eq_true rfl) dX11_towel_8 ?_
  obtain ⟨k29, hk29, h⟩ := hz_jn_e h
  have gk29 : ∀ (v1_5 : Int32) (v2_6 : Int32) (q7 : Int32) (M8 : hz_M), k29 v1_5 v2_6 q7 M8 = some (rE, ME) → hz_G p l e 3 hz_z0 s m args below meth c w N 3 (MQ below (hz_Qi w N rE ME) args s 0 0 (hz_A w)) M8 28 [(0, .ref (hz_ad w 178)), (1, .int v1_5), (2, .int v2_6)] [.int q7, .ref (hz_ad w 178)] := by
    intro v1_5 v2_6 q7 M8 h
    rw [hk29] at h
    dsimp only at h
    obtain ⟨r9, M10, hq11, h⟩ := hz_ct_e h
    refine hz_callVi (as := [.int q7]) (rest := []) hO (c_X11_right l w hN q7 hq11) hz_cal_X11_right hz_K_9 hz_sh_178 (hz_lt_178 hN) tw_8_82 (Nat.le_of_ble_eq_true rfl) rfl rfl (Nat.le_of_ble_eq_true rfl) dX11_towel_28 ?_
    refine hz_if_ne (tgt := 36) hO dX11_towel_31 (by decide) (fun hc12 => ?_) (fun hc12 => ?_)
    · rw [if_neg hc12] at h
      refine hz_iload_n hO dX11_towel_36 rfl 2 rfl ?_
      by_cases hc13 : v2_6 = (0 : Int32)
      · rw [if_pos hc13] at h
        refine hz_tin (tgt := 64) hO hc13 dX11_towel_37 (by decide) (by decide) rfl (by decide) ?_
        refine hz_aload_n hO dX11_towel_64 rfl 0 rfl ?_
        refine hz_iload_n hO dX11_towel_65 rfl 1 rfl ?_
        refine hz_iconst (v := (0 : Int32)) hO dX11_towel_66 (by decide) ?_
        obtain ⟨r14, M15, hq16, h⟩ := hz_ct_e h
        refine hz_callVi (as := [.int v1_5, .int (0 : Int32)]) (rest := []) hO (c_X11_ofT l w hN v1_5 (0 : Int32) hq16) hz_cal_X11_ofT hz_K_9 hz_sh_178 (hz_lt_178 hN) tw_7_161 (Nat.le_of_ble_eq_true rfl) rfl rfl (Nat.le_of_ble_eq_true rfl) dX11_towel_67 ?_
        exact hz_nameM (hz_some_e h).2.symm (hz_name (hz_some_e h).1.symm (hz_iret hO dX11_towel_70))
      · rw [if_neg hc13] at h
        by_cases hc17 : v2_6 = (1 : Int32)
        · rw [if_pos hc17] at h
          refine hz_tin (tgt := 71) hO hc17 dX11_towel_37 (by decide) (by decide) rfl (by decide) ?_
          refine hz_aload_n hO dX11_towel_71 rfl 0 rfl ?_
          refine hz_iload_n hO dX11_towel_72 rfl 1 rfl ?_
          refine hz_iconst (v := (1 : Int32)) hO dX11_towel_73 (by decide) ?_
          obtain ⟨r18, M19, hq20, h⟩ := hz_ct_e h
          refine hz_callVi (as := [.int v1_5, .int (1 : Int32)]) (rest := []) hO (c_X11_ofT l w hN v1_5 (1 : Int32) hq20) hz_cal_X11_ofT hz_K_9 hz_sh_178 (hz_lt_178 hN) tw_7_161 (Nat.le_of_ble_eq_true rfl) rfl rfl (Nat.le_of_ble_eq_true rfl) dX11_towel_74 ?_
          exact hz_nameM (hz_some_e h).2.symm (hz_name (hz_some_e h).1.symm (hz_iret hO dX11_towel_77))
        · rw [if_neg hc17] at h
          by_cases hc21 : v2_6 = (2 : Int32)
          · rw [if_pos hc21] at h
            refine hz_tin (tgt := 78) hO hc21 dX11_towel_37 (by decide) (by decide) rfl (by decide) ?_
            refine hz_aload_n hO dX11_towel_78 rfl 0 rfl ?_
            refine hz_iload_n hO dX11_towel_79 rfl 1 rfl ?_
            obtain ⟨r22, M23, hq24, h⟩ := hz_ct_e h
            refine hz_callVi (as := [.int v1_5]) (rest := []) hO (c_X11_holderOf l w hN v1_5 hq24) hz_cal_X11_holderOf hz_K_9 hz_sh_178 (hz_lt_178 hN) tw_7_165 (Nat.le_of_ble_eq_true rfl) rfl rfl (Nat.le_of_ble_eq_true rfl) dX11_towel_80 ?_
            exact hz_nameM (hz_some_e h).2.symm (hz_name (hz_some_e h).1.symm (hz_iret hO dX11_towel_83))
          · rw [if_neg hc21] at h
            have hn0 : ¬ v2_6.toInt = 0 := lv_neT hc13 rfl
            have hn1 : ¬ v2_6.toInt = 1 := lv_neT hc17 rfl
            have hn2 : ¬ v2_6.toInt = 2 := lv_neT hc21 rfl
            refine hz_tout (tgt := 84) hO dX11_towel_37 (by omega) (by decide) ?_
            refine hz_aload_n hO dX11_towel_84 rfl 0 rfl ?_
            refine hz_iload_n hO dX11_towel_85 rfl 1 rfl ?_
            obtain ⟨r25, M26, hq27, h⟩ := hz_ct_e h
            refine hz_callVi (as := [.int v1_5]) (rest := []) hO (c_X11_isInBasket l w hN v1_5 hq27) hz_cal_X11_isInBasket hz_K_9 hz_sh_178 (hz_lt_178 hN) tw_7_157 (Nat.le_of_ble_eq_true rfl) rfl rfl (Nat.le_of_ble_eq_true rfl) dX11_towel_86 ?_
            refine hz_if_eq (tgt := 96) hO dX11_towel_89 (by decide) (fun hc28 => ?_) (fun hc28 => ?_)
            · rw [if_pos hc28] at h
              refine hz_iconst (v := (0 : Int32)) hO dX11_towel_96 (by decide) ?_
              exact hz_nameM (hz_some_e h).2.symm (hz_name (hz_some_e h).1.symm (hz_iret hO dX11_towel_97))
            · rw [if_neg hc28] at h
              refine hz_iconst (v := (1 : Int32)) hO dX11_towel_92 (by decide) ?_
              refine hz_goto (tgt := 97) hO dX11_towel_93 (by decide) ?_
              exact hz_nameM (hz_some_e h).2.symm (hz_name (hz_some_e h).1.symm (hz_iret hO dX11_towel_97))
    · rw [if_pos hc12] at h
      refine hz_iconst (v := (0 : Int32)) hO dX11_towel_34 (by decide) ?_
      exact hz_nameM (hz_some_e h).2.symm (hz_name (hz_some_e h).1.symm (hz_iret hO dX11_towel_35))
  clear hk29
  obtain ⟨k33, hk33, h⟩ := hz_jn_e h
  have gk33 : ∀ (v1_30 : Int32) (v2_31 : Int32) (M32 : hz_M), k33 v1_30 v2_31 M32 = some (rE, ME) → hz_G p l e 3 hz_z0 s m args below meth c w N 3 (MQ below (hz_Qi w N rE ME) args s 0 0 (hz_A w)) M32 27 [(0, .ref (hz_ad w 178)), (1, .int v1_30), (2, .int v2_31)] [.ref (hz_ad w 178)] := by
    intro v1_30 v2_31 M32 h
    rw [hk33] at h
    dsimp only at h
    refine hz_iconst (v := (0 : Int32)) hO dX11_towel_27 (by decide) ?_
    exact hz_ls [0, 1, 2] rfl (gk29 v1_30 v2_31 (0 : Int32) M32 h)
  clear hk33
  refine hz_if_eq (tgt := 27) hO dX11_towel_11 (by decide) (fun hc34 => ?_) (fun hc34 => ?_)
  · rw [if_pos hc34] at h
    exact hz_ls [0, 1, 2] rfl (gk33 a1 a2 M3 h)
  · rw [if_neg hc34] at h
    refine hz_iload_n hO dX11_towel_14 rfl 2 rfl ?_
    refine hz_iconst (v := (0 : Int32)) hO dX11_towel_15 (by decide) ?_
    refine hz_iconst (v := (3 : Int32)) hO dX11_towel_16 (by decide) ?_
    obtain ⟨r35, M36, hq37, h⟩ := hz_ct_e h
    refine hz_callSi (as := [.int a2, .int (0 : Int32), .int (3 : Int32)]) (rest := [.ref (hz_ad w 178)]) hO (c_X11_in l w hN a2 (0 : Int32) (3 : Int32) hq37) hz_cal_X11_in tw_6_171 (Nat.le_of_ble_eq_true rfl) rfl rfl (Nat.le_of_ble_eq_true rfl) dX11_towel_17 ?_
    refine hz_if_eq (tgt := 27) hO dX11_towel_20 (by decide) (fun hc38 => ?_) (fun hc38 => ?_)
    · rw [if_pos hc38] at h
      exact hz_ls [0, 1, 2] rfl (gk33 a1 a2 M36 h)
    · rw [if_neg hc38] at h
      refine hz_iconst (v := (1 : Int32)) hO dX11_towel_23 (by decide) ?_
      refine hz_goto (tgt := 28) hO dX11_towel_24 (by decide) ?_
      exact hz_ls [0, 1, 2] rfl (gk29 a1 a2 (1 : Int32) M36 h)
def f_X11_peg (a1 : Int32) (M : hz_M) : hz_O :=
  hz_lm (hz_set M 178 8 (0 : Int32)) fun M1 =>
  hz_ct (f_X11_isPeg a1 M1) fun r2 M3 =>
  hz_ct (f_X11_right r2 M3) fun r5 M6 =>
  if r5 = 0 then
    some ((0 : Int32), M6)
  else
    hz_ct (f_X11_towelOn a1 M6) fun r9 M10 =>
    some (r9, M10)
set_option maxRecDepth 100000 in
set_option maxHeartbeats 4000000 in
theorem c_X11_peg (l : Launch) (w : hz_C) {N : Nat} (hN : 193 ≤ N) (a1 : Int32) {M : hz_M} {rE : Int32} {ME : hz_M} (h : f_X11_peg a1 M = some (rE, ME)) : hz_Ct l yX11_peg cX11_peg 2 (some .int) 2 w N [.ref (hz_ad w 178), .int a1] M (hz_Qi w N rE ME) := by
  refine hz_ofW (by decide) rfl (Nat.le_of_ble_eq_true rfl) tw_8_117 ?_
  intro p e s m args below meth c hO
  show hz_G p l e 2 hz_z0 s m args below meth c w N 2 _ M 0 [(0, .ref (hz_ad w 178)), (1, .int a1)] []
  unfold f_X11_peg at h
  refine hz_aload_n hO dX11_peg_0 rfl 0 rfl ?_
  refine hz_iconst (v := (0 : Int32)) hO dX11_peg_1 (by decide) ?_
  obtain ⟨M1, h_M1, h⟩ := hz_lm_e h
  refine hz_putI (k := 8) (ty := .int) hO hz_K_9 tyX11_ok nmX11 hz_sh_178 (hz_lt_178 hN) rfl (Nat.le_of_ble_eq_true rfl) tw_6_237 rfl rfl rfl rfl rfl dX11_peg_2 ?_
  refine hz_nameM h_M1 ?_
  refine hz_aload_n hO dX11_peg_5 rfl 0 rfl ?_
  refine hz_aload_n hO dX11_peg_6 rfl 0 rfl ?_
  refine hz_iload_n hO dX11_peg_7 rfl 1 rfl ?_
  obtain ⟨r2, M3, hq4, h⟩ := hz_ct_e h
  refine hz_callVi (as := [.int a1]) (rest := [.ref (hz_ad w 178)]) hO (c_X11_isPeg l w hN a1 hq4) hz_cal_X11_isPeg hz_K_9 hz_sh_178 (hz_lt_178 hN) tw_8_38 (Nat.le_of_ble_eq_true rfl) rfl rfl (Nat.le_of_ble_eq_true rfl) dX11_peg_8 ?_
  obtain ⟨r5, M6, hq7, h⟩ := hz_ct_e h
  refine hz_callVi (as := [.int r2]) (rest := []) hO (c_X11_right l w hN r2 hq7) hz_cal_X11_right hz_K_9 hz_sh_178 (hz_lt_178 hN) tw_8_82 (Nat.le_of_ble_eq_true rfl) rfl rfl (Nat.le_of_ble_eq_true rfl) dX11_peg_11 ?_
  refine hz_if_eq (tgt := 25) hO dX11_peg_14 (by decide) (fun hc8 => ?_) (fun hc8 => ?_)
  · rw [if_pos hc8] at h
    refine hz_iconst (v := (0 : Int32)) hO dX11_peg_25 (by decide) ?_
    exact hz_nameM (hz_some_e h).2.symm (hz_name (hz_some_e h).1.symm (hz_iret hO dX11_peg_26))
  · rw [if_neg hc8] at h
    refine hz_aload_n hO dX11_peg_17 rfl 0 rfl ?_
    refine hz_iload_n hO dX11_peg_18 rfl 1 rfl ?_
    obtain ⟨r9, M10, hq11, h⟩ := hz_ct_e h
    refine hz_callVi (as := [.int a1]) (rest := []) hO (c_X11_towelOn l w hN a1 hq11) hz_cal_X11_towelOn hz_K_9 hz_sh_178 (hz_lt_178 hN) tw_7_173 (Nat.le_of_ble_eq_true rfl) rfl rfl (Nat.le_of_ble_eq_true rfl) dX11_peg_19 ?_
    refine hz_goto (tgt := 26) hO dX11_peg_22 (by decide) ?_
    exact hz_nameM (hz_some_e h).2.symm (hz_name (hz_some_e h).1.symm (hz_iret hO dX11_peg_26))
def f_X11_locker (a1 : Int32) (M : hz_M) : hz_O :=
  hz_lm (hz_set M 178 8 (0 : Int32)) fun M1 =>
  hz_ct (f_X11_in a1 (0 : Int32) ((M1 179 (Int32.toNatClampNeg (0 : Int32))) - (1 : Int32)) M1) fun r2 M3 =>
  hz_ct (f_X11_right r2 M3) fun r5 M6 =>
  if r5 = 0 then
    some ((0 : Int32), M6)
  else
    hz_ct (f_X11_keeperOf a1 M6) fun r9 M10 =>
    some (r9, M10)
set_option maxRecDepth 100000 in
set_option maxHeartbeats 4000000 in
theorem c_X11_locker (l : Launch) (w : hz_C) {N : Nat} (hN : 193 ≤ N) (a1 : Int32) {M : hz_M} {rE : Int32} {ME : hz_M} (h : f_X11_locker a1 M = some (rE, ME)) : hz_Ct l yX11_locker cX11_locker 2 (some .int) 2 w N [.ref (hz_ad w 178), .int a1] M (hz_Qi w N rE ME) := by
  refine hz_ofW (by decide) rfl (Nat.le_of_ble_eq_true rfl) tw_8_121 ?_
  intro p e s m args below meth c hO
  show hz_G p l e 2 hz_z0 s m args below meth c w N 2 _ M 0 [(0, .ref (hz_ad w 178)), (1, .int a1)] []
  unfold f_X11_locker at h
  refine hz_aload_n hO dX11_locker_0 rfl 0 rfl ?_
  refine hz_iconst (v := (0 : Int32)) hO dX11_locker_1 (by decide) ?_
  obtain ⟨M1, h_M1, h⟩ := hz_lm_e h
  refine hz_putI (k := 8) (ty := .int) hO hz_K_9 tyX11_ok nmX11 hz_sh_178 (hz_lt_178 hN) rfl (Nat.le_of_ble_eq_true rfl) tw_6_237 rfl rfl rfl rfl rfl dX11_locker_2 ?_
  refine hz_nameM h_M1 ?_
  refine hz_aload_n hO dX11_locker_5 rfl 0 rfl ?_
  refine hz_iload_n hO dX11_locker_6 rfl 1 rfl ?_
  refine hz_iconst (v := (0 : Int32)) hO dX11_locker_7 (by decide) ?_
  refine hz_aload_n hO dX11_locker_8 rfl 0 rfl ?_
  refine hz_getR (k := 0) hO 179 hz_K_9 hz_sh_178 (hz_lt_178 hN) rfl (Nat.le_of_ble_eq_true rfl) tw_6_229 rfl dX11_locker_9 ?_
  refine hz_iconst (v := (0 : Int32)) hO dX11_locker_12 (by decide) ?_
  refine hz_iald hO hz_sh_179 (hz_lt_179 hN) (by decide) dX11_locker_13 ?_
  refine hz_iconst (v := (1 : Int32)) hO dX11_locker_14 (by decide) ?_
  refine hz_isub hO dX11_locker_15 ?_
  obtain ⟨r2, M3, hq4, h⟩ := hz_ct_e h
  refine hz_callSi (as := [.int a1, .int (0 : Int32), .int ((M1 179 (Int32.toNatClampNeg (0 : Int32))) - (1 : Int32))]) (rest := [.ref (hz_ad w 178)]) hO (c_X11_in l w hN a1 (0 : Int32) ((M1 179 (Int32.toNatClampNeg (0 : Int32))) - (1 : Int32)) hq4) hz_cal_X11_in tw_6_171 (Nat.le_of_ble_eq_true rfl) rfl rfl (Nat.le_of_ble_eq_true rfl) dX11_locker_16 ?_
  obtain ⟨r5, M6, hq7, h⟩ := hz_ct_e h
  refine hz_callVi (as := [.int r2]) (rest := []) hO (c_X11_right l w hN r2 hq7) hz_cal_X11_right hz_K_9 hz_sh_178 (hz_lt_178 hN) tw_8_82 (Nat.le_of_ble_eq_true rfl) rfl rfl (Nat.le_of_ble_eq_true rfl) dX11_locker_19 ?_
  refine hz_if_eq (tgt := 33) hO dX11_locker_22 (by decide) (fun hc8 => ?_) (fun hc8 => ?_)
  · rw [if_pos hc8] at h
    refine hz_iconst (v := (0 : Int32)) hO dX11_locker_33 (by decide) ?_
    exact hz_nameM (hz_some_e h).2.symm (hz_name (hz_some_e h).1.symm (hz_iret hO dX11_locker_34))
  · rw [if_neg hc8] at h
    refine hz_aload_n hO dX11_locker_25 rfl 0 rfl ?_
    refine hz_iload_n hO dX11_locker_26 rfl 1 rfl ?_
    obtain ⟨r9, M10, hq11, h⟩ := hz_ct_e h
    refine hz_callVi (as := [.int a1]) (rest := []) hO (c_X11_keeperOf l w hN a1 hq11) hz_cal_X11_keeperOf hz_K_9 hz_sh_178 (hz_lt_178 hN) tw_8_6 (Nat.le_of_ble_eq_true rfl) rfl rfl (Nat.le_of_ble_eq_true rfl) dX11_locker_27 ?_
    refine hz_goto (tgt := 34) hO dX11_locker_30 (by decide) ?_
    exact hz_nameM (hz_some_e h).2.symm (hz_name (hz_some_e h).1.symm (hz_iret hO dX11_locker_34))
def f_X11_opening (a1 : Int32) (M : hz_M) : hz_O :=
  hz_lm (hz_set M 178 8 (0 : Int32)) fun M1 =>
  hz_ct (f_X11_isValve a1 M1) fun r2 M3 =>
  hz_ct (f_X11_right r2 M3) fun r5 M6 =>
  if r5 = 0 then
    some ((0 : Int32), M6)
  else
    hz_gd (hz_in ((21 : Int32) + a1) 185) <|
    some ((M6 179 (Int32.toNatClampNeg ((21 : Int32) + a1))), M6)
set_option maxRecDepth 100000 in
set_option maxHeartbeats 4000000 in
theorem c_X11_opening (l : Launch) (w : hz_C) {N : Nat} (hN : 193 ≤ N) (a1 : Int32) {M : hz_M} {rE : Int32} {ME : hz_M} (h : f_X11_opening a1 M = some (rE, ME)) : hz_Ct l yX11_opening cX11_opening 2 (some .int) 2 w N [.ref (hz_ad w 178), .int a1] M (hz_Qi w N rE ME) := by
  refine hz_ofW (by decide) rfl (Nat.le_of_ble_eq_true rfl) tw_8_125 ?_
  intro p e s m args below meth c hO
  show hz_G p l e 2 hz_z0 s m args below meth c w N 2 _ M 0 [(0, .ref (hz_ad w 178)), (1, .int a1)] []
  unfold f_X11_opening at h
  refine hz_aload_n hO dX11_opening_0 rfl 0 rfl ?_
  refine hz_iconst (v := (0 : Int32)) hO dX11_opening_1 (by decide) ?_
  obtain ⟨M1, h_M1, h⟩ := hz_lm_e h
  refine hz_putI (k := 8) (ty := .int) hO hz_K_9 tyX11_ok nmX11 hz_sh_178 (hz_lt_178 hN) rfl (Nat.le_of_ble_eq_true rfl) tw_6_237 rfl rfl rfl rfl rfl dX11_opening_2 ?_
  refine hz_nameM h_M1 ?_
  refine hz_aload_n hO dX11_opening_5 rfl 0 rfl ?_
  refine hz_aload_n hO dX11_opening_6 rfl 0 rfl ?_
  refine hz_iload_n hO dX11_opening_7 rfl 1 rfl ?_
  obtain ⟨r2, M3, hq4, h⟩ := hz_ct_e h
  refine hz_callVi (as := [.int a1]) (rest := [.ref (hz_ad w 178)]) hO (c_X11_isValve l w hN a1 hq4) hz_cal_X11_isValve hz_K_9 hz_sh_178 (hz_lt_178 hN) tw_7_181 (Nat.le_of_ble_eq_true rfl) rfl rfl (Nat.le_of_ble_eq_true rfl) dX11_opening_8 ?_
  obtain ⟨r5, M6, hq7, h⟩ := hz_ct_e h
  refine hz_callVi (as := [.int r2]) (rest := []) hO (c_X11_right l w hN r2 hq7) hz_cal_X11_right hz_K_9 hz_sh_178 (hz_lt_178 hN) tw_8_82 (Nat.le_of_ble_eq_true rfl) rfl rfl (Nat.le_of_ble_eq_true rfl) dX11_opening_11 ?_
  refine hz_if_eq (tgt := 29) hO dX11_opening_14 (by decide) (fun hc8 => ?_) (fun hc8 => ?_)
  · rw [if_pos hc8] at h
    refine hz_iconst (v := (0 : Int32)) hO dX11_opening_29 (by decide) ?_
    exact hz_nameM (hz_some_e h).2.symm (hz_name (hz_some_e h).1.symm (hz_iret hO dX11_opening_30))
  · rw [if_neg hc8] at h
    refine hz_aload_n hO dX11_opening_17 rfl 0 rfl ?_
    refine hz_getR (k := 0) hO 179 hz_K_9 hz_sh_178 (hz_lt_178 hN) rfl (Nat.le_of_ble_eq_true rfl) tw_6_229 rfl dX11_opening_18 ?_
    refine hz_bipush (v := (21 : Int32)) hO dX11_opening_21 (by decide) ?_
    refine hz_iload_n hO dX11_opening_23 rfl 1 rfl ?_
    refine hz_iadd hO dX11_opening_24 ?_
    obtain ⟨hg9, h⟩ := hz_gd_e h
    refine hz_iald hO hz_sh_179 (hz_lt_179 hN) hg9 dX11_opening_25 ?_
    refine hz_goto (tgt := 30) hO dX11_opening_26 (by decide) ?_
    exact hz_nameM (hz_some_e h).2.symm (hz_name (hz_some_e h).1.symm (hz_iret hO dX11_opening_30))
def f_X11_eldest_L4 : Nat → Int32 → Int32 → Int32 → hz_M → hz_O
  | 0, _, _, _, _ => none
  | n + 1, v1_1, v2_2, v3_3, M4 =>
    if (M4 179 (Int32.toNatClampNeg (11 : Int32))) ≤ v3_3 then
      some (v2_2, M4)
    else
      hz_ct (f_X11_of v3_3 (2 : Int32) M4) fun r6 M7 =>
      hz_jn (fun (v1_9 : Int32) (v2_10 : Int32) (v3_11 : Int32) (M12 : hz_M) =>
        hz_lt (v3_11 + (1 : Int32)) fun x13 =>
        f_X11_eldest_L4 n v1_9 v2_10 x13 M12
        ) fun k14 =>
      if r6 = v1_1 then
        hz_jn (fun (v1_16 : Int32) (v3_17 : Int32) (M18 : hz_M) =>
          k14 v1_16 v3_17 v3_17 M18
          ) fun k19 =>
        if v2_2 = (-1 : Int32) then
          k19 v1_1 v3_3 M7
        else
          hz_ct (f_X11_of v3_3 (1 : Int32) M7) fun r21 M22 =>
          hz_ct (f_X11_of v2_2 (1 : Int32) M22) fun r24 M25 =>
          if r21 ≤ r24 then
            k14 v1_1 v2_2 v3_3 M25
          else
            k19 v1_1 v3_3 M25
      else
        k14 v1_1 v2_2 v3_3 M7
def f_X11_eldest (a1 : Int32) (M : hz_M) : hz_O :=
  f_X11_eldest_L4 hz_FU a1 (-1 : Int32) (0 : Int32) M
set_option maxRecDepth 100000 in
set_option maxHeartbeats 4000000 in
theorem g_X11_eldest_L4 {p : Program} {l : Launch} {e : Env} {s : State} {m : MethodId} {args : Array Value} {below : List Frame} {meth : Method} {c : Code} {w : hz_C} {N : Nat} (hN : 193 ≤ N) {rE : Int32} {ME : hz_M} (hO : hz_Ok p s m args meth c w cX11_eldest 4 RX11 (some .int)) : ∀ (n : Nat) (v1_1 : Int32) (v2_2 : Int32) (v3_3 : Int32) (M4 : hz_M), f_X11_eldest_L4 n v1_1 v2_2 v3_3 M4 = some (rE, ME) → hz_G p l e 1 hz_z0 s m args below meth c w N 4 (MQ below (hz_Qi w N rE ME) args s 0 0 (hz_A w)) M4 4 [(0, .ref (hz_ad w 178)), (1, .int v1_1), (2, .int v2_2), (3, .int v3_3)] [] := by
  intro n
  induction n with
  | zero =>
    intro v1_1 v2_2 v3_3 M4 h
    rw [f_X11_eldest_L4] at h
    cases h
  | succ n ih =>
    intro v1_1 v2_2 v3_3 M4 h
    rw [f_X11_eldest_L4] at h
    refine hz_iload_n hO dX11_eldest_4 rfl 3 rfl ?_
    refine hz_aload_n hO dX11_eldest_5 rfl 0 rfl ?_
    refine hz_getR (k := 0) hO 179 hz_K_9 hz_sh_178 (hz_lt_178 hN) rfl (Nat.le_of_ble_eq_true rfl) tw_6_229 rfl dX11_eldest_6 ?_
    refine hz_bipush (v := (11 : Int32)) hO dX11_eldest_9 (by decide) ?_
    refine hz_iald hO hz_sh_179 (hz_lt_179 hN) (by decide) dX11_eldest_11 ?_
    refine hz_icmp_ge (tgt := 53) hO dX11_eldest_12 (by decide) (fun hc5 => ?_) (fun hc5 => ?_)
    · rw [if_pos hc5] at h
      refine hz_iload_n hO dX11_eldest_53 rfl 2 rfl ?_
      exact hz_nameM (hz_some_e h).2.symm (hz_name (hz_some_e h).1.symm (hz_iret hO dX11_eldest_54))
    · rw [if_neg hc5] at h
      refine hz_aload_n hO dX11_eldest_15 rfl 0 rfl ?_
      refine hz_iload_n hO dX11_eldest_16 rfl 3 rfl ?_
      refine hz_iconst (v := (2 : Int32)) hO dX11_eldest_17 (by decide) ?_
      obtain ⟨r6, M7, hq8, h⟩ := hz_ct_e h
      refine hz_callVi (as := [.int v3_3, .int (2 : Int32)]) (rest := []) hO (c_X11_of l w hN v3_3 (2 : Int32) hq8) hz_cal_X11_of hz_K_9 hz_sh_178 (hz_lt_178 hN) tw_6_217 (Nat.le_of_ble_eq_true rfl) rfl rfl (Nat.le_of_ble_eq_true rfl) dX11_eldest_18 ?_
      refine hz_iload_n hO dX11_eldest_21 rfl 1 rfl ?_
      obtain ⟨k14, hk14, h⟩ := hz_jn_e h
      have gk14 : ∀ (v1_9 : Int32) (v2_10 : Int32) (v3_11 : Int32) (M12 : hz_M), k14 v1_9 v2_10 v3_11 M12 = some (rE, ME) → hz_G p l e 1 hz_z0 s m args below meth c w N 4 (MQ below (hz_Qi w N rE ME) args s 0 0 (hz_A w)) M12 47 [(0, .ref (hz_ad w 178)), (1, .int v1_9), (2, .int v2_10), (3, .int v3_11)] [] := by
        intro v1_9 v2_10 v3_11 M12 h
        rw [hk14] at h
        dsimp only at h
        obtain ⟨x13, h_x13, h⟩ := hz_lt_e h
        refine hz_iinc (k := 3) (v := x13) (ls1 := [(3, .int x13), (0, .ref (hz_ad w 178)), (1, .int v1_9), (2, .int v2_10)]) hO dX11_eldest_47 rfl (by rw [h_x13]; rfl) (Nat.le_of_ble_eq_true rfl) rfl ?_
        refine hz_goto (tgt := 4) hO dX11_eldest_50 (by decide) ?_
        exact hz_ls [1, 2, 3, 0] rfl (ih v1_9 v2_10 x13 M12 h)
      clear hk14
      refine hz_icmp_ne (tgt := 47) hO dX11_eldest_22 (by decide) (fun hc15 => ?_) (fun hc15 => ?_)
      · rw [if_neg hc15] at h
        exact hz_ls [0, 1, 2, 3] rfl (gk14 v1_1 v2_2 v3_3 M7 h)
      · rw [if_pos hc15] at h
        refine hz_iload_n hO dX11_eldest_25 rfl 2 rfl ?_
        refine hz_iconst (v := (-1 : Int32)) hO dX11_eldest_26 (by decide) ?_
        obtain ⟨k19, hk19, h⟩ := hz_jn_e h
        have gk19 : ∀ (v1_16 : Int32) (v3_17 : Int32) (M18 : hz_M), k19 v1_16 v3_17 M18 = some (rE, ME) → hz_G p l e 1 hz_z0 s m args below meth c w N 4 (MQ below (hz_Qi w N rE ME) args s 0 0 (hz_A w)) M18 45 [(0, .ref (hz_ad w 178)), (1, .int v1_16), (3, .int v3_17)] [] := by
          intro v1_16 v3_17 M18 h
          rw [hk19] at h
          dsimp only at h
          refine hz_iload_n hO dX11_eldest_45 rfl 2 rfl ?_
          refine hz_istore_n (ls1 := [(2, .int v3_17), (0, .ref (hz_ad w 178)), (1, .int v1_16), (3, .int v3_17)]) hO dX11_eldest_46 rfl (Nat.le_of_ble_eq_true rfl) rfl ?_
          exact hz_ls [1, 2, 0, 3] rfl (gk14 v1_16 v3_17 v3_17 M18 h)
        clear hk19
        refine hz_icmp_eq (tgt := 45) hO dX11_eldest_27 (by decide) (fun hc20 => ?_) (fun hc20 => ?_)
        · rw [if_pos hc20] at h
          exact hz_ls [0, 1, 3] rfl (gk19 v1_1 v3_3 M7 h)
        · rw [if_neg hc20] at h
          refine hz_aload_n hO dX11_eldest_30 rfl 0 rfl ?_
          refine hz_iload_n hO dX11_eldest_31 rfl 3 rfl ?_
          refine hz_iconst (v := (1 : Int32)) hO dX11_eldest_32 (by decide) ?_
          obtain ⟨r21, M22, hq23, h⟩ := hz_ct_e h
          refine hz_callVi (as := [.int v3_3, .int (1 : Int32)]) (rest := []) hO (c_X11_of l w hN v3_3 (1 : Int32) hq23) hz_cal_X11_of hz_K_9 hz_sh_178 (hz_lt_178 hN) tw_6_217 (Nat.le_of_ble_eq_true rfl) rfl rfl (Nat.le_of_ble_eq_true rfl) dX11_eldest_33 ?_
          refine hz_aload_n hO dX11_eldest_36 rfl 0 rfl ?_
          refine hz_iload_n hO dX11_eldest_37 rfl 2 rfl ?_
          refine hz_iconst (v := (1 : Int32)) hO dX11_eldest_38 (by decide) ?_
          obtain ⟨r24, M25, hq26, h⟩ := hz_ct_e h
          refine hz_callVi (as := [.int v2_2, .int (1 : Int32)]) (rest := [.int r21]) hO (c_X11_of l w hN v2_2 (1 : Int32) hq26) hz_cal_X11_of hz_K_9 hz_sh_178 (hz_lt_178 hN) tw_6_217 (Nat.le_of_ble_eq_true rfl) rfl rfl (Nat.le_of_ble_eq_true rfl) dX11_eldest_39 ?_
          refine hz_icmp_le (tgt := 47) hO dX11_eldest_42 (by decide) (fun hc27 => ?_) (fun hc27 => ?_)
          · rw [if_pos hc27] at h
            exact hz_ls [0, 1, 2, 3] rfl (gk14 v1_1 v2_2 v3_3 M25 h)
          · rw [if_neg hc27] at h
            exact hz_ls [0, 1, 3] rfl (gk19 v1_1 v3_3 M25 h)
set_option maxRecDepth 100000 in
set_option maxHeartbeats 4000000 in
theorem c_X11_eldest (l : Launch) (w : hz_C) {N : Nat} (hN : 193 ≤ N) (a1 : Int32) {M : hz_M} {rE : Int32} {ME : hz_M} (h : f_X11_eldest a1 M = some (rE, ME)) : hz_Ct l yX11_eldest cX11_eldest 4 (some .int) 1 w N [.ref (hz_ad w 178), .int a1] M (hz_Qi w N rE ME) := by
  refine hz_ofW (by decide) rfl (Nat.le_of_ble_eq_true rfl) tw_8_133 ?_
  intro p e s m args below meth c hO
  show hz_G p l e 1 hz_z0 s m args below meth c w N 4 _ M 0 [(0, .ref (hz_ad w 178)), (1, .int a1)] []
  unfold f_X11_eldest at h
  refine hz_iconst (v := (-1 : Int32)) hO dX11_eldest_0 (by decide) ?_
  refine hz_istore_n (ls1 := [(2, .int (-1 : Int32)), (0, .ref (hz_ad w 178)), (1, .int a1)]) hO dX11_eldest_1 rfl (Nat.le_of_ble_eq_true rfl) rfl ?_
  refine hz_iconst (v := (0 : Int32)) hO dX11_eldest_2 (by decide) ?_
  refine hz_istore_n (ls1 := [(3, .int (0 : Int32)), (2, .int (-1 : Int32)), (0, .ref (hz_ad w 178)), (1, .int a1)]) hO dX11_eldest_3 rfl (Nat.le_of_ble_eq_true rfl) rfl ?_
  exact hz_ls [2, 3, 1, 0] rfl (g_X11_eldest_L4 hN hO _ a1 (-1 : Int32) (0 : Int32) M h)
def f_X11_suffering_L4 : Nat → Int32 → Int32 → Int32 → hz_M → hz_O
  | 0, _, _, _, _ => none
  | n + 1, v1_1, v2_2, v3_3, M4 =>
    if (M4 179 (Int32.toNatClampNeg (11 : Int32))) ≤ v3_3 then
      some (v2_2, M4)
    else
      hz_ct (f_X11_of v3_3 (2 : Int32) M4) fun r6 M7 =>
      hz_jn (fun (v1_9 : Int32) (v2_10 : Int32) (v3_11 : Int32) (M12 : hz_M) =>
        hz_lt (v3_11 + (1 : Int32)) fun x13 =>
        f_X11_suffering_L4 n v1_9 v2_10 x13 M12
        ) fun k14 =>
      if r6 = v1_1 then
        hz_ct (f_X11_warmthOf v1_1 M7) fun r16 M17 =>
        hz_ct (f_X11_bears v3_3 M17) fun r19 M20 =>
        if r16 ≤ r19 then
          k14 v1_1 v2_2 v3_3 M20
        else
          hz_lt (v2_2 + (1 : Int32)) fun x23 =>
          k14 v1_1 x23 v3_3 M20
      else
        k14 v1_1 v2_2 v3_3 M7
def f_X11_suffering (a1 : Int32) (M : hz_M) : hz_O :=
  f_X11_suffering_L4 hz_FU a1 (0 : Int32) (0 : Int32) M
set_option maxRecDepth 100000 in
set_option maxHeartbeats 4000000 in
theorem g_X11_suffering_L4 {p : Program} {l : Launch} {e : Env} {s : State} {m : MethodId} {args : Array Value} {below : List Frame} {meth : Method} {c : Code} {w : hz_C} {N : Nat} (hN : 193 ≤ N) {rE : Int32} {ME : hz_M} (hO : hz_Ok p s m args meth c w cX11_suffering 4 RX11 (some .int)) : ∀ (n : Nat) (v1_1 : Int32) (v2_2 : Int32) (v3_3 : Int32) (M4 : hz_M), f_X11_suffering_L4 n v1_1 v2_2 v3_3 M4 = some (rE, ME) → hz_G p l e 2 hz_z0 s m args below meth c w N 4 (MQ below (hz_Qi w N rE ME) args s 0 0 (hz_A w)) M4 4 [(0, .ref (hz_ad w 178)), (1, .int v1_1), (2, .int v2_2), (3, .int v3_3)] [] := by
  intro n
  induction n with
  | zero =>
    intro v1_1 v2_2 v3_3 M4 h
    rw [f_X11_suffering_L4] at h
    cases h
  | succ n ih =>
    intro v1_1 v2_2 v3_3 M4 h
    rw [f_X11_suffering_L4] at h
    refine hz_iload_n hO dX11_suffering_4 rfl 3 rfl ?_
    refine hz_aload_n hO dX11_suffering_5 rfl 0 rfl ?_
    refine hz_getR (k := 0) hO 179 hz_K_9 hz_sh_178 (hz_lt_178 hN) rfl (Nat.le_of_ble_eq_true rfl) tw_6_229 rfl dX11_suffering_6 ?_
    refine hz_bipush (v := (11 : Int32)) hO dX11_suffering_9 (by decide) ?_
    refine hz_iald hO hz_sh_179 (hz_lt_179 hN) (by decide) dX11_suffering_11 ?_
    refine hz_icmp_ge (tgt := 47) hO dX11_suffering_12 (by decide) (fun hc5 => ?_) (fun hc5 => ?_)
    · rw [if_pos hc5] at h
      refine hz_iload_n hO dX11_suffering_47 rfl 2 rfl ?_
      exact hz_nameM (hz_some_e h).2.symm (hz_name (hz_some_e h).1.symm (hz_iret hO dX11_suffering_48))
    · rw [if_neg hc5] at h
      refine hz_aload_n hO dX11_suffering_15 rfl 0 rfl ?_
      refine hz_iload_n hO dX11_suffering_16 rfl 3 rfl ?_
      refine hz_iconst (v := (2 : Int32)) hO dX11_suffering_17 (by decide) ?_
      obtain ⟨r6, M7, hq8, h⟩ := hz_ct_e h
      refine hz_callVi (as := [.int v3_3, .int (2 : Int32)]) (rest := []) hO (c_X11_of l w hN v3_3 (2 : Int32) hq8) hz_cal_X11_of hz_K_9 hz_sh_178 (hz_lt_178 hN) tw_6_217 (Nat.le_of_ble_eq_true rfl) rfl rfl (Nat.le_of_ble_eq_true rfl) dX11_suffering_18 ?_
      refine hz_iload_n hO dX11_suffering_21 rfl 1 rfl ?_
      obtain ⟨k14, hk14, h⟩ := hz_jn_e h
      have gk14 : ∀ (v1_9 : Int32) (v2_10 : Int32) (v3_11 : Int32) (M12 : hz_M), k14 v1_9 v2_10 v3_11 M12 = some (rE, ME) → hz_G p l e 2 hz_z0 s m args below meth c w N 4 (MQ below (hz_Qi w N rE ME) args s 0 0 (hz_A w)) M12 41 [(0, .ref (hz_ad w 178)), (1, .int v1_9), (2, .int v2_10), (3, .int v3_11)] [] := by
        intro v1_9 v2_10 v3_11 M12 h
        rw [hk14] at h
        dsimp only at h
        obtain ⟨x13, h_x13, h⟩ := hz_lt_e h
        refine hz_iinc (k := 3) (v := x13) (ls1 := [(3, .int x13), (0, .ref (hz_ad w 178)), (1, .int v1_9), (2, .int v2_10)]) hO dX11_suffering_41 rfl (by rw [h_x13]; rfl) (Nat.le_of_ble_eq_true rfl) rfl ?_
        refine hz_goto (tgt := 4) hO dX11_suffering_44 (by decide) ?_
        exact hz_ls [1, 2, 3, 0] rfl (ih v1_9 v2_10 x13 M12 h)
      clear hk14
      refine hz_icmp_ne (tgt := 41) hO dX11_suffering_22 (by decide) (fun hc15 => ?_) (fun hc15 => ?_)
      · rw [if_neg hc15] at h
        exact hz_ls [0, 1, 2, 3] rfl (gk14 v1_1 v2_2 v3_3 M7 h)
      · rw [if_pos hc15] at h
        refine hz_aload_n hO dX11_suffering_25 rfl 0 rfl ?_
        refine hz_iload_n hO dX11_suffering_26 rfl 1 rfl ?_
        obtain ⟨r16, M17, hq18, h⟩ := hz_ct_e h
        refine hz_callVi (as := [.int v1_1]) (rest := []) hO (c_X11_warmthOf l w hN v1_1 hq18) hz_cal_X11_warmthOf hz_K_9 hz_sh_178 (hz_lt_178 hN) tw_7_214 (Nat.le_of_ble_eq_true rfl) rfl rfl (Nat.le_of_ble_eq_true rfl) dX11_suffering_27 ?_
        refine hz_aload_n hO dX11_suffering_30 rfl 0 rfl ?_
        refine hz_iload_n hO dX11_suffering_31 rfl 3 rfl ?_
        obtain ⟨r19, M20, hq21, h⟩ := hz_ct_e h
        refine hz_callVi (as := [.int v3_3]) (rest := [.int r16]) hO (c_X11_bears l w hN v3_3 hq21) hz_cal_X11_bears hz_K_9 hz_sh_178 (hz_lt_178 hN) tw_7_218 (Nat.le_of_ble_eq_true rfl) rfl rfl (Nat.le_of_ble_eq_true rfl) dX11_suffering_32 ?_
        refine hz_icmp_le (tgt := 41) hO dX11_suffering_35 (by decide) (fun hc22 => ?_) (fun hc22 => ?_)
        · rw [if_pos hc22] at h
          exact hz_ls [0, 1, 2, 3] rfl (gk14 v1_1 v2_2 v3_3 M20 h)
        · rw [if_neg hc22] at h
          obtain ⟨x23, h_x23, h⟩ := hz_lt_e h
          refine hz_iinc (k := 2) (v := x23) (ls1 := [(2, .int x23), (0, .ref (hz_ad w 178)), (1, .int v1_1), (3, .int v3_3)]) hO dX11_suffering_38 rfl (by rw [h_x23]; rfl) (Nat.le_of_ble_eq_true rfl) rfl ?_
          exact hz_ls [1, 2, 0, 3] rfl (gk14 v1_1 x23 v3_3 M20 h)
set_option maxRecDepth 100000 in
set_option maxHeartbeats 4000000 in
theorem c_X11_suffering (l : Launch) (w : hz_C) {N : Nat} (hN : 193 ≤ N) (a1 : Int32) {M : hz_M} {rE : Int32} {ME : hz_M} (h : f_X11_suffering a1 M = some (rE, ME)) : hz_Ct l yX11_suffering cX11_suffering 4 (some .int) 2 w N [.ref (hz_ad w 178), .int a1] M (hz_Qi w N rE ME) := by
  refine hz_ofW (by decide) rfl (Nat.le_of_ble_eq_true rfl) tw_8_137 ?_
  intro p e s m args below meth c hO
  show hz_G p l e 2 hz_z0 s m args below meth c w N 4 _ M 0 [(0, .ref (hz_ad w 178)), (1, .int a1)] []
  unfold f_X11_suffering at h
  refine hz_iconst (v := (0 : Int32)) hO dX11_suffering_0 (by decide) ?_
  refine hz_istore_n (ls1 := [(2, .int (0 : Int32)), (0, .ref (hz_ad w 178)), (1, .int a1)]) hO dX11_suffering_1 rfl (Nat.le_of_ble_eq_true rfl) rfl ?_
  refine hz_iconst (v := (0 : Int32)) hO dX11_suffering_2 (by decide) ?_
  refine hz_istore_n (ls1 := [(3, .int (0 : Int32)), (2, .int (0 : Int32)), (0, .ref (hz_ad w 178)), (1, .int a1)]) hO dX11_suffering_3 rfl (Nat.le_of_ble_eq_true rfl) rfl ?_
  exact hz_ls [2, 3, 1, 0] rfl (g_X11_suffering_L4 hN hO _ a1 (0 : Int32) (0 : Int32) M h)
def f_X11_step (a1 : Int32) (a2 : Int32) (M : hz_M) : hz_O :=
  hz_lm (hz_set M 178 8 (0 : Int32)) fun M1 =>
  hz_ct (f_X11_isStep a1 M1) fun r2 M3 =>
  hz_jn (fun (v1_5 : Int32) (v2_6 : Int32) (q7 : Int32) (M8 : hz_M) =>
    hz_ct (f_X11_right q7 M8) fun r9 M10 =>
    if r9 = 0 then
      some ((0 : Int32), M10)
    else
      if v2_6 = 0 then
        hz_ct (f_X11_guestsOn v1_5 M10) fun r14 M15 =>
        some (r14, M15)
      else
      if v2_6 = 1 then
        hz_ct (f_X11_warmthOf v1_5 M10) fun r18 M19 =>
        some (r18, M19)
      else
      if v2_6 = 2 then
        some (((5 : Int32) * (v1_5 - (1 : Int32))), M10)
      else
      if v2_6 = 3 then
        hz_ct (f_X11_eldest v1_5 M10) fun r23 M24 =>
        some (r23, M24)
      else
      hz_ct (f_X11_suffering v1_5 M10) fun r26 M27 =>
      some (r26, M27)
    ) fun k29 =>
  hz_jn (fun (v1_30 : Int32) (v2_31 : Int32) (M32 : hz_M) =>
    k29 v1_30 v2_31 (0 : Int32) M32
    ) fun k33 =>
  if r2 = 0 then
    k33 a1 a2 M3
  else
    hz_ct (f_X11_in a2 (0 : Int32) (4 : Int32) M3) fun r35 M36 =>
    if r35 = 0 then
      k33 a1 a2 M36
    else
      k29 a1 a2 (1 : Int32) M36
set_option maxRecDepth 100000 in
set_option maxHeartbeats 4000000 in
theorem c_X11_step (l : Launch) (w : hz_C) {N : Nat} (hN : 193 ≤ N) (a1 : Int32) (a2 : Int32) {M : hz_M} {rE : Int32} {ME : hz_M} (h : f_X11_step a1 a2 M = some (rE, ME)) : hz_Ct l yX11_step cX11_step 3 (some .int) 3 w N [.ref (hz_ad w 178), .int a1, .int a2] M (hz_Qi w N rE ME) := by
  refine hz_ofW (by decide) rfl (Nat.le_of_ble_eq_true rfl) tw_8_129 ?_
  intro p e s m args below meth c hO
  show hz_G p l e 3 hz_z0 s m args below meth c w N 3 _ M 0 [(0, .ref (hz_ad w 178)), (1, .int a1), (2, .int a2)] []
  unfold f_X11_step at h
  refine hz_aload_n hO dX11_step_0 rfl 0 rfl ?_
  refine hz_iconst (v := (0 : Int32)) hO dX11_step_1 (by decide) ?_
  obtain ⟨M1, h_M1, h⟩ := hz_lm_e h
  refine hz_putI (k := 8) (ty := .int) hO hz_K_9 tyX11_ok nmX11 hz_sh_178 (hz_lt_178 hN) rfl (Nat.le_of_ble_eq_true rfl) tw_6_237 rfl rfl rfl rfl rfl dX11_step_2 ?_
  refine hz_nameM h_M1 ?_
  refine hz_aload_n hO dX11_step_5 rfl 0 rfl ?_
  refine hz_aload_n hO dX11_step_6 rfl 0 rfl ?_
  refine hz_iload_n hO dX11_step_7 rfl 1 rfl ?_
  obtain ⟨r2, M3, hq4, h⟩ := hz_ct_e h
  refine hz_callVi (as := [.int a1]) (rest := [.ref (hz_ad w 178)]) hO (c_X11_isStep l w hN a1 hq4) hz_cal_X11_isStep hz_K_9 hz_sh_178 (hz_lt_178 hN) tw_8_14 (Nat.le_of_ble_eq_true rfl) rfl rfl (Nat.le_of_ble_eq_true rfl) dX11_step_8 ?_
  obtain ⟨k29, hk29, h⟩ := hz_jn_e h
  have gk29 : ∀ (v1_5 : Int32) (v2_6 : Int32) (q7 : Int32) (M8 : hz_M), k29 v1_5 v2_6 q7 M8 = some (rE, ME) → hz_G p l e 3 hz_z0 s m args below meth c w N 3 (MQ below (hz_Qi w N rE ME) args s 0 0 (hz_A w)) M8 28 [(0, .ref (hz_ad w 178)), (1, .int v1_5), (2, .int v2_6)] [.int q7, .ref (hz_ad w 178)] := by
    intro v1_5 v2_6 q7 M8 h
    rw [hk29] at h
    dsimp only at h
    obtain ⟨r9, M10, hq11, h⟩ := hz_ct_e h
    refine hz_callVi (as := [.int q7]) (rest := []) hO (c_X11_right l w hN q7 hq11) hz_cal_X11_right hz_K_9 hz_sh_178 (hz_lt_178 hN) tw_8_82 (Nat.le_of_ble_eq_true rfl) rfl rfl (Nat.le_of_ble_eq_true rfl) dX11_step_28 ?_
    refine hz_if_ne (tgt := 36) hO dX11_step_31 (by decide) (fun hc12 => ?_) (fun hc12 => ?_)
    · rw [if_neg hc12] at h
      refine hz_iload_n hO dX11_step_36 rfl 2 rfl ?_
      by_cases hc13 : v2_6 = (0 : Int32)
      · rw [if_pos hc13] at h
        refine hz_tin (tgt := 68) hO hc13 dX11_step_37 (by decide) (by decide) rfl (by decide) ?_
        refine hz_aload_n hO dX11_step_68 rfl 0 rfl ?_
        refine hz_iload_n hO dX11_step_69 rfl 1 rfl ?_
        obtain ⟨r14, M15, hq16, h⟩ := hz_ct_e h
        refine hz_callVi (as := [.int v1_5]) (rest := []) hO (c_X11_guestsOn l w hN v1_5 hq16) hz_cal_X11_guestsOn hz_K_9 hz_sh_178 (hz_lt_178 hN) tw_7_222 (Nat.le_of_ble_eq_true rfl) rfl rfl (Nat.le_of_ble_eq_true rfl) dX11_step_70 ?_
        exact hz_nameM (hz_some_e h).2.symm (hz_name (hz_some_e h).1.symm (hz_iret hO dX11_step_73))
      · rw [if_neg hc13] at h
        by_cases hc17 : v2_6 = (1 : Int32)
        · rw [if_pos hc17] at h
          refine hz_tin (tgt := 74) hO hc17 dX11_step_37 (by decide) (by decide) rfl (by decide) ?_
          refine hz_aload_n hO dX11_step_74 rfl 0 rfl ?_
          refine hz_iload_n hO dX11_step_75 rfl 1 rfl ?_
          obtain ⟨r18, M19, hq20, h⟩ := hz_ct_e h
          refine hz_callVi (as := [.int v1_5]) (rest := []) hO (c_X11_warmthOf l w hN v1_5 hq20) hz_cal_X11_warmthOf hz_K_9 hz_sh_178 (hz_lt_178 hN) tw_7_214 (Nat.le_of_ble_eq_true rfl) rfl rfl (Nat.le_of_ble_eq_true rfl) dX11_step_76 ?_
          exact hz_nameM (hz_some_e h).2.symm (hz_name (hz_some_e h).1.symm (hz_iret hO dX11_step_79))
        · rw [if_neg hc17] at h
          by_cases hc21 : v2_6 = (2 : Int32)
          · rw [if_pos hc21] at h
            refine hz_tin (tgt := 80) hO hc21 dX11_step_37 (by decide) (by decide) rfl (by decide) ?_
            refine hz_iconst (v := (5 : Int32)) hO dX11_step_80 (by decide) ?_
            refine hz_iload_n hO dX11_step_81 rfl 1 rfl ?_
            refine hz_iconst (v := (1 : Int32)) hO dX11_step_82 (by decide) ?_
            refine hz_isub hO dX11_step_83 ?_
            refine hz_imul hO dX11_step_84 ?_
            exact hz_nameM (hz_some_e h).2.symm (hz_name (hz_some_e h).1.symm (hz_iret hO dX11_step_85))
          · rw [if_neg hc21] at h
            by_cases hc22 : v2_6 = (3 : Int32)
            · rw [if_pos hc22] at h
              refine hz_tin (tgt := 86) hO hc22 dX11_step_37 (by decide) (by decide) rfl (by decide) ?_
              refine hz_aload_n hO dX11_step_86 rfl 0 rfl ?_
              refine hz_iload_n hO dX11_step_87 rfl 1 rfl ?_
              obtain ⟨r23, M24, hq25, h⟩ := hz_ct_e h
              refine hz_callVi (as := [.int v1_5]) (rest := []) hO (c_X11_eldest l w hN v1_5 hq25) hz_cal_X11_eldest hz_K_9 hz_sh_178 (hz_lt_178 hN) tw_8_130 (Nat.le_of_ble_eq_true rfl) rfl rfl (Nat.le_of_ble_eq_true rfl) dX11_step_88 ?_
              exact hz_nameM (hz_some_e h).2.symm (hz_name (hz_some_e h).1.symm (hz_iret hO dX11_step_91))
            · rw [if_neg hc22] at h
              have hn0 : ¬ v2_6.toInt = 0 := lv_neT hc13 rfl
              have hn1 : ¬ v2_6.toInt = 1 := lv_neT hc17 rfl
              have hn2 : ¬ v2_6.toInt = 2 := lv_neT hc21 rfl
              have hn3 : ¬ v2_6.toInt = 3 := lv_neT hc22 rfl
              refine hz_tout (tgt := 92) hO dX11_step_37 (by omega) (by decide) ?_
              refine hz_aload_n hO dX11_step_92 rfl 0 rfl ?_
              refine hz_iload_n hO dX11_step_93 rfl 1 rfl ?_
              obtain ⟨r26, M27, hq28, h⟩ := hz_ct_e h
              refine hz_callVi (as := [.int v1_5]) (rest := []) hO (c_X11_suffering l w hN v1_5 hq28) hz_cal_X11_suffering hz_K_9 hz_sh_178 (hz_lt_178 hN) tw_8_134 (Nat.le_of_ble_eq_true rfl) rfl rfl (Nat.le_of_ble_eq_true rfl) dX11_step_94 ?_
              exact hz_nameM (hz_some_e h).2.symm (hz_name (hz_some_e h).1.symm (hz_iret hO dX11_step_97))
    · rw [if_pos hc12] at h
      refine hz_iconst (v := (0 : Int32)) hO dX11_step_34 (by decide) ?_
      exact hz_nameM (hz_some_e h).2.symm (hz_name (hz_some_e h).1.symm (hz_iret hO dX11_step_35))
  clear hk29
  obtain ⟨k33, hk33, h⟩ := hz_jn_e h
  have gk33 : ∀ (v1_30 : Int32) (v2_31 : Int32) (M32 : hz_M), k33 v1_30 v2_31 M32 = some (rE, ME) → hz_G p l e 3 hz_z0 s m args below meth c w N 3 (MQ below (hz_Qi w N rE ME) args s 0 0 (hz_A w)) M32 27 [(0, .ref (hz_ad w 178)), (1, .int v1_30), (2, .int v2_31)] [.ref (hz_ad w 178)] := by
    intro v1_30 v2_31 M32 h
    rw [hk33] at h
    dsimp only at h
    refine hz_iconst (v := (0 : Int32)) hO dX11_step_27 (by decide) ?_
    exact hz_ls [0, 1, 2] rfl (gk29 v1_30 v2_31 (0 : Int32) M32 h)
  clear hk33
  refine hz_if_eq (tgt := 27) hO dX11_step_11 (by decide) (fun hc34 => ?_) (fun hc34 => ?_)
  · rw [if_pos hc34] at h
    exact hz_ls [0, 1, 2] rfl (gk33 a1 a2 M3 h)
  · rw [if_neg hc34] at h
    refine hz_iload_n hO dX11_step_14 rfl 2 rfl ?_
    refine hz_iconst (v := (0 : Int32)) hO dX11_step_15 (by decide) ?_
    refine hz_iconst (v := (4 : Int32)) hO dX11_step_16 (by decide) ?_
    obtain ⟨r35, M36, hq37, h⟩ := hz_ct_e h
    refine hz_callSi (as := [.int a2, .int (0 : Int32), .int (4 : Int32)]) (rest := [.ref (hz_ad w 178)]) hO (c_X11_in l w hN a2 (0 : Int32) (4 : Int32) hq37) hz_cal_X11_in tw_6_171 (Nat.le_of_ble_eq_true rfl) rfl rfl (Nat.le_of_ble_eq_true rfl) dX11_step_17 ?_
    refine hz_if_eq (tgt := 27) hO dX11_step_20 (by decide) (fun hc38 => ?_) (fun hc38 => ?_)
    · rw [if_pos hc38] at h
      exact hz_ls [0, 1, 2] rfl (gk33 a1 a2 M36 h)
    · rw [if_neg hc38] at h
      refine hz_iconst (v := (1 : Int32)) hO dX11_step_23 (by decide) ?_
      refine hz_goto (tgt := 28) hO dX11_step_24 (by decide) ?_
      exact hz_ls [0, 1, 2] rfl (gk29 a1 a2 (1 : Int32) M36 h)
def f_X11_driest (M : hz_M) : hz_O :=
  hz_lm (hz_set M 178 8 (0 : Int32)) fun M1 =>
  hz_ct (f_X11_driestOne M1) fun r2 M3 =>
  some (r2, M3)
set_option maxRecDepth 100000 in
set_option maxHeartbeats 4000000 in
theorem c_X11_driest (l : Launch) (w : hz_C) {N : Nat} (hN : 193 ≤ N) {M : hz_M} {rE : Int32} {ME : hz_M} (h : f_X11_driest M = some (rE, ME)) : hz_Ct l yX11_driest cX11_driest 1 (some .int) 3 w N [.ref (hz_ad w 178)] M (hz_Qi w N rE ME) := by
  refine hz_ofW (by decide) rfl (Nat.le_of_ble_eq_true rfl) tw_8_141 ?_
  intro p e s m args below meth c hO
  show hz_G p l e 3 hz_z0 s m args below meth c w N 1 _ M 0 [(0, .ref (hz_ad w 178))] []
  unfold f_X11_driest at h
  refine hz_aload_n hO dX11_driest_0 rfl 0 rfl ?_
  refine hz_iconst (v := (0 : Int32)) hO dX11_driest_1 (by decide) ?_
  obtain ⟨M1, h_M1, h⟩ := hz_lm_e h
  refine hz_putI (k := 8) (ty := .int) hO hz_K_9 tyX11_ok nmX11 hz_sh_178 (hz_lt_178 hN) rfl (Nat.le_of_ble_eq_true rfl) tw_6_237 rfl rfl rfl rfl rfl dX11_driest_2 ?_
  refine hz_nameM h_M1 ?_
  refine hz_aload_n hO dX11_driest_5 rfl 0 rfl ?_
  obtain ⟨r2, M3, hq4, h⟩ := hz_ct_e h
  refine hz_callVi (as := []) (rest := []) hO (c_X11_driestOne l w hN hq4) hz_cal_X11_driestOne hz_K_9 hz_sh_178 (hz_lt_178 hN) tw_8_10 (Nat.le_of_ble_eq_true rfl) rfl rfl (Nat.le_of_ble_eq_true rfl) dX11_driest_6 ?_
  exact hz_nameM (hz_some_e h).2.symm (hz_name (hz_some_e h).1.symm (hz_iret hO dX11_driest_9))
def f_X11_letterOf_L39 (kk56 : Int32 → hz_M → hz_O) : Nat → Int32 → Int32 → Int32 → hz_M → hz_O
  | 0, _, _, _, _ => none
  | n + 1, v2_13, v3_14, v4_15, M16 =>
    if v2_13 ≤ v4_15 then
      kk56 v3_14 M16
    else
      hz_lt ((v3_14 / (27 : Int32))) fun x18 =>
      hz_lt (v4_15 + (1 : Int32)) fun x19 =>
      f_X11_letterOf_L39 kk56 n v2_13 x18 x19 M16
def f_X11_letterOf_L4 (kk19 : Int32 → Int32 → Int32 → hz_M → hz_O) : Nat → Int32 → Int32 → Int32 → Int32 → hz_M → hz_O
  | 0, _, _, _, _, _ => none
  | n + 1, v0_21, v1_22, v2_23, v3_24, M25 =>
    if v3_24 ≤ 0 then
      kk19 v0_21 v1_22 v2_23 M25
    else
      hz_lt (v2_23 + (1 : Int32)) fun x27 =>
      hz_lt ((v3_24 / (27 : Int32))) fun x28 =>
      f_X11_letterOf_L4 kk19 n v0_21 v1_22 x27 x28 M25
def f_X11_letterOf (a0 : Int32) (a1 : Int32) (M : hz_M) : hz_O :=
  hz_jn (fun (v0_1 : Int32) (v1_2 : Int32) (v2_3 : Int32) (M4 : hz_M) =>
    hz_ct (f_X11_in v1_2 (0 : Int32) (v2_3 - (1 : Int32)) M4) fun r5 M6 =>
    if r5 = 0 then
      some ((-1 : Int32), M6)
    else
      hz_lt ((v1_2 + (1 : Int32))) fun x9 =>
      hz_jn (fun (v3_10 : Int32) (M11 : hz_M) =>
        some (((96 : Int32) + (v3_10 - v3_10 / (27 : Int32) * (27 : Int32))), M11)
        ) fun k12 =>
      f_X11_letterOf_L39 k12 hz_FU v2_3 v0_1 x9 M6
    ) fun k20 =>
  f_X11_letterOf_L4 k20 hz_FU a0 a1 (0 : Int32) a0 M
set_option maxRecDepth 100000 in
set_option maxHeartbeats 4000000 in
theorem g_X11_letterOf_L39 {p : Program} {l : Launch} {e : Env} {s : State} {m : MethodId} {args : Array Value} {below : List Frame} {meth : Method} {c : Code} {w : hz_C} {N : Nat} (hN : 193 ≤ N) {rE : Int32} {ME : hz_M} (hO : hz_Ok p s m args meth c w cX11_letterOf 5 RX11 (some .int)) (kk56 : Int32 → hz_M → hz_O) (gkk56 : ∀ (v3_10 : Int32) (M : hz_M), kk56 v3_10 M = some (rE, ME) → hz_G p l e 1 hz_z0 s m args below meth c w N 5 (MQ below (hz_Qi w N rE ME) args s 0 0 (hz_A w)) M 56 [(3, .int v3_10)] []) : ∀ (n : Nat) (v2_13 : Int32) (v3_14 : Int32) (v4_15 : Int32) (M16 : hz_M), f_X11_letterOf_L39 kk56 n v2_13 v3_14 v4_15 M16 = some (rE, ME) → hz_G p l e 1 hz_z0 s m args below meth c w N 5 (MQ below (hz_Qi w N rE ME) args s 0 0 (hz_A w)) M16 39 [(2, .int v2_13), (3, .int v3_14), (4, .int v4_15)] [] := by
  intro n
  induction n with
  | zero =>
    intro v2_13 v3_14 v4_15 M16 h
    rw [f_X11_letterOf_L39] at h
    cases h
  | succ n ih =>
    intro v2_13 v3_14 v4_15 M16 h
    rw [f_X11_letterOf_L39] at h
    refine hz_iload hO dX11_letterOf_39 2 rfl ?_
    refine hz_iload_n hO dX11_letterOf_41 rfl 0 rfl ?_
    refine hz_icmp_ge (tgt := 56) hO dX11_letterOf_42 (by decide) (fun hc17 => ?_) (fun hc17 => ?_)
    · rw [if_pos hc17] at h
      exact hz_ls [1] rfl (gkk56 v3_14 M16 h)
    · rw [if_neg hc17] at h
      refine hz_iload_n hO dX11_letterOf_45 rfl 1 rfl ?_
      refine hz_bipush (v := (27 : Int32)) hO dX11_letterOf_46 (by decide) ?_
      refine hz_idiv hO dX11_letterOf_48 (by decide) ?_
      obtain ⟨x18, h_x18, h⟩ := hz_lt_e h
      refine hz_name h_x18 ?_
      refine hz_istore_n (ls1 := [(3, .int x18), (2, .int v2_13), (4, .int v4_15)]) hO dX11_letterOf_49 rfl (Nat.le_of_ble_eq_true rfl) rfl ?_
      obtain ⟨x19, h_x19, h⟩ := hz_lt_e h
      refine hz_iinc (k := 2) (v := x19) (ls1 := [(4, .int x19), (3, .int x18), (2, .int v2_13)]) hO dX11_letterOf_50 rfl (by rw [h_x19]; rfl) (Nat.le_of_ble_eq_true rfl) rfl ?_
      refine hz_goto (tgt := 39) hO dX11_letterOf_53 (by decide) ?_
      exact hz_ls [2, 1, 0] rfl (ih v2_13 x18 x19 M16 h)
set_option maxRecDepth 100000 in
set_option maxHeartbeats 4000000 in
theorem g_X11_letterOf_L4 {p : Program} {l : Launch} {e : Env} {s : State} {m : MethodId} {args : Array Value} {below : List Frame} {meth : Method} {c : Code} {w : hz_C} {N : Nat} (hN : 193 ≤ N) {rE : Int32} {ME : hz_M} (hO : hz_Ok p s m args meth c w cX11_letterOf 5 RX11 (some .int)) (kk19 : Int32 → Int32 → Int32 → hz_M → hz_O) (gkk19 : ∀ (v0_1 : Int32) (v1_2 : Int32) (v2_3 : Int32) (M : hz_M), kk19 v0_1 v1_2 v2_3 M = some (rE, ME) → hz_G p l e 1 hz_z0 s m args below meth c w N 5 (MQ below (hz_Qi w N rE ME) args s 0 0 (hz_A w)) M 19 [(0, .int v0_1), (1, .int v1_2), (2, .int v2_3)] []) : ∀ (n : Nat) (v0_21 : Int32) (v1_22 : Int32) (v2_23 : Int32) (v3_24 : Int32) (M25 : hz_M), f_X11_letterOf_L4 kk19 n v0_21 v1_22 v2_23 v3_24 M25 = some (rE, ME) → hz_G p l e 1 hz_z0 s m args below meth c w N 5 (MQ below (hz_Qi w N rE ME) args s 0 0 (hz_A w)) M25 4 [(0, .int v0_21), (1, .int v1_22), (2, .int v2_23), (3, .int v3_24)] [] := by
  intro n
  induction n with
  | zero =>
    intro v0_21 v1_22 v2_23 v3_24 M25 h
    rw [f_X11_letterOf_L4] at h
    cases h
  | succ n ih =>
    intro v0_21 v1_22 v2_23 v3_24 M25 h
    rw [f_X11_letterOf_L4] at h
    refine hz_iload_n hO dX11_letterOf_4 rfl 3 rfl ?_
    refine hz_if_le (tgt := 19) hO dX11_letterOf_5 (by decide) (fun hc26 => ?_) (fun hc26 => ?_)
    · rw [if_pos hc26] at h
      exact hz_ls [0, 1, 2] rfl (gkk19 v0_21 v1_22 v2_23 M25 h)
    · rw [if_neg hc26] at h
      obtain ⟨x27, h_x27, h⟩ := hz_lt_e h
      refine hz_iinc (k := 2) (v := x27) (ls1 := [(2, .int x27), (0, .int v0_21), (1, .int v1_22), (3, .int v3_24)]) hO dX11_letterOf_8 rfl (by rw [h_x27]; rfl) (Nat.le_of_ble_eq_true rfl) rfl ?_
      refine hz_iload_n hO dX11_letterOf_11 rfl 3 rfl ?_
      refine hz_bipush (v := (27 : Int32)) hO dX11_letterOf_12 (by decide) ?_
      refine hz_idiv hO dX11_letterOf_14 (by decide) ?_
      obtain ⟨x28, h_x28, h⟩ := hz_lt_e h
      refine hz_name h_x28 ?_
      refine hz_istore_n (ls1 := [(3, .int x28), (2, .int x27), (0, .int v0_21), (1, .int v1_22)]) hO dX11_letterOf_15 rfl (Nat.le_of_ble_eq_true rfl) rfl ?_
      refine hz_goto (tgt := 4) hO dX11_letterOf_16 (by decide) ?_
      exact hz_ls [2, 3, 1, 0] rfl (ih v0_21 v1_22 x27 x28 M25 h)
set_option maxRecDepth 100000 in
set_option maxHeartbeats 4000000 in
theorem c_X11_letterOf (l : Launch) (w : hz_C) {N : Nat} (hN : 193 ≤ N) (a0 : Int32) (a1 : Int32) {M : hz_M} {rE : Int32} {ME : hz_M} (h : f_X11_letterOf a0 a1 M = some (rE, ME)) : hz_Ct l yX11_letterOf cX11_letterOf 5 (some .int) 1 w N [.int a0, .int a1] M (hz_Qi w N rE ME) := by
  refine hz_ofW (by decide) rfl (Nat.le_of_ble_eq_true rfl) tw_8_148 ?_
  intro p e s m args below meth c hO
  show hz_G p l e 1 hz_z0 s m args below meth c w N 5 _ M 0 [(0, .int a0), (1, .int a1)] []
  unfold f_X11_letterOf at h
  refine hz_iconst (v := (0 : Int32)) hO dX11_letterOf_0 (by decide) ?_
  refine hz_istore_n (ls1 := [(2, .int (0 : Int32)), (0, .int a0), (1, .int a1)]) hO dX11_letterOf_1 rfl (Nat.le_of_ble_eq_true rfl) rfl ?_
  refine hz_iload_n hO dX11_letterOf_2 rfl 1 rfl ?_
  refine hz_istore_n (ls1 := [(3, .int a0), (2, .int (0 : Int32)), (0, .int a0), (1, .int a1)]) hO dX11_letterOf_3 rfl (Nat.le_of_ble_eq_true rfl) rfl ?_
  obtain ⟨k20, hk20, h⟩ := hz_jn_e h
  have gk20 : ∀ (v0_1 : Int32) (v1_2 : Int32) (v2_3 : Int32) (M4 : hz_M), k20 v0_1 v1_2 v2_3 M4 = some (rE, ME) → hz_G p l e 1 hz_z0 s m args below meth c w N 5 (MQ below (hz_Qi w N rE ME) args s 0 0 (hz_A w)) M4 19 [(0, .int v0_1), (1, .int v1_2), (2, .int v2_3)] [] := by
    intro v0_1 v1_2 v2_3 M4 h
    rw [hk20] at h
    dsimp only at h
    refine hz_iload_n hO dX11_letterOf_19 rfl 1 rfl ?_
    refine hz_iconst (v := (0 : Int32)) hO dX11_letterOf_20 (by decide) ?_
    refine hz_iload_n hO dX11_letterOf_21 rfl 2 rfl ?_
    refine hz_iconst (v := (1 : Int32)) hO dX11_letterOf_22 (by decide) ?_
    refine hz_isub hO dX11_letterOf_23 ?_
    obtain ⟨r5, M6, hq7, h⟩ := hz_ct_e h
    refine hz_callSi (as := [.int v1_2, .int (0 : Int32), .int (v2_3 - (1 : Int32))]) (rest := []) hO (c_X11_in l w hN v1_2 (0 : Int32) (v2_3 - (1 : Int32)) hq7) hz_cal_X11_in tw_6_171 (Nat.le_of_ble_eq_true rfl) rfl rfl (Nat.le_of_ble_eq_true rfl) dX11_letterOf_24 ?_
    refine hz_if_ne (tgt := 32) hO dX11_letterOf_27 (by decide) (fun hc8 => ?_) (fun hc8 => ?_)
    · rw [if_neg hc8] at h
      refine hz_iload_n hO dX11_letterOf_32 rfl 0 rfl ?_
      refine hz_istore_n (ls1 := [(3, .int v0_1), (0, .int v0_1), (1, .int v1_2), (2, .int v2_3)]) hO dX11_letterOf_33 rfl (Nat.le_of_ble_eq_true rfl) rfl ?_
      refine hz_iload_n hO dX11_letterOf_34 rfl 2 rfl ?_
      refine hz_iconst (v := (1 : Int32)) hO dX11_letterOf_35 (by decide) ?_
      refine hz_iadd hO dX11_letterOf_36 ?_
      obtain ⟨x9, h_x9, h⟩ := hz_lt_e h
      refine hz_name h_x9 ?_
      refine hz_istore (ls1 := [(4, .int x9), (3, .int v0_1), (0, .int v0_1), (1, .int v1_2), (2, .int v2_3)]) hO dX11_letterOf_37 (Nat.le_of_ble_eq_true rfl) rfl ?_
      obtain ⟨k12, hk12, h⟩ := hz_jn_e h
      have gk12 : ∀ (v3_10 : Int32) (M11 : hz_M), k12 v3_10 M11 = some (rE, ME) → hz_G p l e 1 hz_z0 s m args below meth c w N 5 (MQ below (hz_Qi w N rE ME) args s 0 0 (hz_A w)) M11 56 [(3, .int v3_10)] [] := by
        intro v3_10 M11 h
        rw [hk12] at h
        dsimp only at h
        refine hz_bipush (v := (96 : Int32)) hO dX11_letterOf_56 (by decide) ?_
        refine hz_iload_n hO dX11_letterOf_58 rfl 0 rfl ?_
        refine hz_bipush (v := (27 : Int32)) hO dX11_letterOf_59 (by decide) ?_
        refine hz_irem hO dX11_letterOf_61 (by decide) ?_
        refine hz_iadd hO dX11_letterOf_62 ?_
        exact hz_nameM (hz_some_e h).2.symm (hz_name (hz_some_e h).1.symm (hz_iret hO dX11_letterOf_63))
      clear hk12
      exact hz_ls [4, 1, 0] rfl (g_X11_letterOf_L39 hN hO _ gk12 _ v2_3 v0_1 x9 M6 h)
    · rw [if_pos hc8] at h
      refine hz_iconst (v := (-1 : Int32)) hO dX11_letterOf_30 (by decide) ?_
      exact hz_nameM (hz_some_e h).2.symm (hz_name (hz_some_e h).1.symm (hz_iret hO dX11_letterOf_31))
  clear hk20
  exact hz_ls [2, 3, 1, 0] rfl (g_X11_letterOf_L4 hN hO _ gk20 _ a0 a1 (0 : Int32) a0 M h)
def f_X11_letter (a1 : Int32) (a2 : Int32) (M : hz_M) : hz_O :=
  hz_lm (hz_set M 178 8 (0 : Int32)) fun M1 =>
  hz_ct (f_X11_isGuest a1 M1) fun r2 M3 =>
  hz_ct (f_X11_right r2 M3) fun r5 M6 =>
  if r5 = 0 then
    some ((0 : Int32), M6)
  else
    hz_ct (f_X11_of a1 (0 : Int32) M6) fun r9 M10 =>
    hz_ct (f_X11_letterOf r9 a2 M10) fun r12 M13 =>
    some (r12, M13)
set_option maxRecDepth 100000 in
set_option maxHeartbeats 4000000 in
theorem c_X11_letter (l : Launch) (w : hz_C) {N : Nat} (hN : 193 ≤ N) (a1 : Int32) (a2 : Int32) {M : hz_M} {rE : Int32} {ME : hz_M} (h : f_X11_letter a1 a2 M = some (rE, ME)) : hz_Ct l yX11_letter cX11_letter 3 (some .int) 2 w N [.ref (hz_ad w 178), .int a1, .int a2] M (hz_Qi w N rE ME) := by
  refine hz_ofW (by decide) rfl (Nat.le_of_ble_eq_true rfl) tw_8_145 ?_
  intro p e s m args below meth c hO
  show hz_G p l e 2 hz_z0 s m args below meth c w N 3 _ M 0 [(0, .ref (hz_ad w 178)), (1, .int a1), (2, .int a2)] []
  unfold f_X11_letter at h
  refine hz_aload_n hO dX11_letter_0 rfl 0 rfl ?_
  refine hz_iconst (v := (0 : Int32)) hO dX11_letter_1 (by decide) ?_
  obtain ⟨M1, h_M1, h⟩ := hz_lm_e h
  refine hz_putI (k := 8) (ty := .int) hO hz_K_9 tyX11_ok nmX11 hz_sh_178 (hz_lt_178 hN) rfl (Nat.le_of_ble_eq_true rfl) tw_6_237 rfl rfl rfl rfl rfl dX11_letter_2 ?_
  refine hz_nameM h_M1 ?_
  refine hz_aload_n hO dX11_letter_5 rfl 0 rfl ?_
  refine hz_aload_n hO dX11_letter_6 rfl 0 rfl ?_
  refine hz_iload_n hO dX11_letter_7 rfl 1 rfl ?_
  obtain ⟨r2, M3, hq4, h⟩ := hz_ct_e h
  refine hz_callVi (as := [.int a1]) (rest := [.ref (hz_ad w 178)]) hO (c_X11_isGuest l w hN a1 hq4) hz_cal_X11_isGuest hz_K_9 hz_sh_178 (hz_lt_178 hN) tw_8_102 (Nat.le_of_ble_eq_true rfl) rfl rfl (Nat.le_of_ble_eq_true rfl) dX11_letter_8 ?_
  obtain ⟨r5, M6, hq7, h⟩ := hz_ct_e h
  refine hz_callVi (as := [.int r2]) (rest := []) hO (c_X11_right l w hN r2 hq7) hz_cal_X11_right hz_K_9 hz_sh_178 (hz_lt_178 hN) tw_8_82 (Nat.le_of_ble_eq_true rfl) rfl rfl (Nat.le_of_ble_eq_true rfl) dX11_letter_11 ?_
  refine hz_if_eq (tgt := 30) hO dX11_letter_14 (by decide) (fun hc8 => ?_) (fun hc8 => ?_)
  · rw [if_pos hc8] at h
    refine hz_iconst (v := (0 : Int32)) hO dX11_letter_30 (by decide) ?_
    exact hz_nameM (hz_some_e h).2.symm (hz_name (hz_some_e h).1.symm (hz_iret hO dX11_letter_31))
  · rw [if_neg hc8] at h
    refine hz_aload_n hO dX11_letter_17 rfl 0 rfl ?_
    refine hz_iload_n hO dX11_letter_18 rfl 1 rfl ?_
    refine hz_iconst (v := (0 : Int32)) hO dX11_letter_19 (by decide) ?_
    obtain ⟨r9, M10, hq11, h⟩ := hz_ct_e h
    refine hz_callVi (as := [.int a1, .int (0 : Int32)]) (rest := []) hO (c_X11_of l w hN a1 (0 : Int32) hq11) hz_cal_X11_of hz_K_9 hz_sh_178 (hz_lt_178 hN) tw_6_217 (Nat.le_of_ble_eq_true rfl) rfl rfl (Nat.le_of_ble_eq_true rfl) dX11_letter_20 ?_
    refine hz_iload_n hO dX11_letter_23 rfl 2 rfl ?_
    obtain ⟨r12, M13, hq14, h⟩ := hz_ct_e h
    refine hz_callSi (as := [.int r9, .int a2]) (rest := []) hO (c_X11_letterOf l w hN r9 a2 hq14) hz_cal_X11_letterOf tw_8_146 (Nat.le_of_ble_eq_true rfl) rfl rfl (Nat.le_of_ble_eq_true rfl) dX11_letter_24 ?_
    refine hz_goto (tgt := 31) hO dX11_letter_27 (by decide) ?_
    exact hz_nameM (hz_some_e h).2.symm (hz_name (hz_some_e h).1.symm (hz_iret hO dX11_letter_31))
def f_X11_find_L22 (kk54 : hz_M → hz_O) : Nat → Int32 → hz_M → hz_O
  | 0, _, _ => none
  | n + 1, v1_14, M15 =>
    if (M15 178 11) ≤ v1_14 then
      kk54 M15
    else
      hz_gd (hz_in v1_14 600) <|
      hz_ct (f_X11_in (M15 186 (Int32.toNatClampNeg v1_14)) (97 : Int32) (122 : Int32) M15) fun r18 M19 =>
      if r18 = 0 then
        some ((-1 : Int32), M19)
      else
        hz_lt (v1_14 + (1 : Int32)) fun x22 =>
        f_X11_find_L22 kk54 n x22 M19
def f_X11_find (M : hz_M) : hz_O :=
  hz_lm (hz_set M 178 8 (0 : Int32)) fun M1 =>
  hz_ct (f_X11_in (M1 178 11) (1 : Int32) (6 : Int32) M1) fun r2 M3 =>
  if r2 = 0 then
    some ((-1 : Int32), M3)
  else
    hz_jn (fun  (M6 : hz_M) =>
      hz_ct (f_X11_packed (0 : Int32) (M6 178 11) M6) fun r7 M8 =>
      hz_ct (f_X11_named r7 M8) fun r10 M11 =>
      some (r10, M11)
      ) fun k13 =>
    f_X11_find_L22 k13 hz_FU (0 : Int32) M3
set_option maxRecDepth 100000 in
set_option maxHeartbeats 4000000 in
theorem g_X11_find_L22 {p : Program} {l : Launch} {e : Env} {s : State} {m : MethodId} {args : Array Value} {below : List Frame} {meth : Method} {c : Code} {w : hz_C} {N : Nat} (hN : 193 ≤ N) {rE : Int32} {ME : hz_M} (hO : hz_Ok p s m args meth c w cX11_find 2 RX11 (some .int)) (kk54 : hz_M → hz_O) (gkk54 : ∀  (M : hz_M), kk54 M = some (rE, ME) → hz_G p l e 2 hz_z0 s m args below meth c w N 2 (MQ below (hz_Qi w N rE ME) args s 0 0 (hz_A w)) M 54 [(0, .ref (hz_ad w 178))] []) : ∀ (n : Nat) (v1_14 : Int32) (M15 : hz_M), f_X11_find_L22 kk54 n v1_14 M15 = some (rE, ME) → hz_G p l e 2 hz_z0 s m args below meth c w N 2 (MQ below (hz_Qi w N rE ME) args s 0 0 (hz_A w)) M15 22 [(0, .ref (hz_ad w 178)), (1, .int v1_14)] [] := by
  intro n
  induction n with
  | zero =>
    intro v1_14 M15 h
    rw [f_X11_find_L22] at h
    cases h
  | succ n ih =>
    intro v1_14 M15 h
    rw [f_X11_find_L22] at h
    refine hz_iload_n hO dX11_find_22 rfl 1 rfl ?_
    refine hz_aload_n hO dX11_find_23 rfl 0 rfl ?_
    refine hz_getI (k := 11) hO hz_K_9 hz_sh_178 (hz_lt_178 hN) rfl (Nat.le_of_ble_eq_true rfl) tw_7_0 rfl dX11_find_24 ?_
    refine hz_icmp_ge (tgt := 54) hO dX11_find_27 (by decide) (fun hc16 => ?_) (fun hc16 => ?_)
    · rw [if_pos hc16] at h
      exact hz_ls [0] rfl (gkk54 M15 h)
    · rw [if_neg hc16] at h
      refine hz_aload_n hO dX11_find_30 rfl 0 rfl ?_
      refine hz_getR (k := 10) hO 186 hz_K_9 hz_sh_178 (hz_lt_178 hN) rfl (Nat.le_of_ble_eq_true rfl) tw_6_239 rfl dX11_find_31 ?_
      refine hz_iload_n hO dX11_find_34 rfl 1 rfl ?_
      obtain ⟨hg17, h⟩ := hz_gd_e h
      refine hz_iald hO hz_sh_186 (hz_lt_186 hN) hg17 dX11_find_35 ?_
      refine hz_bipush (v := (97 : Int32)) hO dX11_find_36 (by decide) ?_
      refine hz_bipush (v := (122 : Int32)) hO dX11_find_38 (by decide) ?_
      obtain ⟨r18, M19, hq20, h⟩ := hz_ct_e h
      refine hz_callSi (as := [.int (M15 186 (Int32.toNatClampNeg v1_14)), .int (97 : Int32), .int (122 : Int32)]) (rest := []) hO (c_X11_in l w hN (M15 186 (Int32.toNatClampNeg v1_14)) (97 : Int32) (122 : Int32) hq20) hz_cal_X11_in tw_6_171 (Nat.le_of_ble_eq_true rfl) rfl rfl (Nat.le_of_ble_eq_true rfl) dX11_find_40 ?_
      refine hz_if_ne (tgt := 48) hO dX11_find_43 (by decide) (fun hc21 => ?_) (fun hc21 => ?_)
      · rw [if_neg hc21] at h
        obtain ⟨x22, h_x22, h⟩ := hz_lt_e h
        refine hz_iinc (k := 1) (v := x22) (ls1 := [(1, .int x22), (0, .ref (hz_ad w 178))]) hO dX11_find_48 rfl (by rw [h_x22]; rfl) (Nat.le_of_ble_eq_true rfl) rfl ?_
        refine hz_goto (tgt := 22) hO dX11_find_51 (by decide) ?_
        exact hz_ls [1, 0] rfl (ih x22 M19 h)
      · rw [if_pos hc21] at h
        refine hz_iconst (v := (-1 : Int32)) hO dX11_find_46 (by decide) ?_
        exact hz_nameM (hz_some_e h).2.symm (hz_name (hz_some_e h).1.symm (hz_iret hO dX11_find_47))
set_option maxRecDepth 100000 in
set_option maxHeartbeats 4000000 in
theorem c_X11_find (l : Launch) (w : hz_C) {N : Nat} (hN : 193 ≤ N) {M : hz_M} {rE : Int32} {ME : hz_M} (h : f_X11_find M = some (rE, ME)) : hz_Ct l yX11_find cX11_find 2 (some .int) 2 w N [.ref (hz_ad w 178)] M (hz_Qi w N rE ME) := by
  refine hz_ofW (by decide) rfl (Nat.le_of_ble_eq_true rfl) tw_8_152 ?_
  intro p e s m args below meth c hO
  show hz_G p l e 2 hz_z0 s m args below meth c w N 2 _ M 0 [(0, .ref (hz_ad w 178))] []
  unfold f_X11_find at h
  refine hz_aload_n hO dX11_find_0 rfl 0 rfl ?_
  refine hz_iconst (v := (0 : Int32)) hO dX11_find_1 (by decide) ?_
  obtain ⟨M1, h_M1, h⟩ := hz_lm_e h
  refine hz_putI (k := 8) (ty := .int) hO hz_K_9 tyX11_ok nmX11 hz_sh_178 (hz_lt_178 hN) rfl (Nat.le_of_ble_eq_true rfl) tw_6_237 rfl rfl rfl rfl rfl dX11_find_2 ?_
  refine hz_nameM h_M1 ?_
  refine hz_aload_n hO dX11_find_5 rfl 0 rfl ?_
  refine hz_getI (k := 11) hO hz_K_9 hz_sh_178 (hz_lt_178 hN) rfl (Nat.le_of_ble_eq_true rfl) tw_7_0 rfl dX11_find_6 ?_
  refine hz_iconst (v := (1 : Int32)) hO dX11_find_9 (by decide) ?_
  refine hz_bipush (v := (6 : Int32)) hO dX11_find_10 (by decide) ?_
  obtain ⟨r2, M3, hq4, h⟩ := hz_ct_e h
  refine hz_callSi (as := [.int (M1 178 11), .int (1 : Int32), .int (6 : Int32)]) (rest := []) hO (c_X11_in l w hN (M1 178 11) (1 : Int32) (6 : Int32) hq4) hz_cal_X11_in tw_6_171 (Nat.le_of_ble_eq_true rfl) rfl rfl (Nat.le_of_ble_eq_true rfl) dX11_find_12 ?_
  refine hz_if_ne (tgt := 20) hO dX11_find_15 (by decide) (fun hc5 => ?_) (fun hc5 => ?_)
  · rw [if_neg hc5] at h
    refine hz_iconst (v := (0 : Int32)) hO dX11_find_20 (by decide) ?_
    refine hz_istore_n (ls1 := [(1, .int (0 : Int32)), (0, .ref (hz_ad w 178))]) hO dX11_find_21 rfl (Nat.le_of_ble_eq_true rfl) rfl ?_
    obtain ⟨k13, hk13, h⟩ := hz_jn_e h
    have gk13 : ∀  (M6 : hz_M), k13 M6 = some (rE, ME) → hz_G p l e 2 hz_z0 s m args below meth c w N 2 (MQ below (hz_Qi w N rE ME) args s 0 0 (hz_A w)) M6 54 [(0, .ref (hz_ad w 178))] [] := by
      intro M6 h
      rw [hk13] at h
      dsimp only at h
      refine hz_aload_n hO dX11_find_54 rfl 0 rfl ?_
      refine hz_aload_n hO dX11_find_55 rfl 0 rfl ?_
      refine hz_iconst (v := (0 : Int32)) hO dX11_find_56 (by decide) ?_
      refine hz_aload_n hO dX11_find_57 rfl 0 rfl ?_
      refine hz_getI (k := 11) hO hz_K_9 hz_sh_178 (hz_lt_178 hN) rfl (Nat.le_of_ble_eq_true rfl) tw_7_0 rfl dX11_find_58 ?_
      obtain ⟨r7, M8, hq9, h⟩ := hz_ct_e h
      refine hz_callVi (as := [.int (0 : Int32), .int (M6 178 11)]) (rest := [.ref (hz_ad w 178)]) hO (c_X11_packed l w hN (0 : Int32) (M6 178 11) hq9) hz_cal_X11_packed hz_K_9 hz_sh_178 (hz_lt_178 hN) tw_6_209 (Nat.le_of_ble_eq_true rfl) rfl rfl (Nat.le_of_ble_eq_true rfl) dX11_find_61 ?_
      obtain ⟨r10, M11, hq12, h⟩ := hz_ct_e h
      refine hz_callVi (as := [.int r7]) (rest := []) hO (c_X11_named l w hN r7 hq12) hz_cal_X11_named hz_K_9 hz_sh_178 (hz_lt_178 hN) tw_6_213 (Nat.le_of_ble_eq_true rfl) rfl rfl (Nat.le_of_ble_eq_true rfl) dX11_find_64 ?_
      exact hz_nameM (hz_some_e h).2.symm (hz_name (hz_some_e h).1.symm (hz_iret hO dX11_find_67))
    clear hk13
    exact hz_ls [1, 0] rfl (g_X11_find_L22 hN hO _ gk13 _ (0 : Int32) M3 h)
  · rw [if_pos hc5] at h
    refine hz_iconst (v := (-1 : Int32)) hO dX11_find_18 (by decide) ?_
    exact hz_nameM (hz_some_e h).2.symm (hz_name (hz_some_e h).1.symm (hz_iret hO dX11_find_19))
def f_X11_why (a1 : Int32) (a2 : Int32) (a3 : Int32) (M : hz_M) : hz_O :=
  hz_lm (hz_set M 178 8 (0 : Int32)) fun M1 =>
  hz_ct (f_X11_isGuest a1 M1) fun r2 M3 =>
  hz_jn (fun (v1_5 : Int32) (v2_6 : Int32) (v3_7 : Int32) (q8 : Int32) (M9 : hz_M) =>
    hz_ct (f_X11_right q8 M9) fun r10 M11 =>
    if r10 = 0 then
      some ((0 : Int32), M11)
    else
      if v3_7 = 0 then
        hz_ct (f_X11_reasonOf v1_5 v2_6 M11) fun r18 M19 =>
        some (r18, M19)
      else
        hz_ct (f_X11_causeOf v1_5 v2_6 M11) fun r15 M16 =>
        some (r15, M16)
    ) fun k21 =>
  hz_jn (fun (v1_22 : Int32) (v2_23 : Int32) (v3_24 : Int32) (M25 : hz_M) =>
    k21 v1_22 v2_23 v3_24 (0 : Int32) M25
    ) fun k26 =>
  if r2 = 0 then
    k26 a1 a2 a3 M3
  else
    hz_ct (f_X11_isDeed a2 M3) fun r28 M29 =>
    if r28 = 0 then
      k26 a1 a2 a3 M29
    else
      hz_ct (f_X11_in a3 (0 : Int32) (1 : Int32) M29) fun r32 M33 =>
      if r32 = 0 then
        k26 a1 a2 a3 M33
      else
        k21 a1 a2 a3 (1 : Int32) M33
set_option maxRecDepth 100000 in
set_option maxHeartbeats 4000000 in
theorem c_X11_why (l : Launch) (w : hz_C) {N : Nat} (hN : 193 ≤ N) (a1 : Int32) (a2 : Int32) (a3 : Int32) {M : hz_M} {rE : Int32} {ME : hz_M} (h : f_X11_why a1 a2 a3 M = some (rE, ME)) : hz_Ct l yX11_why cX11_why 4 (some .int) 6 w N [.ref (hz_ad w 178), .int a1, .int a2, .int a3] M (hz_Qi w N rE ME) := by
  refine hz_ofW (by decide) rfl (Nat.le_of_ble_eq_true rfl) tw_8_156 ?_
  intro p e s m args below meth c hO
  show hz_G p l e 6 hz_z0 s m args below meth c w N 4 _ M 0 [(0, .ref (hz_ad w 178)), (1, .int a1), (2, .int a2), (3, .int a3)] []
  unfold f_X11_why at h
  refine hz_aload_n hO dX11_why_0 rfl 0 rfl ?_
  refine hz_iconst (v := (0 : Int32)) hO dX11_why_1 (by decide) ?_
  obtain ⟨M1, h_M1, h⟩ := hz_lm_e h
  refine hz_putI (k := 8) (ty := .int) hO hz_K_9 tyX11_ok nmX11 hz_sh_178 (hz_lt_178 hN) rfl (Nat.le_of_ble_eq_true rfl) tw_6_237 rfl rfl rfl rfl rfl dX11_why_2 ?_
  refine hz_nameM h_M1 ?_
  refine hz_aload_n hO dX11_why_5 rfl 0 rfl ?_
  refine hz_aload_n hO dX11_why_6 rfl 0 rfl ?_
  refine hz_iload_n hO dX11_why_7 rfl 1 rfl ?_
  obtain ⟨r2, M3, hq4, h⟩ := hz_ct_e h
  refine hz_callVi (as := [.int a1]) (rest := [.ref (hz_ad w 178)]) hO (c_X11_isGuest l w hN a1 hq4) hz_cal_X11_isGuest hz_K_9 hz_sh_178 (hz_lt_178 hN) tw_8_102 (Nat.le_of_ble_eq_true rfl) rfl rfl (Nat.le_of_ble_eq_true rfl) dX11_why_8 ?_
  obtain ⟨k21, hk21, h⟩ := hz_jn_e h
  have gk21 : ∀ (v1_5 : Int32) (v2_6 : Int32) (v3_7 : Int32) (q8 : Int32) (M9 : hz_M), k21 v1_5 v2_6 v3_7 q8 M9 = some (rE, ME) → hz_G p l e 6 hz_z0 s m args below meth c w N 4 (MQ below (hz_Qi w N rE ME) args s 0 0 (hz_A w)) M9 36 [(0, .ref (hz_ad w 178)), (1, .int v1_5), (2, .int v2_6), (3, .int v3_7)] [.int q8, .ref (hz_ad w 178)] := by
    intro v1_5 v2_6 v3_7 q8 M9 h
    rw [hk21] at h
    dsimp only at h
    obtain ⟨r10, M11, hq12, h⟩ := hz_ct_e h
    refine hz_callVi (as := [.int q8]) (rest := []) hO (c_X11_right l w hN q8 hq12) hz_cal_X11_right hz_K_9 hz_sh_178 (hz_lt_178 hN) tw_8_82 (Nat.le_of_ble_eq_true rfl) rfl rfl (Nat.le_of_ble_eq_true rfl) dX11_why_36 ?_
    refine hz_if_ne (tgt := 44) hO dX11_why_39 (by decide) (fun hc13 => ?_) (fun hc13 => ?_)
    · rw [if_neg hc13] at h
      refine hz_iload_n hO dX11_why_44 rfl 3 rfl ?_
      refine hz_if_ne (tgt := 57) hO dX11_why_45 (by decide) (fun hc14 => ?_) (fun hc14 => ?_)
      · rw [if_neg hc14] at h
        refine hz_aload_n hO dX11_why_57 rfl 0 rfl ?_
        refine hz_iload_n hO dX11_why_58 rfl 1 rfl ?_
        refine hz_iload_n hO dX11_why_59 rfl 2 rfl ?_
        obtain ⟨r15, M16, hq17, h⟩ := hz_ct_e h
        refine hz_callVi (as := [.int v1_5, .int v2_6]) (rest := []) hO (c_X11_causeOf l w hN v1_5 v2_6 hq17) hz_cal_X11_causeOf hz_K_9 hz_sh_178 (hz_lt_178 hN) tw_8_165 (Nat.le_of_ble_eq_true rfl) rfl rfl (Nat.le_of_ble_eq_true rfl) dX11_why_60 ?_
        exact hz_nameM (hz_some_e h).2.symm (hz_name (hz_some_e h).1.symm (hz_iret hO dX11_why_63))
      · rw [if_pos hc14] at h
        refine hz_aload_n hO dX11_why_48 rfl 0 rfl ?_
        refine hz_iload_n hO dX11_why_49 rfl 1 rfl ?_
        refine hz_iload_n hO dX11_why_50 rfl 2 rfl ?_
        obtain ⟨r18, M19, hq20, h⟩ := hz_ct_e h
        refine hz_callVi (as := [.int v1_5, .int v2_6]) (rest := []) hO (c_X11_reasonOf l w hN v1_5 v2_6 hq20) hz_cal_X11_reasonOf hz_K_9 hz_sh_178 (hz_lt_178 hN) tw_8_161 (Nat.le_of_ble_eq_true rfl) rfl rfl (Nat.le_of_ble_eq_true rfl) dX11_why_51 ?_
        refine hz_goto (tgt := 63) hO dX11_why_54 (by decide) ?_
        exact hz_nameM (hz_some_e h).2.symm (hz_name (hz_some_e h).1.symm (hz_iret hO dX11_why_63))
    · rw [if_pos hc13] at h
      refine hz_iconst (v := (0 : Int32)) hO dX11_why_42 (by decide) ?_
      exact hz_nameM (hz_some_e h).2.symm (hz_name (hz_some_e h).1.symm (hz_iret hO dX11_why_43))
  clear hk21
  obtain ⟨k26, hk26, h⟩ := hz_jn_e h
  have gk26 : ∀ (v1_22 : Int32) (v2_23 : Int32) (v3_24 : Int32) (M25 : hz_M), k26 v1_22 v2_23 v3_24 M25 = some (rE, ME) → hz_G p l e 6 hz_z0 s m args below meth c w N 4 (MQ below (hz_Qi w N rE ME) args s 0 0 (hz_A w)) M25 35 [(0, .ref (hz_ad w 178)), (1, .int v1_22), (2, .int v2_23), (3, .int v3_24)] [.ref (hz_ad w 178)] := by
    intro v1_22 v2_23 v3_24 M25 h
    rw [hk26] at h
    dsimp only at h
    refine hz_iconst (v := (0 : Int32)) hO dX11_why_35 (by decide) ?_
    exact hz_ls [0, 1, 2, 3] rfl (gk21 v1_22 v2_23 v3_24 (0 : Int32) M25 h)
  clear hk26
  refine hz_if_eq (tgt := 35) hO dX11_why_11 (by decide) (fun hc27 => ?_) (fun hc27 => ?_)
  · rw [if_pos hc27] at h
    exact hz_ls [0, 1, 2, 3] rfl (gk26 a1 a2 a3 M3 h)
  · rw [if_neg hc27] at h
    refine hz_aload_n hO dX11_why_14 rfl 0 rfl ?_
    refine hz_iload_n hO dX11_why_15 rfl 2 rfl ?_
    obtain ⟨r28, M29, hq30, h⟩ := hz_ct_e h
    refine hz_callVi (as := [.int a2]) (rest := [.ref (hz_ad w 178)]) hO (c_X11_isDeed l w hN a2 hq30) hz_cal_X11_isDeed hz_K_9 hz_sh_178 (hz_lt_178 hN) tw_8_157 (Nat.le_of_ble_eq_true rfl) rfl rfl (Nat.le_of_ble_eq_true rfl) dX11_why_16 ?_
    refine hz_if_eq (tgt := 35) hO dX11_why_19 (by decide) (fun hc31 => ?_) (fun hc31 => ?_)
    · rw [if_pos hc31] at h
      exact hz_ls [0, 1, 2, 3] rfl (gk26 a1 a2 a3 M29 h)
    · rw [if_neg hc31] at h
      refine hz_iload_n hO dX11_why_22 rfl 3 rfl ?_
      refine hz_iconst (v := (0 : Int32)) hO dX11_why_23 (by decide) ?_
      refine hz_iconst (v := (1 : Int32)) hO dX11_why_24 (by decide) ?_
      obtain ⟨r32, M33, hq34, h⟩ := hz_ct_e h
      refine hz_callSi (as := [.int a3, .int (0 : Int32), .int (1 : Int32)]) (rest := [.ref (hz_ad w 178)]) hO (c_X11_in l w hN a3 (0 : Int32) (1 : Int32) hq34) hz_cal_X11_in tw_6_171 (Nat.le_of_ble_eq_true rfl) rfl rfl (Nat.le_of_ble_eq_true rfl) dX11_why_25 ?_
      refine hz_if_eq (tgt := 35) hO dX11_why_28 (by decide) (fun hc35 => ?_) (fun hc35 => ?_)
      · rw [if_pos hc35] at h
        exact hz_ls [0, 1, 2, 3] rfl (gk26 a1 a2 a3 M33 h)
      · rw [if_neg hc35] at h
        refine hz_iconst (v := (1 : Int32)) hO dX11_why_31 (by decide) ?_
        refine hz_goto (tgt := 36) hO dX11_why_32 (by decide) ?_
        exact hz_ls [0, 1, 2, 3] rfl (gk21 a1 a2 a3 (1 : Int32) M33 h)
def f_X11_highest_L26 : Nat → Int32 → Int32 → hz_M → hz_O
  | 0, _, _, _ => none
  | n + 1, v1_10, v2_11, M12 =>
    if v2_11 ≤ 0 then
      some (v2_11, M12)
    else
      hz_ct (f_X11_noSitting v1_10 v2_11 M12) fun r14 M15 =>
      if r14 = 0 then
        some (v2_11, M15)
      else
        hz_lt (v2_11 + (-1 : Int32)) fun x18 =>
        f_X11_highest_L26 n v1_10 x18 M15
def f_X11_highest (a1 : Int32) (M : hz_M) : hz_O :=
  hz_lm (hz_set M 178 8 (0 : Int32)) fun M1 =>
  hz_ct (f_X11_isGuest a1 M1) fun r2 M3 =>
  hz_ct (f_X11_right r2 M3) fun r5 M6 =>
  if r5 = 0 then
    some ((0 : Int32), M6)
  else
    hz_lt ((M6 179 (Int32.toNatClampNeg (4 : Int32)))) fun x9 =>
    f_X11_highest_L26 hz_FU a1 x9 M6
set_option maxRecDepth 100000 in
set_option maxHeartbeats 4000000 in
theorem g_X11_highest_L26 {p : Program} {l : Launch} {e : Env} {s : State} {m : MethodId} {args : Array Value} {below : List Frame} {meth : Method} {c : Code} {w : hz_C} {N : Nat} (hN : 193 ≤ N) {rE : Int32} {ME : hz_M} (hO : hz_Ok p s m args meth c w cX11_highest 3 RX11 (some .int)) : ∀ (n : Nat) (v1_10 : Int32) (v2_11 : Int32) (M12 : hz_M), f_X11_highest_L26 n v1_10 v2_11 M12 = some (rE, ME) → hz_G p l e 4 hz_z0 s m args below meth c w N 3 (MQ below (hz_Qi w N rE ME) args s 0 0 (hz_A w)) M12 26 [(0, .ref (hz_ad w 178)), (1, .int v1_10), (2, .int v2_11)] [] := by
  intro n
  induction n with
  | zero =>
    intro v1_10 v2_11 M12 h
    rw [f_X11_highest_L26] at h
    cases h
  | succ n ih =>
    intro v1_10 v2_11 M12 h
    rw [f_X11_highest_L26] at h
    refine hz_iload_n hO dX11_highest_26 rfl 2 rfl ?_
    refine hz_if_le (tgt := 45) hO dX11_highest_27 (by decide) (fun hc13 => ?_) (fun hc13 => ?_)
    · rw [if_pos hc13] at h
      refine hz_iload_n hO dX11_highest_45 rfl 2 rfl ?_
      exact hz_nameM (hz_some_e h).2.symm (hz_name (hz_some_e h).1.symm (hz_iret hO dX11_highest_46))
    · rw [if_neg hc13] at h
      refine hz_aload_n hO dX11_highest_30 rfl 0 rfl ?_
      refine hz_iload_n hO dX11_highest_31 rfl 1 rfl ?_
      refine hz_iload_n hO dX11_highest_32 rfl 2 rfl ?_
      obtain ⟨r14, M15, hq16, h⟩ := hz_ct_e h
      refine hz_callVi (as := [.int v1_10, .int v2_11]) (rest := []) hO (c_X11_noSitting l w hN v1_10 v2_11 hq16) hz_cal_X11_noSitting hz_K_9 hz_sh_178 (hz_lt_178 hN) tw_8_22 (Nat.le_of_ble_eq_true rfl) rfl rfl (Nat.le_of_ble_eq_true rfl) dX11_highest_33 ?_
      refine hz_if_eq (tgt := 45) hO dX11_highest_36 (by decide) (fun hc17 => ?_) (fun hc17 => ?_)
      · rw [if_pos hc17] at h
        refine hz_iload_n hO dX11_highest_45 rfl 2 rfl ?_
        exact hz_nameM (hz_some_e h).2.symm (hz_name (hz_some_e h).1.symm (hz_iret hO dX11_highest_46))
      · rw [if_neg hc17] at h
        obtain ⟨x18, h_x18, h⟩ := hz_lt_e h
        refine hz_iinc (k := 2) (v := x18) (ls1 := [(2, .int x18), (0, .ref (hz_ad w 178)), (1, .int v1_10)]) hO dX11_highest_39 rfl (by rw [h_x18]; rfl) (Nat.le_of_ble_eq_true rfl) rfl ?_
        refine hz_goto (tgt := 26) hO dX11_highest_42 (by decide) ?_
        exact hz_ls [1, 2, 0] rfl (ih v1_10 x18 M15 h)
set_option maxRecDepth 100000 in
set_option maxHeartbeats 4000000 in
theorem c_X11_highest (l : Launch) (w : hz_C) {N : Nat} (hN : 193 ≤ N) (a1 : Int32) {M : hz_M} {rE : Int32} {ME : hz_M} (h : f_X11_highest a1 M = some (rE, ME)) : hz_Ct l yX11_highest cX11_highest 3 (some .int) 4 w N [.ref (hz_ad w 178), .int a1] M (hz_Qi w N rE ME) := by
  refine hz_ofW (by decide) rfl (Nat.le_of_ble_eq_true rfl) tw_8_176 ?_
  intro p e s m args below meth c hO
  show hz_G p l e 4 hz_z0 s m args below meth c w N 3 _ M 0 [(0, .ref (hz_ad w 178)), (1, .int a1)] []
  unfold f_X11_highest at h
  refine hz_aload_n hO dX11_highest_0 rfl 0 rfl ?_
  refine hz_iconst (v := (0 : Int32)) hO dX11_highest_1 (by decide) ?_
  obtain ⟨M1, h_M1, h⟩ := hz_lm_e h
  refine hz_putI (k := 8) (ty := .int) hO hz_K_9 tyX11_ok nmX11 hz_sh_178 (hz_lt_178 hN) rfl (Nat.le_of_ble_eq_true rfl) tw_6_237 rfl rfl rfl rfl rfl dX11_highest_2 ?_
  refine hz_nameM h_M1 ?_
  refine hz_aload_n hO dX11_highest_5 rfl 0 rfl ?_
  refine hz_aload_n hO dX11_highest_6 rfl 0 rfl ?_
  refine hz_iload_n hO dX11_highest_7 rfl 1 rfl ?_
  obtain ⟨r2, M3, hq4, h⟩ := hz_ct_e h
  refine hz_callVi (as := [.int a1]) (rest := [.ref (hz_ad w 178)]) hO (c_X11_isGuest l w hN a1 hq4) hz_cal_X11_isGuest hz_K_9 hz_sh_178 (hz_lt_178 hN) tw_8_102 (Nat.le_of_ble_eq_true rfl) rfl rfl (Nat.le_of_ble_eq_true rfl) dX11_highest_8 ?_
  obtain ⟨r5, M6, hq7, h⟩ := hz_ct_e h
  refine hz_callVi (as := [.int r2]) (rest := []) hO (c_X11_right l w hN r2 hq7) hz_cal_X11_right hz_K_9 hz_sh_178 (hz_lt_178 hN) tw_8_82 (Nat.le_of_ble_eq_true rfl) rfl rfl (Nat.le_of_ble_eq_true rfl) dX11_highest_11 ?_
  refine hz_if_ne (tgt := 19) hO dX11_highest_14 (by decide) (fun hc8 => ?_) (fun hc8 => ?_)
  · rw [if_neg hc8] at h
    refine hz_aload_n hO dX11_highest_19 rfl 0 rfl ?_
    refine hz_getR (k := 0) hO 179 hz_K_9 hz_sh_178 (hz_lt_178 hN) rfl (Nat.le_of_ble_eq_true rfl) tw_6_229 rfl dX11_highest_20 ?_
    refine hz_iconst (v := (4 : Int32)) hO dX11_highest_23 (by decide) ?_
    refine hz_iald hO hz_sh_179 (hz_lt_179 hN) (by decide) dX11_highest_24 ?_
    obtain ⟨x9, h_x9, h⟩ := hz_lt_e h
    refine hz_name h_x9 ?_
    refine hz_istore_n (ls1 := [(2, .int x9), (0, .ref (hz_ad w 178)), (1, .int a1)]) hO dX11_highest_25 rfl (Nat.le_of_ble_eq_true rfl) rfl ?_
    exact hz_ls [1, 2, 0] rfl (g_X11_highest_L26 hN hO _ a1 x9 M6 h)
  · rw [if_pos hc8] at h
    refine hz_iconst (v := (0 : Int32)) hO dX11_highest_17 (by decide) ?_
    exact hz_nameM (hz_some_e h).2.symm (hz_name (hz_some_e h).1.symm (hz_iret hO dX11_highest_18))
def f_X11_account (a1 : Int32) (M : hz_M) : hz_O :=
  hz_lm (hz_set M 178 8 (0 : Int32)) fun M1 =>
  hz_ct (f_X11_in a1 (0 : Int32) (9 : Int32) M1) fun r2 M3 =>
  hz_ct (f_X11_right r2 M3) fun r5 M6 =>
  if r5 = 0 then
    some ((0 : Int32), M6)
  else
    if a1 = (9 : Int32) then
      some ((M6 178 7), M6)
    else
      hz_gd (hz_in ((12 : Int32) + a1) 185) <|
      some ((M6 179 (Int32.toNatClampNeg ((12 : Int32) + a1))), M6)
set_option maxRecDepth 100000 in
set_option maxHeartbeats 4000000 in
theorem c_X11_account (l : Launch) (w : hz_C) {N : Nat} (hN : 193 ≤ N) (a1 : Int32) {M : hz_M} {rE : Int32} {ME : hz_M} (h : f_X11_account a1 M = some (rE, ME)) : hz_Ct l yX11_account cX11_account 2 (some .int) 1 w N [.ref (hz_ad w 178), .int a1] M (hz_Qi w N rE ME) := by
  refine hz_ofW (by decide) rfl (Nat.le_of_ble_eq_true rfl) tw_8_180 ?_
  intro p e s m args below meth c hO
  show hz_G p l e 1 hz_z0 s m args below meth c w N 2 _ M 0 [(0, .ref (hz_ad w 178)), (1, .int a1)] []
  unfold f_X11_account at h
  refine hz_aload_n hO dX11_account_0 rfl 0 rfl ?_
  refine hz_iconst (v := (0 : Int32)) hO dX11_account_1 (by decide) ?_
  obtain ⟨M1, h_M1, h⟩ := hz_lm_e h
  refine hz_putI (k := 8) (ty := .int) hO hz_K_9 tyX11_ok nmX11 hz_sh_178 (hz_lt_178 hN) rfl (Nat.le_of_ble_eq_true rfl) tw_6_237 rfl rfl rfl rfl rfl dX11_account_2 ?_
  refine hz_nameM h_M1 ?_
  refine hz_aload_n hO dX11_account_5 rfl 0 rfl ?_
  refine hz_iload_n hO dX11_account_6 rfl 1 rfl ?_
  refine hz_iconst (v := (0 : Int32)) hO dX11_account_7 (by decide) ?_
  refine hz_bipush (v := (9 : Int32)) hO dX11_account_8 (by decide) ?_
  obtain ⟨r2, M3, hq4, h⟩ := hz_ct_e h
  refine hz_callSi (as := [.int a1, .int (0 : Int32), .int (9 : Int32)]) (rest := [.ref (hz_ad w 178)]) hO (c_X11_in l w hN a1 (0 : Int32) (9 : Int32) hq4) hz_cal_X11_in tw_6_171 (Nat.le_of_ble_eq_true rfl) rfl rfl (Nat.le_of_ble_eq_true rfl) dX11_account_10 ?_
  obtain ⟨r5, M6, hq7, h⟩ := hz_ct_e h
  refine hz_callVi (as := [.int r2]) (rest := []) hO (c_X11_right l w hN r2 hq7) hz_cal_X11_right hz_K_9 hz_sh_178 (hz_lt_178 hN) tw_8_82 (Nat.le_of_ble_eq_true rfl) rfl rfl (Nat.le_of_ble_eq_true rfl) dX11_account_13 ?_
  refine hz_if_ne (tgt := 21) hO dX11_account_16 (by decide) (fun hc8 => ?_) (fun hc8 => ?_)
  · rw [if_neg hc8] at h
    refine hz_iload_n hO dX11_account_21 rfl 1 rfl ?_
    refine hz_bipush (v := (9 : Int32)) hO dX11_account_22 (by decide) ?_
    refine hz_icmp_ne (tgt := 34) hO dX11_account_24 (by decide) (fun hc9 => ?_) (fun hc9 => ?_)
    · rw [if_neg hc9] at h
      refine hz_aload_n hO dX11_account_34 rfl 0 rfl ?_
      refine hz_getR (k := 0) hO 179 hz_K_9 hz_sh_178 (hz_lt_178 hN) rfl (Nat.le_of_ble_eq_true rfl) tw_6_229 rfl dX11_account_35 ?_
      refine hz_bipush (v := (12 : Int32)) hO dX11_account_38 (by decide) ?_
      refine hz_iload_n hO dX11_account_40 rfl 1 rfl ?_
      refine hz_iadd hO dX11_account_41 ?_
      obtain ⟨hg10, h⟩ := hz_gd_e h
      refine hz_iald hO hz_sh_179 (hz_lt_179 hN) hg10 dX11_account_42 ?_
      exact hz_nameM (hz_some_e h).2.symm (hz_name (hz_some_e h).1.symm (hz_iret hO dX11_account_43))
    · rw [if_pos hc9] at h
      refine hz_aload_n hO dX11_account_27 rfl 0 rfl ?_
      refine hz_getI (k := 7) hO hz_K_9 hz_sh_178 (hz_lt_178 hN) rfl (Nat.le_of_ble_eq_true rfl) tw_6_236 rfl dX11_account_28 ?_
      refine hz_goto (tgt := 43) hO dX11_account_31 (by decide) ?_
      exact hz_nameM (hz_some_e h).2.symm (hz_name (hz_some_e h).1.symm (hz_iret hO dX11_account_43))
  · rw [if_pos hc8] at h
    refine hz_iconst (v := (0 : Int32)) hO dX11_account_19 (by decide) ?_
    exact hz_nameM (hz_some_e h).2.symm (hz_name (hz_some_e h).1.symm (hz_iret hO dX11_account_20))
def f_X11_gap_L93 (kk139 : Int32 → hz_M → hz_O) : Nat → Int32 → Int32 → hz_M → hz_O
  | 0, _, _, _ => none
  | n + 1, v3_24, v4_25, M26 =>
    if (M26 179 (Int32.toNatClampNeg (1 : Int32))) ≤ v4_25 then
      kk139 v3_24 M26
    else
      hz_ct (f_X11_towelOn v4_25 M26) fun r28 M29 =>
      hz_jn (fun (v3_31 : Int32) (v4_32 : Int32) (M33 : hz_M) =>
        hz_lt (v4_32 + (1 : Int32)) fun x34 =>
        f_X11_gap_L93 kk139 n v3_31 x34 M33
        ) fun k35 =>
      if r28 = (-1 : Int32) then
        k35 v3_24 v4_25 M29
      else
        hz_ct (f_X11_towelOn v4_25 M29) fun r37 M38 =>
        hz_ct (f_X11_ofT r37 (1 : Int32) M38) fun r40 M41 =>
        if r40 = v4_25 then
          k35 v3_24 v4_25 M41
        else
          hz_lt (v3_24 + (1 : Int32)) fun x44 =>
          k35 x44 v4_25 M41
def f_X11_gap_L43 (kk71 : Int32 → Int32 → hz_M → hz_O) : Nat → Int32 → Int32 → Int32 → hz_M → hz_O
  | 0, _, _, _, _ => none
  | n + 1, v1_46, v2_47, v3_48, M49 =>
    if (M49 179 (Int32.toNatClampNeg (1 : Int32))) ≤ v3_48 then
      kk71 v1_46 v2_47 M49
    else
      hz_ct (f_X11_towelOn v3_48 M49) fun r51 M52 =>
      hz_jn (fun (v1_54 : Int32) (v2_55 : Int32) (v3_56 : Int32) (M57 : hz_M) =>
        hz_lt (v3_56 + (1 : Int32)) fun x58 =>
        f_X11_gap_L43 kk71 n v1_54 v2_55 x58 M57
        ) fun k59 =>
      if r51 = (-1 : Int32) then
        k59 v1_46 v2_47 v3_48 M52
      else
        hz_lt (v2_47 + (1 : Int32)) fun x61 =>
        k59 v1_46 x61 v3_48 M52
def f_X11_gap_L11 (kk41 : Int32 → Int32 → hz_M → hz_O) : Nat → Int32 → Int32 → Int32 → hz_M → hz_O
  | 0, _, _, _, _ => none
  | n + 1, v1_63, v2_64, v3_65, M66 =>
    if (M66 179 (Int32.toNatClampNeg (11 : Int32))) ≤ v3_65 then
      kk41 v1_63 v2_64 M66
    else
      hz_ct (f_X11_of v3_65 (4 : Int32) M66) fun r68 M69 =>
      hz_jn (fun (v1_71 : Int32) (v2_72 : Int32) (v3_73 : Int32) (M74 : hz_M) =>
        hz_lt (v3_73 + (1 : Int32)) fun x75 =>
        f_X11_gap_L11 kk41 n v1_71 v2_72 x75 M74
        ) fun k76 =>
      if r68 = (-1 : Int32) then
        k76 v1_63 v2_64 v3_65 M69
      else
        hz_lt (v1_63 + (1 : Int32)) fun x78 =>
        k76 x78 v2_64 v3_65 M69
def f_X11_gap (M : hz_M) : hz_O :=
  hz_lm (hz_set M 178 8 (0 : Int32)) fun M1 =>
  hz_jn (fun (v1_2 : Int32) (v2_3 : Int32) (M4 : hz_M) =>
    hz_jn (fun (v1_5 : Int32) (v2_6 : Int32) (M7 : hz_M) =>
      hz_ct (f_X11_basket M7) fun r8 M9 =>
      hz_lt ((if 0 ≤ ((((M7 179 (Int32.toNatClampNeg (2 : Int32))) - v2_6) - v1_5) - r8) then ((((M7 179 (Int32.toNatClampNeg (2 : Int32))) - v2_6) - v1_5) - r8) else 0 - ((((M7 179 (Int32.toNatClampNeg (2 : Int32))) - v2_6) - v1_5) - r8))) fun x11 =>
      hz_jn (fun (v3_12 : Int32) (M13 : hz_M) =>
        hz_ct (f_X11_inside M13) fun r14 M15 =>
        hz_ct (f_X11_freeLockers M15) fun r17 M18 =>
        hz_ct (f_X11_inside M18) fun r20 M21 =>
        some (((v3_12 + (if 0 ≤ (((M13 179 (Int32.toNatClampNeg (12 : Int32))) - (M13 179 (Int32.toNatClampNeg (13 : Int32)))) - r14) then (((M13 179 (Int32.toNatClampNeg (12 : Int32))) - (M13 179 (Int32.toNatClampNeg (13 : Int32)))) - r14) else 0 - (((M13 179 (Int32.toNatClampNeg (12 : Int32))) - (M13 179 (Int32.toNatClampNeg (13 : Int32)))) - r14))) + (if 0 ≤ (((M15 179 (Int32.toNatClampNeg (0 : Int32))) - r17) - r20) then (((M15 179 (Int32.toNatClampNeg (0 : Int32))) - r17) - r20) else 0 - (((M15 179 (Int32.toNatClampNeg (0 : Int32))) - r17) - r20))), M21)
        ) fun k23 =>
      f_X11_gap_L93 k23 hz_FU x11 (0 : Int32) M9
      ) fun k45 =>
    f_X11_gap_L43 k45 hz_FU v1_2 v2_3 (0 : Int32) M4
    ) fun k62 =>
  f_X11_gap_L11 k62 hz_FU (0 : Int32) (0 : Int32) (0 : Int32) M1
set_option maxRecDepth 100000 in
set_option maxHeartbeats 4000000 in
theorem g_X11_gap_L93 {p : Program} {l : Launch} {e : Env} {s : State} {m : MethodId} {args : Array Value} {below : List Frame} {meth : Method} {c : Code} {w : hz_C} {N : Nat} (hN : 193 ≤ N) {rE : Int32} {ME : hz_M} (hO : hz_Ok p s m args meth c w cX11_gap 5 RX11 (some .int)) (kk139 : Int32 → hz_M → hz_O) (gkk139 : ∀ (v3_12 : Int32) (M : hz_M), kk139 v3_12 M = some (rE, ME) → hz_G p l e 4 hz_z0 s m args below meth c w N 5 (MQ below (hz_Qi w N rE ME) args s 0 0 (hz_A w)) M 139 [(0, .ref (hz_ad w 178)), (3, .int v3_12)] []) : ∀ (n : Nat) (v3_24 : Int32) (v4_25 : Int32) (M26 : hz_M), f_X11_gap_L93 kk139 n v3_24 v4_25 M26 = some (rE, ME) → hz_G p l e 4 hz_z0 s m args below meth c w N 5 (MQ below (hz_Qi w N rE ME) args s 0 0 (hz_A w)) M26 93 [(0, .ref (hz_ad w 178)), (3, .int v3_24), (4, .int v4_25)] [] := by
  intro n
  induction n with
  | zero =>
    intro v3_24 v4_25 M26 h
    rw [f_X11_gap_L93] at h
    cases h
  | succ n ih =>
    intro v3_24 v4_25 M26 h
    rw [f_X11_gap_L93] at h
    refine hz_iload hO dX11_gap_93 2 rfl ?_
    refine hz_aload_n hO dX11_gap_95 rfl 0 rfl ?_
    refine hz_getR (k := 0) hO 179 hz_K_9 hz_sh_178 (hz_lt_178 hN) rfl (Nat.le_of_ble_eq_true rfl) tw_6_229 rfl dX11_gap_96 ?_
    refine hz_iconst (v := (1 : Int32)) hO dX11_gap_99 (by decide) ?_
    refine hz_iald hO hz_sh_179 (hz_lt_179 hN) (by decide) dX11_gap_100 ?_
    refine hz_icmp_ge (tgt := 139) hO dX11_gap_101 (by decide) (fun hc27 => ?_) (fun hc27 => ?_)
    · rw [if_pos hc27] at h
      exact hz_ls [0, 1] rfl (gkk139 v3_24 M26 h)
    · rw [if_neg hc27] at h
      refine hz_aload_n hO dX11_gap_104 rfl 0 rfl ?_
      refine hz_iload hO dX11_gap_105 2 rfl ?_
      obtain ⟨r28, M29, hq30, h⟩ := hz_ct_e h
      refine hz_callVi (as := [.int v4_25]) (rest := []) hO (c_X11_towelOn l w hN v4_25 hq30) hz_cal_X11_towelOn hz_K_9 hz_sh_178 (hz_lt_178 hN) tw_7_173 (Nat.le_of_ble_eq_true rfl) rfl rfl (Nat.le_of_ble_eq_true rfl) dX11_gap_107 ?_
      refine hz_iconst (v := (-1 : Int32)) hO dX11_gap_110 (by decide) ?_
      obtain ⟨k35, hk35, h⟩ := hz_jn_e h
      have gk35 : ∀ (v3_31 : Int32) (v4_32 : Int32) (M33 : hz_M), k35 v3_31 v4_32 M33 = some (rE, ME) → hz_G p l e 4 hz_z0 s m args below meth c w N 5 (MQ below (hz_Qi w N rE ME) args s 0 0 (hz_A w)) M33 133 [(0, .ref (hz_ad w 178)), (3, .int v3_31), (4, .int v4_32)] [] := by
        intro v3_31 v4_32 M33 h
        rw [hk35] at h
        dsimp only at h
        obtain ⟨x34, h_x34, h⟩ := hz_lt_e h
        refine hz_iinc (k := 2) (v := x34) (ls1 := [(4, .int x34), (0, .ref (hz_ad w 178)), (3, .int v3_31)]) hO dX11_gap_133 rfl (by rw [h_x34]; rfl) (Nat.le_of_ble_eq_true rfl) rfl ?_
        refine hz_goto (tgt := 93) hO dX11_gap_136 (by decide) ?_
        exact hz_ls [1, 2, 0] rfl (ih v3_31 x34 M33 h)
      clear hk35
      refine hz_icmp_eq (tgt := 133) hO dX11_gap_111 (by decide) (fun hc36 => ?_) (fun hc36 => ?_)
      · rw [if_pos hc36] at h
        exact hz_ls [0, 1, 2] rfl (gk35 v3_24 v4_25 M29 h)
      · rw [if_neg hc36] at h
        refine hz_aload_n hO dX11_gap_114 rfl 0 rfl ?_
        refine hz_aload_n hO dX11_gap_115 rfl 0 rfl ?_
        refine hz_iload hO dX11_gap_116 2 rfl ?_
        obtain ⟨r37, M38, hq39, h⟩ := hz_ct_e h
        refine hz_callVi (as := [.int v4_25]) (rest := [.ref (hz_ad w 178)]) hO (c_X11_towelOn l w hN v4_25 hq39) hz_cal_X11_towelOn hz_K_9 hz_sh_178 (hz_lt_178 hN) tw_7_173 (Nat.le_of_ble_eq_true rfl) rfl rfl (Nat.le_of_ble_eq_true rfl) dX11_gap_118 ?_
        refine hz_iconst (v := (1 : Int32)) hO dX11_gap_121 (by decide) ?_
        obtain ⟨r40, M41, hq42, h⟩ := hz_ct_e h
        refine hz_callVi (as := [.int r37, .int (1 : Int32)]) (rest := []) hO (c_X11_ofT l w hN r37 (1 : Int32) hq42) hz_cal_X11_ofT hz_K_9 hz_sh_178 (hz_lt_178 hN) tw_7_161 (Nat.le_of_ble_eq_true rfl) rfl rfl (Nat.le_of_ble_eq_true rfl) dX11_gap_122 ?_
        refine hz_iload hO dX11_gap_125 2 rfl ?_
        refine hz_icmp_eq (tgt := 133) hO dX11_gap_127 (by decide) (fun hc43 => ?_) (fun hc43 => ?_)
        · rw [if_pos hc43] at h
          exact hz_ls [0, 1, 2] rfl (gk35 v3_24 v4_25 M41 h)
        · rw [if_neg hc43] at h
          obtain ⟨x44, h_x44, h⟩ := hz_lt_e h
          refine hz_iinc (k := 1) (v := x44) (ls1 := [(3, .int x44), (0, .ref (hz_ad w 178)), (4, .int v4_25)]) hO dX11_gap_130 rfl (by rw [h_x44]; rfl) (Nat.le_of_ble_eq_true rfl) rfl ?_
          exact hz_ls [1, 0, 2] rfl (gk35 x44 v4_25 M41 h)
set_option maxRecDepth 100000 in
set_option maxHeartbeats 4000000 in
theorem g_X11_gap_L43 {p : Program} {l : Launch} {e : Env} {s : State} {m : MethodId} {args : Array Value} {below : List Frame} {meth : Method} {c : Code} {w : hz_C} {N : Nat} (hN : 193 ≤ N) {rE : Int32} {ME : hz_M} (hO : hz_Ok p s m args meth c w cX11_gap 5 RX11 (some .int)) (kk71 : Int32 → Int32 → hz_M → hz_O) (gkk71 : ∀ (v1_5 : Int32) (v2_6 : Int32) (M : hz_M), kk71 v1_5 v2_6 M = some (rE, ME) → hz_G p l e 4 hz_z0 s m args below meth c w N 5 (MQ below (hz_Qi w N rE ME) args s 0 0 (hz_A w)) M 71 [(0, .ref (hz_ad w 178)), (1, .int v1_5), (2, .int v2_6)] []) : ∀ (n : Nat) (v1_46 : Int32) (v2_47 : Int32) (v3_48 : Int32) (M49 : hz_M), f_X11_gap_L43 kk71 n v1_46 v2_47 v3_48 M49 = some (rE, ME) → hz_G p l e 4 hz_z0 s m args below meth c w N 5 (MQ below (hz_Qi w N rE ME) args s 0 0 (hz_A w)) M49 43 [(0, .ref (hz_ad w 178)), (1, .int v1_46), (2, .int v2_47), (3, .int v3_48)] [] := by
  intro n
  induction n with
  | zero =>
    intro v1_46 v2_47 v3_48 M49 h
    rw [f_X11_gap_L43] at h
    cases h
  | succ n ih =>
    intro v1_46 v2_47 v3_48 M49 h
    rw [f_X11_gap_L43] at h
    refine hz_iload_n hO dX11_gap_43 rfl 3 rfl ?_
    refine hz_aload_n hO dX11_gap_44 rfl 0 rfl ?_
    refine hz_getR (k := 0) hO 179 hz_K_9 hz_sh_178 (hz_lt_178 hN) rfl (Nat.le_of_ble_eq_true rfl) tw_6_229 rfl dX11_gap_45 ?_
    refine hz_iconst (v := (1 : Int32)) hO dX11_gap_48 (by decide) ?_
    refine hz_iald hO hz_sh_179 (hz_lt_179 hN) (by decide) dX11_gap_49 ?_
    refine hz_icmp_ge (tgt := 71) hO dX11_gap_50 (by decide) (fun hc50 => ?_) (fun hc50 => ?_)
    · rw [if_pos hc50] at h
      exact hz_ls [0, 1, 2] rfl (gkk71 v1_46 v2_47 M49 h)
    · rw [if_neg hc50] at h
      refine hz_aload_n hO dX11_gap_53 rfl 0 rfl ?_
      refine hz_iload_n hO dX11_gap_54 rfl 3 rfl ?_
      obtain ⟨r51, M52, hq53, h⟩ := hz_ct_e h
      refine hz_callVi (as := [.int v3_48]) (rest := []) hO (c_X11_towelOn l w hN v3_48 hq53) hz_cal_X11_towelOn hz_K_9 hz_sh_178 (hz_lt_178 hN) tw_7_173 (Nat.le_of_ble_eq_true rfl) rfl rfl (Nat.le_of_ble_eq_true rfl) dX11_gap_55 ?_
      refine hz_iconst (v := (-1 : Int32)) hO dX11_gap_58 (by decide) ?_
      obtain ⟨k59, hk59, h⟩ := hz_jn_e h
      have gk59 : ∀ (v1_54 : Int32) (v2_55 : Int32) (v3_56 : Int32) (M57 : hz_M), k59 v1_54 v2_55 v3_56 M57 = some (rE, ME) → hz_G p l e 4 hz_z0 s m args below meth c w N 5 (MQ below (hz_Qi w N rE ME) args s 0 0 (hz_A w)) M57 65 [(0, .ref (hz_ad w 178)), (1, .int v1_54), (2, .int v2_55), (3, .int v3_56)] [] := by
        intro v1_54 v2_55 v3_56 M57 h
        rw [hk59] at h
        dsimp only at h
        obtain ⟨x58, h_x58, h⟩ := hz_lt_e h
        refine hz_iinc (k := 3) (v := x58) (ls1 := [(3, .int x58), (0, .ref (hz_ad w 178)), (1, .int v1_54), (2, .int v2_55)]) hO dX11_gap_65 rfl (by rw [h_x58]; rfl) (Nat.le_of_ble_eq_true rfl) rfl ?_
        refine hz_goto (tgt := 43) hO dX11_gap_68 (by decide) ?_
        exact hz_ls [1, 2, 3, 0] rfl (ih v1_54 v2_55 x58 M57 h)
      clear hk59
      refine hz_icmp_eq (tgt := 65) hO dX11_gap_59 (by decide) (fun hc60 => ?_) (fun hc60 => ?_)
      · rw [if_pos hc60] at h
        exact hz_ls [0, 1, 2, 3] rfl (gk59 v1_46 v2_47 v3_48 M52 h)
      · rw [if_neg hc60] at h
        obtain ⟨x61, h_x61, h⟩ := hz_lt_e h
        refine hz_iinc (k := 2) (v := x61) (ls1 := [(2, .int x61), (0, .ref (hz_ad w 178)), (1, .int v1_46), (3, .int v3_48)]) hO dX11_gap_62 rfl (by rw [h_x61]; rfl) (Nat.le_of_ble_eq_true rfl) rfl ?_
        exact hz_ls [1, 2, 0, 3] rfl (gk59 v1_46 x61 v3_48 M52 h)
set_option maxRecDepth 100000 in
set_option maxHeartbeats 4000000 in
theorem g_X11_gap_L11 {p : Program} {l : Launch} {e : Env} {s : State} {m : MethodId} {args : Array Value} {below : List Frame} {meth : Method} {c : Code} {w : hz_C} {N : Nat} (hN : 193 ≤ N) {rE : Int32} {ME : hz_M} (hO : hz_Ok p s m args meth c w cX11_gap 5 RX11 (some .int)) (kk41 : Int32 → Int32 → hz_M → hz_O) (gkk41 : ∀ (v1_2 : Int32) (v2_3 : Int32) (M : hz_M), kk41 v1_2 v2_3 M = some (rE, ME) → hz_G p l e 4 hz_z0 s m args below meth c w N 5 (MQ below (hz_Qi w N rE ME) args s 0 0 (hz_A w)) M 41 [(0, .ref (hz_ad w 178)), (1, .int v1_2), (2, .int v2_3)] []) : ∀ (n : Nat) (v1_63 : Int32) (v2_64 : Int32) (v3_65 : Int32) (M66 : hz_M), f_X11_gap_L11 kk41 n v1_63 v2_64 v3_65 M66 = some (rE, ME) → hz_G p l e 4 hz_z0 s m args below meth c w N 5 (MQ below (hz_Qi w N rE ME) args s 0 0 (hz_A w)) M66 11 [(0, .ref (hz_ad w 178)), (1, .int v1_63), (2, .int v2_64), (3, .int v3_65)] [] := by
  intro n
  induction n with
  | zero =>
    intro v1_63 v2_64 v3_65 M66 h
    rw [f_X11_gap_L11] at h
    cases h
  | succ n ih =>
    intro v1_63 v2_64 v3_65 M66 h
    rw [f_X11_gap_L11] at h
    refine hz_iload_n hO dX11_gap_11 rfl 3 rfl ?_
    refine hz_aload_n hO dX11_gap_12 rfl 0 rfl ?_
    refine hz_getR (k := 0) hO 179 hz_K_9 hz_sh_178 (hz_lt_178 hN) rfl (Nat.le_of_ble_eq_true rfl) tw_6_229 rfl dX11_gap_13 ?_
    refine hz_bipush (v := (11 : Int32)) hO dX11_gap_16 (by decide) ?_
    refine hz_iald hO hz_sh_179 (hz_lt_179 hN) (by decide) dX11_gap_18 ?_
    refine hz_icmp_ge (tgt := 41) hO dX11_gap_19 (by decide) (fun hc67 => ?_) (fun hc67 => ?_)
    · rw [if_pos hc67] at h
      exact hz_ls [0, 1, 2] rfl (gkk41 v1_63 v2_64 M66 h)
    · rw [if_neg hc67] at h
      refine hz_aload_n hO dX11_gap_22 rfl 0 rfl ?_
      refine hz_iload_n hO dX11_gap_23 rfl 3 rfl ?_
      refine hz_iconst (v := (4 : Int32)) hO dX11_gap_24 (by decide) ?_
      obtain ⟨r68, M69, hq70, h⟩ := hz_ct_e h
      refine hz_callVi (as := [.int v3_65, .int (4 : Int32)]) (rest := []) hO (c_X11_of l w hN v3_65 (4 : Int32) hq70) hz_cal_X11_of hz_K_9 hz_sh_178 (hz_lt_178 hN) tw_6_217 (Nat.le_of_ble_eq_true rfl) rfl rfl (Nat.le_of_ble_eq_true rfl) dX11_gap_25 ?_
      refine hz_iconst (v := (-1 : Int32)) hO dX11_gap_28 (by decide) ?_
      obtain ⟨k76, hk76, h⟩ := hz_jn_e h
      have gk76 : ∀ (v1_71 : Int32) (v2_72 : Int32) (v3_73 : Int32) (M74 : hz_M), k76 v1_71 v2_72 v3_73 M74 = some (rE, ME) → hz_G p l e 4 hz_z0 s m args below meth c w N 5 (MQ below (hz_Qi w N rE ME) args s 0 0 (hz_A w)) M74 35 [(0, .ref (hz_ad w 178)), (1, .int v1_71), (2, .int v2_72), (3, .int v3_73)] [] := by
        intro v1_71 v2_72 v3_73 M74 h
        rw [hk76] at h
        dsimp only at h
        obtain ⟨x75, h_x75, h⟩ := hz_lt_e h
        refine hz_iinc (k := 3) (v := x75) (ls1 := [(3, .int x75), (0, .ref (hz_ad w 178)), (1, .int v1_71), (2, .int v2_72)]) hO dX11_gap_35 rfl (by rw [h_x75]; rfl) (Nat.le_of_ble_eq_true rfl) rfl ?_
        refine hz_goto (tgt := 11) hO dX11_gap_38 (by decide) ?_
        exact hz_ls [1, 2, 3, 0] rfl (ih v1_71 v2_72 x75 M74 h)
      clear hk76
      refine hz_icmp_eq (tgt := 35) hO dX11_gap_29 (by decide) (fun hc77 => ?_) (fun hc77 => ?_)
      · rw [if_pos hc77] at h
        exact hz_ls [0, 1, 2, 3] rfl (gk76 v1_63 v2_64 v3_65 M69 h)
      · rw [if_neg hc77] at h
        obtain ⟨x78, h_x78, h⟩ := hz_lt_e h
        refine hz_iinc (k := 1) (v := x78) (ls1 := [(1, .int x78), (0, .ref (hz_ad w 178)), (2, .int v2_64), (3, .int v3_65)]) hO dX11_gap_32 rfl (by rw [h_x78]; rfl) (Nat.le_of_ble_eq_true rfl) rfl ?_
        exact hz_ls [1, 0, 2, 3] rfl (gk76 x78 v2_64 v3_65 M69 h)
set_option maxRecDepth 100000 in
set_option maxHeartbeats 4000000 in
theorem c_X11_gap (l : Launch) (w : hz_C) {N : Nat} (hN : 193 ≤ N) {M : hz_M} {rE : Int32} {ME : hz_M} (h : f_X11_gap M = some (rE, ME)) : hz_Ct l yX11_gap cX11_gap 5 (some .int) 4 w N [.ref (hz_ad w 178)] M (hz_Qi w N rE ME) := by
  refine hz_ofW (by decide) rfl (Nat.le_of_ble_eq_true rfl) tw_8_184 ?_
  intro p e s m args below meth c hO
  show hz_G p l e 4 hz_z0 s m args below meth c w N 5 _ M 0 [(0, .ref (hz_ad w 178))] []
  unfold f_X11_gap at h
  refine hz_aload_n hO dX11_gap_0 rfl 0 rfl ?_
  refine hz_iconst (v := (0 : Int32)) hO dX11_gap_1 (by decide) ?_
  obtain ⟨M1, h_M1, h⟩ := hz_lm_e h
  refine hz_putI (k := 8) (ty := .int) hO hz_K_9 tyX11_ok nmX11 hz_sh_178 (hz_lt_178 hN) rfl (Nat.le_of_ble_eq_true rfl) tw_6_237 rfl rfl rfl rfl rfl dX11_gap_2 ?_
  refine hz_nameM h_M1 ?_
  refine hz_iconst (v := (0 : Int32)) hO dX11_gap_5 (by decide) ?_
  refine hz_istore_n (ls1 := [(1, .int (0 : Int32)), (0, .ref (hz_ad w 178))]) hO dX11_gap_6 rfl (Nat.le_of_ble_eq_true rfl) rfl ?_
  refine hz_iconst (v := (0 : Int32)) hO dX11_gap_7 (by decide) ?_
  refine hz_istore_n (ls1 := [(2, .int (0 : Int32)), (1, .int (0 : Int32)), (0, .ref (hz_ad w 178))]) hO dX11_gap_8 rfl (Nat.le_of_ble_eq_true rfl) rfl ?_
  refine hz_iconst (v := (0 : Int32)) hO dX11_gap_9 (by decide) ?_
  refine hz_istore_n (ls1 := [(3, .int (0 : Int32)), (2, .int (0 : Int32)), (1, .int (0 : Int32)), (0, .ref (hz_ad w 178))]) hO dX11_gap_10 rfl (Nat.le_of_ble_eq_true rfl) rfl ?_
  obtain ⟨k62, hk62, h⟩ := hz_jn_e h
  have gk62 : ∀ (v1_2 : Int32) (v2_3 : Int32) (M4 : hz_M), k62 v1_2 v2_3 M4 = some (rE, ME) → hz_G p l e 4 hz_z0 s m args below meth c w N 5 (MQ below (hz_Qi w N rE ME) args s 0 0 (hz_A w)) M4 41 [(0, .ref (hz_ad w 178)), (1, .int v1_2), (2, .int v2_3)] [] := by
    intro v1_2 v2_3 M4 h
    rw [hk62] at h
    dsimp only at h
    refine hz_iconst (v := (0 : Int32)) hO dX11_gap_41 (by decide) ?_
    refine hz_istore_n (ls1 := [(3, .int (0 : Int32)), (0, .ref (hz_ad w 178)), (1, .int v1_2), (2, .int v2_3)]) hO dX11_gap_42 rfl (Nat.le_of_ble_eq_true rfl) rfl ?_
    obtain ⟨k45, hk45, h⟩ := hz_jn_e h
    have gk45 : ∀ (v1_5 : Int32) (v2_6 : Int32) (M7 : hz_M), k45 v1_5 v2_6 M7 = some (rE, ME) → hz_G p l e 4 hz_z0 s m args below meth c w N 5 (MQ below (hz_Qi w N rE ME) args s 0 0 (hz_A w)) M7 71 [(0, .ref (hz_ad w 178)), (1, .int v1_5), (2, .int v2_6)] [] := by
      intro v1_5 v2_6 M7 h
      rw [hk45] at h
      dsimp only at h
      refine hz_aload_n hO dX11_gap_71 rfl 0 rfl ?_
      refine hz_getR (k := 0) hO 179 hz_K_9 hz_sh_178 (hz_lt_178 hN) rfl (Nat.le_of_ble_eq_true rfl) tw_6_229 rfl dX11_gap_72 ?_
      refine hz_iconst (v := (2 : Int32)) hO dX11_gap_75 (by decide) ?_
      refine hz_iald hO hz_sh_179 (hz_lt_179 hN) (by decide) dX11_gap_76 ?_
      refine hz_iload_n hO dX11_gap_77 rfl 2 rfl ?_
      refine hz_isub hO dX11_gap_78 ?_
      refine hz_iload_n hO dX11_gap_79 rfl 1 rfl ?_
      refine hz_isub hO dX11_gap_80 ?_
      refine hz_aload_n hO dX11_gap_81 rfl 0 rfl ?_
      obtain ⟨r8, M9, hq10, h⟩ := hz_ct_e h
      refine hz_callVi (as := []) (rest := [.int (((M7 179 (Int32.toNatClampNeg (2 : Int32))) - v2_6) - v1_5)]) hO (c_X11_basket l w hN hq10) hz_cal_X11_basket hz_K_9 hz_sh_178 (hz_lt_178 hN) tw_8_90 (Nat.le_of_ble_eq_true rfl) rfl rfl (Nat.le_of_ble_eq_true rfl) dX11_gap_82 ?_
      refine hz_isub hO dX11_gap_85 ?_
      refine hz_mabs hO tw_8_185 (Nat.le_of_ble_eq_true rfl) (Nat.le_of_ble_eq_true rfl) dX11_gap_86 ?_
      obtain ⟨x11, h_x11, h⟩ := hz_lt_e h
      refine hz_name h_x11 ?_
      refine hz_istore_n (ls1 := [(3, .int x11), (0, .ref (hz_ad w 178)), (1, .int v1_5), (2, .int v2_6)]) hO dX11_gap_89 rfl (Nat.le_of_ble_eq_true rfl) rfl ?_
      refine hz_iconst (v := (0 : Int32)) hO dX11_gap_90 (by decide) ?_
      refine hz_istore (ls1 := [(4, .int (0 : Int32)), (3, .int x11), (0, .ref (hz_ad w 178)), (1, .int v1_5), (2, .int v2_6)]) hO dX11_gap_91 (Nat.le_of_ble_eq_true rfl) rfl ?_
      obtain ⟨k23, hk23, h⟩ := hz_jn_e h
      have gk23 : ∀ (v3_12 : Int32) (M13 : hz_M), k23 v3_12 M13 = some (rE, ME) → hz_G p l e 4 hz_z0 s m args below meth c w N 5 (MQ below (hz_Qi w N rE ME) args s 0 0 (hz_A w)) M13 139 [(0, .ref (hz_ad w 178)), (3, .int v3_12)] [] := by
        intro v3_12 M13 h
        rw [hk23] at h
        dsimp only at h
        refine hz_iload_n hO dX11_gap_139 rfl 1 rfl ?_
        refine hz_aload_n hO dX11_gap_140 rfl 0 rfl ?_
        refine hz_getR (k := 0) hO 179 hz_K_9 hz_sh_178 (hz_lt_178 hN) rfl (Nat.le_of_ble_eq_true rfl) tw_6_229 rfl dX11_gap_141 ?_
        refine hz_bipush (v := (12 : Int32)) hO dX11_gap_144 (by decide) ?_
        refine hz_iald hO hz_sh_179 (hz_lt_179 hN) (by decide) dX11_gap_146 ?_
        refine hz_aload_n hO dX11_gap_147 rfl 0 rfl ?_
        refine hz_getR (k := 0) hO 179 hz_K_9 hz_sh_178 (hz_lt_178 hN) rfl (Nat.le_of_ble_eq_true rfl) tw_6_229 rfl dX11_gap_148 ?_
        refine hz_bipush (v := (13 : Int32)) hO dX11_gap_151 (by decide) ?_
        refine hz_iald hO hz_sh_179 (hz_lt_179 hN) (by decide) dX11_gap_153 ?_
        refine hz_isub hO dX11_gap_154 ?_
        refine hz_aload_n hO dX11_gap_155 rfl 0 rfl ?_
        obtain ⟨r14, M15, hq16, h⟩ := hz_ct_e h
        refine hz_callVi (as := []) (rest := [.int ((M13 179 (Int32.toNatClampNeg (12 : Int32))) - (M13 179 (Int32.toNatClampNeg (13 : Int32)))), .int v3_12]) hO (c_X11_inside l w hN hq16) hz_cal_X11_inside hz_K_9 hz_sh_178 (hz_lt_178 hN) tw_8_86 (Nat.le_of_ble_eq_true rfl) rfl rfl (Nat.le_of_ble_eq_true rfl) dX11_gap_156 ?_
        refine hz_isub hO dX11_gap_159 ?_
        refine hz_mabs hO tw_8_185 (Nat.le_of_ble_eq_true rfl) (Nat.le_of_ble_eq_true rfl) dX11_gap_160 ?_
        refine hz_iadd hO dX11_gap_163 ?_
        refine hz_aload_n hO dX11_gap_164 rfl 0 rfl ?_
        refine hz_getR (k := 0) hO 179 hz_K_9 hz_sh_178 (hz_lt_178 hN) rfl (Nat.le_of_ble_eq_true rfl) tw_6_229 rfl dX11_gap_165 ?_
        refine hz_iconst (v := (0 : Int32)) hO dX11_gap_168 (by decide) ?_
        refine hz_iald hO hz_sh_179 (hz_lt_179 hN) (by decide) dX11_gap_169 ?_
        refine hz_aload_n hO dX11_gap_170 rfl 0 rfl ?_
        obtain ⟨r17, M18, hq19, h⟩ := hz_ct_e h
        refine hz_callVi (as := []) (rest := [.int (M15 179 (Int32.toNatClampNeg (0 : Int32))), .int (v3_12 + (if 0 ≤ (((M13 179 (Int32.toNatClampNeg (12 : Int32))) - (M13 179 (Int32.toNatClampNeg (13 : Int32)))) - r14) then (((M13 179 (Int32.toNatClampNeg (12 : Int32))) - (M13 179 (Int32.toNatClampNeg (13 : Int32)))) - r14) else 0 - (((M13 179 (Int32.toNatClampNeg (12 : Int32))) - (M13 179 (Int32.toNatClampNeg (13 : Int32)))) - r14)))]) hO (c_X11_freeLockers l w hN hq19) hz_cal_X11_freeLockers hz_K_9 hz_sh_178 (hz_lt_178 hN) tw_8_94 (Nat.le_of_ble_eq_true rfl) rfl rfl (Nat.le_of_ble_eq_true rfl) dX11_gap_171 ?_
        refine hz_isub hO dX11_gap_174 ?_
        refine hz_aload_n hO dX11_gap_175 rfl 0 rfl ?_
        obtain ⟨r20, M21, hq22, h⟩ := hz_ct_e h
        refine hz_callVi (as := []) (rest := [.int ((M15 179 (Int32.toNatClampNeg (0 : Int32))) - r17), .int (v3_12 + (if 0 ≤ (((M13 179 (Int32.toNatClampNeg (12 : Int32))) - (M13 179 (Int32.toNatClampNeg (13 : Int32)))) - r14) then (((M13 179 (Int32.toNatClampNeg (12 : Int32))) - (M13 179 (Int32.toNatClampNeg (13 : Int32)))) - r14) else 0 - (((M13 179 (Int32.toNatClampNeg (12 : Int32))) - (M13 179 (Int32.toNatClampNeg (13 : Int32)))) - r14)))]) hO (c_X11_inside l w hN hq22) hz_cal_X11_inside hz_K_9 hz_sh_178 (hz_lt_178 hN) tw_8_86 (Nat.le_of_ble_eq_true rfl) rfl rfl (Nat.le_of_ble_eq_true rfl) dX11_gap_176 ?_
        refine hz_isub hO dX11_gap_179 ?_
        refine hz_mabs hO tw_8_185 (Nat.le_of_ble_eq_true rfl) (Nat.le_of_ble_eq_true rfl) dX11_gap_180 ?_
        refine hz_iadd hO dX11_gap_183 ?_
        exact hz_nameM (hz_some_e h).2.symm (hz_name (hz_some_e h).1.symm (hz_iret hO dX11_gap_184))
      clear hk23
      exact hz_ls [2, 1, 0] rfl (g_X11_gap_L93 hN hO _ gk23 _ x11 (0 : Int32) M9 h)
    clear hk45
    exact hz_ls [1, 2, 3, 0] rfl (g_X11_gap_L43 hN hO _ gk45 _ v1_2 v2_3 (0 : Int32) M4 h)
  clear hk62
  exact hz_ls [3, 2, 1, 0] rfl (g_X11_gap_L11 hN hO _ gk62 _ (0 : Int32) (0 : Int32) (0 : Int32) M1 h)
def f_X11_heatIn_L28 (kk43 : hz_M → hz_O) : Nat → Int32 → Int32 → hz_M → hz_O
  | 0, _, _, _ => none
  | n + 1, v1_17, v2_18, M19 =>
    if v1_17 ≤ v2_18 then
      kk43 M19
    else
      hz_ct (f_X11_minute M19) fun r21 M22 =>
      hz_lt (v2_18 + (1 : Int32)) fun x24 =>
      f_X11_heatIn_L28 kk43 n v1_17 x24 M22
def f_X11_heatIn (a1 : Int32) (M : hz_M) : hz_O :=
  hz_lm (hz_set M 178 8 (0 : Int32)) fun M1 =>
  hz_ct (f_X11_in a1 (0 : Int32) (200 : Int32) M1) fun r2 M3 =>
  hz_ct (f_X11_right r2 M3) fun r5 M6 =>
  if r5 = 0 then
    some ((0 : Int32), M6)
  else
    hz_ct (f_X11_tries M6) fun r9 M10 =>
    hz_jn (fun  (M12 : hz_M) =>
      hz_ct (f_X11_back (M12 179 (Int32.toNatClampNeg (9 : Int32))) M12) fun r13 M14 =>
      some (r13, M14)
      ) fun k16 =>
    f_X11_heatIn_L28 k16 hz_FU a1 (0 : Int32) M10
set_option maxRecDepth 100000 in
set_option maxHeartbeats 4000000 in
theorem g_X11_heatIn_L28 {p : Program} {l : Launch} {e : Env} {s : State} {m : MethodId} {args : Array Value} {below : List Frame} {meth : Method} {c : Code} {w : hz_C} {N : Nat} (hN : 193 ≤ N) {rE : Int32} {ME : hz_M} (hO : hz_Ok p s m args meth c w cX11_heatIn 3 RX11 (some .int)) (kk43 : hz_M → hz_O) (gkk43 : ∀  (M : hz_M), kk43 M = some (rE, ME) → hz_G p l e 4 hz_z0 s m args below meth c w N 3 (MQ below (hz_Qi w N rE ME) args s 0 0 (hz_A w)) M 43 [(0, .ref (hz_ad w 178))] []) : ∀ (n : Nat) (v1_17 : Int32) (v2_18 : Int32) (M19 : hz_M), f_X11_heatIn_L28 kk43 n v1_17 v2_18 M19 = some (rE, ME) → hz_G p l e 4 hz_z0 s m args below meth c w N 3 (MQ below (hz_Qi w N rE ME) args s 0 0 (hz_A w)) M19 28 [(0, .ref (hz_ad w 178)), (1, .int v1_17), (2, .int v2_18)] [] := by
  intro n
  induction n with
  | zero =>
    intro v1_17 v2_18 M19 h
    rw [f_X11_heatIn_L28] at h
    cases h
  | succ n ih =>
    intro v1_17 v2_18 M19 h
    rw [f_X11_heatIn_L28] at h
    refine hz_iload_n hO dX11_heatIn_28 rfl 2 rfl ?_
    refine hz_iload_n hO dX11_heatIn_29 rfl 1 rfl ?_
    refine hz_icmp_ge (tgt := 43) hO dX11_heatIn_30 (by decide) (fun hc20 => ?_) (fun hc20 => ?_)
    · rw [if_pos hc20] at h
      exact hz_ls [0] rfl (gkk43 M19 h)
    · rw [if_neg hc20] at h
      refine hz_aload_n hO dX11_heatIn_33 rfl 0 rfl ?_
      obtain ⟨r21, M22, hq23, h⟩ := hz_ct_e h
      refine hz_callVv (as := []) (rest := []) hO (c_X11_minute l w hN hq23) hz_cal_X11_minute hz_K_9 hz_sh_178 (hz_lt_178 hN) tw_7_197 (Nat.le_of_ble_eq_true rfl) rfl rfl (Nat.le_of_ble_eq_true rfl) dX11_heatIn_34 ?_
      obtain ⟨x24, h_x24, h⟩ := hz_lt_e h
      refine hz_iinc (k := 2) (v := x24) (ls1 := [(2, .int x24), (0, .ref (hz_ad w 178)), (1, .int v1_17)]) hO dX11_heatIn_37 rfl (by rw [h_x24]; rfl) (Nat.le_of_ble_eq_true rfl) rfl ?_
      refine hz_goto (tgt := 28) hO dX11_heatIn_40 (by decide) ?_
      exact hz_ls [1, 2, 0] rfl (ih v1_17 x24 M22 h)
set_option maxRecDepth 100000 in
set_option maxHeartbeats 4000000 in
theorem c_X11_heatIn (l : Launch) (w : hz_C) {N : Nat} (hN : 193 ≤ N) (a1 : Int32) {M : hz_M} {rE : Int32} {ME : hz_M} (h : f_X11_heatIn a1 M = some (rE, ME)) : hz_Ct l yX11_heatIn cX11_heatIn 3 (some .int) 4 w N [.ref (hz_ad w 178), .int a1] M (hz_Qi w N rE ME) := by
  refine hz_ofW (by decide) rfl (Nat.le_of_ble_eq_true rfl) tw_8_208 ?_
  intro p e s m args below meth c hO
  show hz_G p l e 4 hz_z0 s m args below meth c w N 3 _ M 0 [(0, .ref (hz_ad w 178)), (1, .int a1)] []
  unfold f_X11_heatIn at h
  refine hz_aload_n hO dX11_heatIn_0 rfl 0 rfl ?_
  refine hz_iconst (v := (0 : Int32)) hO dX11_heatIn_1 (by decide) ?_
  obtain ⟨M1, h_M1, h⟩ := hz_lm_e h
  refine hz_putI (k := 8) (ty := .int) hO hz_K_9 tyX11_ok nmX11 hz_sh_178 (hz_lt_178 hN) rfl (Nat.le_of_ble_eq_true rfl) tw_6_237 rfl rfl rfl rfl rfl dX11_heatIn_2 ?_
  refine hz_nameM h_M1 ?_
  refine hz_aload_n hO dX11_heatIn_5 rfl 0 rfl ?_
  refine hz_iload_n hO dX11_heatIn_6 rfl 1 rfl ?_
  refine hz_iconst (v := (0 : Int32)) hO dX11_heatIn_7 (by decide) ?_
  refine hz_sipush (v := (200 : Int32)) hO dX11_heatIn_8 (by decide) ?_
  obtain ⟨r2, M3, hq4, h⟩ := hz_ct_e h
  refine hz_callSi (as := [.int a1, .int (0 : Int32), .int (200 : Int32)]) (rest := [.ref (hz_ad w 178)]) hO (c_X11_in l w hN a1 (0 : Int32) (200 : Int32) hq4) hz_cal_X11_in tw_6_171 (Nat.le_of_ble_eq_true rfl) rfl rfl (Nat.le_of_ble_eq_true rfl) dX11_heatIn_11 ?_
  obtain ⟨r5, M6, hq7, h⟩ := hz_ct_e h
  refine hz_callVi (as := [.int r2]) (rest := []) hO (c_X11_right l w hN r2 hq7) hz_cal_X11_right hz_K_9 hz_sh_178 (hz_lt_178 hN) tw_8_82 (Nat.le_of_ble_eq_true rfl) rfl rfl (Nat.le_of_ble_eq_true rfl) dX11_heatIn_14 ?_
  refine hz_if_ne (tgt := 22) hO dX11_heatIn_17 (by decide) (fun hc8 => ?_) (fun hc8 => ?_)
  · rw [if_neg hc8] at h
    refine hz_aload_n hO dX11_heatIn_22 rfl 0 rfl ?_
    obtain ⟨r9, M10, hq11, h⟩ := hz_ct_e h
    refine hz_callVv (as := []) (rest := []) hO (c_X11_tries l w hN hq11) hz_cal_X11_tries hz_K_9 hz_sh_178 (hz_lt_178 hN) tw_8_209 (Nat.le_of_ble_eq_true rfl) rfl rfl (Nat.le_of_ble_eq_true rfl) dX11_heatIn_23 ?_
    refine hz_iconst (v := (0 : Int32)) hO dX11_heatIn_26 (by decide) ?_
    refine hz_istore_n (ls1 := [(2, .int (0 : Int32)), (0, .ref (hz_ad w 178)), (1, .int a1)]) hO dX11_heatIn_27 rfl (Nat.le_of_ble_eq_true rfl) rfl ?_
    obtain ⟨k16, hk16, h⟩ := hz_jn_e h
    have gk16 : ∀  (M12 : hz_M), k16 M12 = some (rE, ME) → hz_G p l e 4 hz_z0 s m args below meth c w N 3 (MQ below (hz_Qi w N rE ME) args s 0 0 (hz_A w)) M12 43 [(0, .ref (hz_ad w 178))] [] := by
      intro M12 h
      rw [hk16] at h
      dsimp only at h
      refine hz_aload_n hO dX11_heatIn_43 rfl 0 rfl ?_
      refine hz_aload_n hO dX11_heatIn_44 rfl 0 rfl ?_
      refine hz_getR (k := 0) hO 179 hz_K_9 hz_sh_178 (hz_lt_178 hN) rfl (Nat.le_of_ble_eq_true rfl) tw_6_229 rfl dX11_heatIn_45 ?_
      refine hz_bipush (v := (9 : Int32)) hO dX11_heatIn_48 (by decide) ?_
      refine hz_iald hO hz_sh_179 (hz_lt_179 hN) (by decide) dX11_heatIn_50 ?_
      obtain ⟨r13, M14, hq15, h⟩ := hz_ct_e h
      refine hz_callVi (as := [.int (M12 179 (Int32.toNatClampNeg (9 : Int32)))]) (rest := []) hO (c_X11_back l w hN (M12 179 (Int32.toNatClampNeg (9 : Int32))) hq15) hz_cal_X11_back hz_K_9 hz_sh_178 (hz_lt_178 hN) tw_8_213 (Nat.le_of_ble_eq_true rfl) rfl rfl (Nat.le_of_ble_eq_true rfl) dX11_heatIn_51 ?_
      exact hz_nameM (hz_some_e h).2.symm (hz_name (hz_some_e h).1.symm (hz_iret hO dX11_heatIn_54))
    clear hk16
    exact hz_ls [1, 2, 0] rfl (g_X11_heatIn_L28 hN hO _ gk16 _ a1 (0 : Int32) M10 h)
  · rw [if_pos hc8] at h
    refine hz_iconst (v := (0 : Int32)) hO dX11_heatIn_20 (by decide) ?_
    exact hz_nameM (hz_some_e h).2.symm (hz_name (hz_some_e h).1.symm (hz_iret hO dX11_heatIn_21))
def f_X11_downIn_L34 (kk54 : Int32 → hz_M → hz_O) (kk66 : hz_M → hz_O) : Nat → Int32 → Int32 → hz_M → hz_O
  | 0, _, _, _ => none
  | n + 1, v1_27, v2_28, M29 =>
    if (200 : Int32) < v2_28 then
      kk66 M29
    else
      hz_ct (f_X11_minute M29) fun r31 M32 =>
      hz_gd (hz_in v1_27 16) <|
      if (M32 185 (Int32.toNatClampNeg v1_27)) = 0 then
        hz_lt (v2_28 + (1 : Int32)) fun x36 =>
        f_X11_downIn_L34 kk54 kk66 n v1_27 x36 M32
      else
        kk54 v2_28 M32
def f_X11_downIn (a1 : Int32) (M : hz_M) : hz_O :=
  hz_lm (hz_set M 178 8 (0 : Int32)) fun M1 =>
  hz_ct (f_X11_isGuest a1 M1) fun r2 M3 =>
  hz_ct (f_X11_right r2 M3) fun r5 M6 =>
  if r5 = 0 then
    some ((0 : Int32), M6)
  else
    hz_ct (f_X11_of a1 (2 : Int32) M6) fun r9 M10 =>
    if 0 < r9 then
      hz_ct (f_X11_tries M10) fun r13 M14 =>
      hz_jn (fun  (M16 : hz_M) =>
        hz_ct (f_X11_back (-1 : Int32) M16) fun r17 M18 =>
        some (r17, M18)
        ) fun k20 =>
      hz_jn (fun (v2_21 : Int32) (M22 : hz_M) =>
        hz_ct (f_X11_back v2_21 M22) fun r23 M24 =>
        some (r23, M24)
        ) fun k26 =>
      f_X11_downIn_L34 k26 k20 hz_FU a1 (1 : Int32) M14
    else
      some ((0 : Int32), M10)
set_option maxRecDepth 100000 in
set_option maxHeartbeats 4000000 in
theorem g_X11_downIn_L34 {p : Program} {l : Launch} {e : Env} {s : State} {m : MethodId} {args : Array Value} {below : List Frame} {meth : Method} {c : Code} {w : hz_C} {N : Nat} (hN : 193 ≤ N) {rE : Int32} {ME : hz_M} (hO : hz_Ok p s m args meth c w cX11_downIn 3 RX11 (some .int)) (kk54 : Int32 → hz_M → hz_O) (gkk54 : ∀ (v2_21 : Int32) (M : hz_M), kk54 v2_21 M = some (rE, ME) → hz_G p l e 4 hz_z0 s m args below meth c w N 3 (MQ below (hz_Qi w N rE ME) args s 0 0 (hz_A w)) M 54 [(0, .ref (hz_ad w 178)), (2, .int v2_21)] []) (kk66 : hz_M → hz_O) (gkk66 : ∀  (M : hz_M), kk66 M = some (rE, ME) → hz_G p l e 4 hz_z0 s m args below meth c w N 3 (MQ below (hz_Qi w N rE ME) args s 0 0 (hz_A w)) M 66 [(0, .ref (hz_ad w 178))] []) : ∀ (n : Nat) (v1_27 : Int32) (v2_28 : Int32) (M29 : hz_M), f_X11_downIn_L34 kk54 kk66 n v1_27 v2_28 M29 = some (rE, ME) → hz_G p l e 4 hz_z0 s m args below meth c w N 3 (MQ below (hz_Qi w N rE ME) args s 0 0 (hz_A w)) M29 34 [(0, .ref (hz_ad w 178)), (1, .int v1_27), (2, .int v2_28)] [] := by
  intro n
  induction n with
  | zero =>
    intro v1_27 v2_28 M29 h
    rw [f_X11_downIn_L34] at h
    cases h
  | succ n ih =>
    intro v1_27 v2_28 M29 h
    rw [f_X11_downIn_L34] at h
    refine hz_iload_n hO dX11_downIn_34 rfl 2 rfl ?_
    refine hz_sipush (v := (200 : Int32)) hO dX11_downIn_35 (by decide) ?_
    refine hz_icmp_gt (tgt := 66) hO dX11_downIn_38 (by decide) (fun hc30 => ?_) (fun hc30 => ?_)
    · rw [if_pos hc30] at h
      exact hz_ls [0] rfl (gkk66 M29 h)
    · rw [if_neg hc30] at h
      refine hz_aload_n hO dX11_downIn_41 rfl 0 rfl ?_
      obtain ⟨r31, M32, hq33, h⟩ := hz_ct_e h
      refine hz_callVv (as := []) (rest := []) hO (c_X11_minute l w hN hq33) hz_cal_X11_minute hz_K_9 hz_sh_178 (hz_lt_178 hN) tw_7_197 (Nat.le_of_ble_eq_true rfl) rfl rfl (Nat.le_of_ble_eq_true rfl) dX11_downIn_42 ?_
      refine hz_aload_n hO dX11_downIn_45 rfl 0 rfl ?_
      refine hz_getR (k := 9) hO 185 hz_K_9 hz_sh_178 (hz_lt_178 hN) rfl (Nat.le_of_ble_eq_true rfl) tw_6_238 rfl dX11_downIn_46 ?_
      refine hz_iload_n hO dX11_downIn_49 rfl 1 rfl ?_
      obtain ⟨hg34, h⟩ := hz_gd_e h
      refine hz_zald hO hz_sh_185 (hz_lt_185 hN) hg34 dX11_downIn_50 ?_
      refine hz_if_eq (tgt := 60) hO dX11_downIn_51 (by decide) (fun hc35 => ?_) (fun hc35 => ?_)
      · rw [if_pos hc35] at h
        obtain ⟨x36, h_x36, h⟩ := hz_lt_e h
        refine hz_iinc (k := 2) (v := x36) (ls1 := [(2, .int x36), (0, .ref (hz_ad w 178)), (1, .int v1_27)]) hO dX11_downIn_60 rfl (by rw [h_x36]; rfl) (Nat.le_of_ble_eq_true rfl) rfl ?_
        refine hz_goto (tgt := 34) hO dX11_downIn_63 (by decide) ?_
        exact hz_ls [1, 2, 0] rfl (ih v1_27 x36 M32 h)
      · rw [if_neg hc35] at h
        exact hz_ls [0, 2] rfl (gkk54 v2_28 M32 h)
set_option maxRecDepth 100000 in
set_option maxHeartbeats 4000000 in
theorem c_X11_downIn (l : Launch) (w : hz_C) {N : Nat} (hN : 193 ≤ N) (a1 : Int32) {M : hz_M} {rE : Int32} {ME : hz_M} (h : f_X11_downIn a1 M = some (rE, ME)) : hz_Ct l yX11_downIn cX11_downIn 3 (some .int) 4 w N [.ref (hz_ad w 178), .int a1] M (hz_Qi w N rE ME) := by
  refine hz_ofW (by decide) rfl (Nat.le_of_ble_eq_true rfl) tw_8_220 ?_
  intro p e s m args below meth c hO
  show hz_G p l e 4 hz_z0 s m args below meth c w N 3 _ M 0 [(0, .ref (hz_ad w 178)), (1, .int a1)] []
  unfold f_X11_downIn at h
  refine hz_aload_n hO dX11_downIn_0 rfl 0 rfl ?_
  refine hz_iconst (v := (0 : Int32)) hO dX11_downIn_1 (by decide) ?_
  obtain ⟨M1, h_M1, h⟩ := hz_lm_e h
  refine hz_putI (k := 8) (ty := .int) hO hz_K_9 tyX11_ok nmX11 hz_sh_178 (hz_lt_178 hN) rfl (Nat.le_of_ble_eq_true rfl) tw_6_237 rfl rfl rfl rfl rfl dX11_downIn_2 ?_
  refine hz_nameM h_M1 ?_
  refine hz_aload_n hO dX11_downIn_5 rfl 0 rfl ?_
  refine hz_aload_n hO dX11_downIn_6 rfl 0 rfl ?_
  refine hz_iload_n hO dX11_downIn_7 rfl 1 rfl ?_
  obtain ⟨r2, M3, hq4, h⟩ := hz_ct_e h
  refine hz_callVi (as := [.int a1]) (rest := [.ref (hz_ad w 178)]) hO (c_X11_isGuest l w hN a1 hq4) hz_cal_X11_isGuest hz_K_9 hz_sh_178 (hz_lt_178 hN) tw_8_102 (Nat.le_of_ble_eq_true rfl) rfl rfl (Nat.le_of_ble_eq_true rfl) dX11_downIn_8 ?_
  obtain ⟨r5, M6, hq7, h⟩ := hz_ct_e h
  refine hz_callVi (as := [.int r2]) (rest := []) hO (c_X11_right l w hN r2 hq7) hz_cal_X11_right hz_K_9 hz_sh_178 (hz_lt_178 hN) tw_8_82 (Nat.le_of_ble_eq_true rfl) rfl rfl (Nat.le_of_ble_eq_true rfl) dX11_downIn_11 ?_
  refine hz_if_eq (tgt := 26) hO dX11_downIn_14 (by decide) (fun hc8 => ?_) (fun hc8 => ?_)
  · rw [if_pos hc8] at h
    refine hz_iconst (v := (0 : Int32)) hO dX11_downIn_26 (by decide) ?_
    exact hz_nameM (hz_some_e h).2.symm (hz_name (hz_some_e h).1.symm (hz_iret hO dX11_downIn_27))
  · rw [if_neg hc8] at h
    refine hz_aload_n hO dX11_downIn_17 rfl 0 rfl ?_
    refine hz_iload_n hO dX11_downIn_18 rfl 1 rfl ?_
    refine hz_iconst (v := (2 : Int32)) hO dX11_downIn_19 (by decide) ?_
    obtain ⟨r9, M10, hq11, h⟩ := hz_ct_e h
    refine hz_callVi (as := [.int a1, .int (2 : Int32)]) (rest := []) hO (c_X11_of l w hN a1 (2 : Int32) hq11) hz_cal_X11_of hz_K_9 hz_sh_178 (hz_lt_178 hN) tw_6_217 (Nat.le_of_ble_eq_true rfl) rfl rfl (Nat.le_of_ble_eq_true rfl) dX11_downIn_20 ?_
    refine hz_if_gt (tgt := 28) hO dX11_downIn_23 (by decide) (fun hc12 => ?_) (fun hc12 => ?_)
    · rw [if_pos hc12] at h
      refine hz_aload_n hO dX11_downIn_28 rfl 0 rfl ?_
      obtain ⟨r13, M14, hq15, h⟩ := hz_ct_e h
      refine hz_callVv (as := []) (rest := []) hO (c_X11_tries l w hN hq15) hz_cal_X11_tries hz_K_9 hz_sh_178 (hz_lt_178 hN) tw_8_209 (Nat.le_of_ble_eq_true rfl) rfl rfl (Nat.le_of_ble_eq_true rfl) dX11_downIn_29 ?_
      refine hz_iconst (v := (1 : Int32)) hO dX11_downIn_32 (by decide) ?_
      refine hz_istore_n (ls1 := [(2, .int (1 : Int32)), (0, .ref (hz_ad w 178)), (1, .int a1)]) hO dX11_downIn_33 rfl (Nat.le_of_ble_eq_true rfl) rfl ?_
      obtain ⟨k20, hk20, h⟩ := hz_jn_e h
      have gk20 : ∀  (M16 : hz_M), k20 M16 = some (rE, ME) → hz_G p l e 4 hz_z0 s m args below meth c w N 3 (MQ below (hz_Qi w N rE ME) args s 0 0 (hz_A w)) M16 66 [(0, .ref (hz_ad w 178))] [] := by
        intro M16 h
        rw [hk20] at h
        dsimp only at h
        refine hz_aload_n hO dX11_downIn_66 rfl 0 rfl ?_
        refine hz_iconst (v := (-1 : Int32)) hO dX11_downIn_67 (by decide) ?_
        obtain ⟨r17, M18, hq19, h⟩ := hz_ct_e h
        refine hz_callVi (as := [.int (-1 : Int32)]) (rest := []) hO (c_X11_back l w hN (-1 : Int32) hq19) hz_cal_X11_back hz_K_9 hz_sh_178 (hz_lt_178 hN) tw_8_213 (Nat.le_of_ble_eq_true rfl) rfl rfl (Nat.le_of_ble_eq_true rfl) dX11_downIn_68 ?_
        exact hz_nameM (hz_some_e h).2.symm (hz_name (hz_some_e h).1.symm (hz_iret hO dX11_downIn_71))
      clear hk20
      obtain ⟨k26, hk26, h⟩ := hz_jn_e h
      have gk26 : ∀ (v2_21 : Int32) (M22 : hz_M), k26 v2_21 M22 = some (rE, ME) → hz_G p l e 4 hz_z0 s m args below meth c w N 3 (MQ below (hz_Qi w N rE ME) args s 0 0 (hz_A w)) M22 54 [(0, .ref (hz_ad w 178)), (2, .int v2_21)] [] := by
        intro v2_21 M22 h
        rw [hk26] at h
        dsimp only at h
        refine hz_aload_n hO dX11_downIn_54 rfl 0 rfl ?_
        refine hz_iload_n hO dX11_downIn_55 rfl 1 rfl ?_
        obtain ⟨r23, M24, hq25, h⟩ := hz_ct_e h
        refine hz_callVi (as := [.int v2_21]) (rest := []) hO (c_X11_back l w hN v2_21 hq25) hz_cal_X11_back hz_K_9 hz_sh_178 (hz_lt_178 hN) tw_8_213 (Nat.le_of_ble_eq_true rfl) rfl rfl (Nat.le_of_ble_eq_true rfl) dX11_downIn_56 ?_
        exact hz_nameM (hz_some_e h).2.symm (hz_name (hz_some_e h).1.symm (hz_iret hO dX11_downIn_59))
      clear hk26
      exact hz_ls [1, 2, 0] rfl (g_X11_downIn_L34 hN hO _ gk26 _ gk20 _ a1 (1 : Int32) M14 h)
    · rw [if_neg hc12] at h
      refine hz_iconst (v := (0 : Int32)) hO dX11_downIn_26 (by decide) ?_
      exact hz_nameM (hz_some_e h).2.symm (hz_name (hz_some_e h).1.symm (hz_iret hO dX11_downIn_27))
