-- X10_meanWet X10_bitsOf X11_meanWet X11_heatBits X10_heatBits
def f_X10_meanWet (M : hz_M) : hz_O :=
  if 0 < (M 1 6) then
    hz_ct (f_X7_allWet M) fun r2 M3 =>
    hz_gd (hz_n64 (FP.ddiv (FP.i2d r2) (FP.i2d (M3 1 6)))) <|
    hz_gd ((FP.ddiv (FP.i2d r2) (FP.i2d (M3 1 6))) == hz_dd (r2 * 32 + (M3 1 6))) <|
    some ((r2 * 32 + (M3 1 6)), M3)
  else
    hz_gd (FP.dconst0 == hz_dd 0) <|
    some (0, M)
set_option maxRecDepth 100000 in
set_option maxHeartbeats 4000000 in
theorem c_X10_meanWet (l : Launch) (w : hz_C) {N : Nat} (hN : 178 ≤ N) {M : hz_M} {rE : Int32} {ME : hz_M} (h : f_X10_meanWet M = some (rE, ME)) : hz_Ct l yX10_meanWet cX10_meanWet 1 (some .double) 1 w N [.ref (hz_ad w 0)] M (hz_Qd w N rE ME) := by
  refine hz_ofW (by decide) rfl (Nat.le_of_ble_eq_true rfl) tw_4_184 ?_
  intro p e s m args below meth c hO
  show hz_G p l e 1 hz_z0 s m args below meth c w N 1 _ M 0 [(0, .ref (hz_ad w 0))] []
  unfold f_X10_meanWet at h
  refine hz_aload_n hO dX10_meanWet_0 rfl 0 rfl ?_
  refine hz_getR (k := 0) hO 1 hz_K_8 hz_sh_0 (hz_lt_0 hN) rfl (Nat.le_of_ble_eq_true rfl) tw_3_43 rfl dX10_meanWet_1 ?_
  refine hz_getI (k := 6) hO hz_K_2 hz_sh_1 (hz_lt_1 hN) rfl (Nat.le_of_ble_eq_true rfl) tw_1_63 rfl dX10_meanWet_4 ?_
  refine hz_if_gt (tgt := 12) hO dX10_meanWet_7 (by decide) (fun hc1 => ?_) (fun hc1 => ?_)
  · rw [if_pos hc1] at h
    refine hz_aload_n hO dX10_meanWet_12 rfl 0 rfl ?_
    refine hz_getR (k := 3) hO 11 hz_K_8 hz_sh_0 (hz_lt_0 hN) rfl (Nat.le_of_ble_eq_true rfl) tw_3_46 rfl dX10_meanWet_13 ?_
    obtain ⟨r2, M3, hq4, h⟩ := hz_ct_e h
    refine hz_callVi (as := []) (rest := []) hO (c_X7_allWet l w hN hq4) hz_cal_X7_allWet hz_K_5 hz_sh_11 (hz_lt_11 hN) tw_4_185 (Nat.le_of_ble_eq_true rfl) rfl rfl (Nat.le_of_ble_eq_true rfl) dX10_meanWet_16 ?_
    refine hz_i2d hO dX10_meanWet_19 ?_
    refine hz_aload_n hO dX10_meanWet_20 rfl 0 rfl ?_
    refine hz_getR (k := 0) hO 1 hz_K_8 hz_sh_0 (hz_lt_0 hN) rfl (Nat.le_of_ble_eq_true rfl) tw_3_43 rfl dX10_meanWet_21 ?_
    refine hz_getI (k := 6) hO hz_K_2 hz_sh_1 (hz_lt_1 hN) rfl (Nat.le_of_ble_eq_true rfl) tw_1_63 rfl dX10_meanWet_24 ?_
    refine hz_i2d hO dX10_meanWet_27 ?_
    obtain ⟨hg5, h⟩ := hz_gd_e h
    refine hz_ddiv hO dX10_meanWet_28 hg5 ?_
    obtain ⟨hg6, h⟩ := hz_gd_e h
    exact hz_nameM (hz_some_e h).2.symm (hz_dret hO ((eq_of_beq hg6).trans (by rw [(hz_some_e h).1])) dX10_meanWet_29)
  · rw [if_neg hc1] at h
    refine hz_dconst0 hO dX10_meanWet_10 ?_
    obtain ⟨hg7, h⟩ := hz_gd_e h
    exact hz_nameM (hz_some_e h).2.symm (hz_dret hO ((eq_of_beq hg7).trans (by rw [(hz_some_e h).1])) dX10_meanWet_11)
def f_X10_bitsOf_L15 (kk40 : Int32 → UInt32 → hz_M → hz_O) : Nat → Int32 → UInt32 → Int32 → hz_M → hz_O
  | 0, _, _, _, _ => none
  | n + 1, v1_8, v2_9, v3_10, M11 =>
    if (126 : Int32) ≤ v3_10 then
      kk40 v1_8 v2_9 M11
    else
      if 0 ≤ (Op.cmpValue (FP.fcmp v2_9 FP.fconst1) .g) then
        kk40 v1_8 v2_9 M11
      else
        hz_gd (hz_n32 (FP.fmul v2_9 FP.fconst2)) <|
        hz_ltF ((FP.fmul v2_9 FP.fconst2)) fun x15 =>
        hz_lt (v1_8 + (-1 : Int32)) fun x16 =>
        hz_lt (v3_10 + (1 : Int32)) fun x17 =>
        f_X10_bitsOf_L15 kk40 n x16 x15 x17 M11
def f_X10_bitsOf (a0 : UInt32) (M : hz_M) : hz_O :=
  if 0 < (Op.cmpValue (FP.fcmp a0 FP.fconst0) .l) then
    hz_jn (fun (v1_2 : Int32) (v2_3 : UInt32) (M4 : hz_M) =>
      hz_gd (hz_n32 (FP.fsub v2_3 FP.fconst1)) <|
      hz_gd (hz_n32 (FP.fmul (FP.fsub v2_3 FP.fconst1) (1258291200 : UInt32))) <|
      some (((v1_2 <<< ((23 : Int32) &&& 31)) ||| (FP.f2i (FP.fmul (FP.fsub v2_3 FP.fconst1) (1258291200 : UInt32)))), M4)
      ) fun k7 =>
    f_X10_bitsOf_L15 k7 hz_FU (127 : Int32) a0 (0 : Int32) M
  else
    some ((0 : Int32), M)
set_option maxRecDepth 100000 in
set_option maxHeartbeats 4000000 in
theorem g_X10_bitsOf_L15 {p : Program} {l : Launch} {e : Env} {s : State} {m : MethodId} {args : Array Value} {below : List Frame} {meth : Method} {c : Code} {w : hz_C} {N : Nat} (hN : 178 ≤ N) {rE : Int32} {ME : hz_M} (hO : hz_Ok p s m args meth c w cX10_bitsOf 4 RX10 (some .int)) (kk40 : Int32 → UInt32 → hz_M → hz_O) (gkk40 : ∀ (v1_2 : Int32) (v2_3 : UInt32) (M : hz_M), kk40 v1_2 v2_3 M = some (rE, ME) → hz_G p l e 0 hz_z0 s m args below meth c w N 4 (MQ below (hz_Qi w N rE ME) args s 0 0 (hz_A w)) M 40 [(1, .int v1_2), (2, .float v2_3)] []) : ∀ (n : Nat) (v1_8 : Int32) (v2_9 : UInt32) (v3_10 : Int32) (M11 : hz_M), f_X10_bitsOf_L15 kk40 n v1_8 v2_9 v3_10 M11 = some (rE, ME) → hz_G p l e 0 hz_z0 s m args below meth c w N 4 (MQ below (hz_Qi w N rE ME) args s 0 0 (hz_A w)) M11 15 [(1, .int v1_8), (2, .float v2_9), (3, .int v3_10)] [] := by
  intro n
  induction n with
  | zero =>
    intro v1_8 v2_9 v3_10 M11 h
    rw [f_X10_bitsOf_L15] at h
    cases h
  | succ n ih =>
    intro v1_8 v2_9 v3_10 M11 h
    rw [f_X10_bitsOf_L15] at h
    refine hz_iload_n hO dX10_bitsOf_15 rfl 2 rfl ?_
    refine hz_bipush (v := (126 : Int32)) hO dX10_bitsOf_16 (by decide) ?_
    refine hz_icmp_ge (tgt := 40) hO dX10_bitsOf_18 (by decide) (fun hc12 => ?_) (fun hc12 => ?_)
    · rw [if_pos hc12] at h
      exact hz_ls [0, 1] rfl (gkk40 v1_8 v2_9 M11 h)
    · rw [if_neg hc12] at h
      refine hz_fload_n hO dX10_bitsOf_21 rfl 1 rfl ?_
      refine hz_fconst1 hO dX10_bitsOf_22 ?_
      refine hz_fcmp hO dX10_bitsOf_23 ?_
      refine hz_if_ge (tgt := 40) hO dX10_bitsOf_24 (by decide) (fun hc13 => ?_) (fun hc13 => ?_)
      · rw [if_pos hc13] at h
        exact hz_ls [0, 1] rfl (gkk40 v1_8 v2_9 M11 h)
      · rw [if_neg hc13] at h
        refine hz_fload_n hO dX10_bitsOf_27 rfl 1 rfl ?_
        refine hz_fconst2 hO dX10_bitsOf_28 ?_
        obtain ⟨hg14, h⟩ := hz_gd_e h
        refine hz_fmul hO dX10_bitsOf_29 hg14 ?_
        obtain ⟨x15, h_x15, h⟩ := hz_ltF_e h
        refine hz_nameF h_x15 ?_
        refine hz_fstore_n (ls1 := [(2, .float x15), (1, .int v1_8), (3, .int v3_10)]) hO dX10_bitsOf_30 rfl (Nat.le_of_ble_eq_true rfl) rfl ?_
        obtain ⟨x16, h_x16, h⟩ := hz_lt_e h
        refine hz_iinc (k := 1) (v := x16) (ls1 := [(1, .int x16), (2, .float x15), (3, .int v3_10)]) hO dX10_bitsOf_31 rfl (by rw [h_x16]; rfl) (Nat.le_of_ble_eq_true rfl) rfl ?_
        obtain ⟨x17, h_x17, h⟩ := hz_lt_e h
        refine hz_iinc (k := 2) (v := x17) (ls1 := [(3, .int x17), (1, .int x16), (2, .float x15)]) hO dX10_bitsOf_34 rfl (by rw [h_x17]; rfl) (Nat.le_of_ble_eq_true rfl) rfl ?_
        refine hz_goto (tgt := 15) hO dX10_bitsOf_37 (by decide) ?_
        exact hz_ls [1, 2, 0] rfl (ih x16 x15 x17 M11 h)
set_option maxRecDepth 100000 in
set_option maxHeartbeats 4000000 in
theorem c_X10_bitsOf (l : Launch) (w : hz_C) {N : Nat} (hN : 178 ≤ N) (a0 : UInt32) {M : hz_M} {rE : Int32} {ME : hz_M} (h : f_X10_bitsOf a0 M = some (rE, ME)) : hz_Ct l yX10_bitsOf cX10_bitsOf 4 (some .int) 0 w N [.float a0] M (hz_Qi w N rE ME) := by
  refine hz_ofW (by decide) rfl (Nat.le_of_ble_eq_true rfl) tw_4_196 ?_
  intro p e s m args below meth c hO
  show hz_G p l e 0 hz_z0 s m args below meth c w N 4 _ M 0 [(0, .float a0)] []
  unfold f_X10_bitsOf at h
  refine hz_fload_n hO dX10_bitsOf_0 rfl 0 rfl ?_
  refine hz_fconst0 hO dX10_bitsOf_1 ?_
  refine hz_fcmp hO dX10_bitsOf_2 ?_
  refine hz_if_gt (tgt := 8) hO dX10_bitsOf_3 (by decide) (fun hc1 => ?_) (fun hc1 => ?_)
  · rw [if_pos hc1] at h
    refine hz_bipush (v := (127 : Int32)) hO dX10_bitsOf_8 (by decide) ?_
    refine hz_istore_n (ls1 := [(1, .int (127 : Int32)), (0, .float a0)]) hO dX10_bitsOf_10 rfl (Nat.le_of_ble_eq_true rfl) rfl ?_
    refine hz_fload_n hO dX10_bitsOf_11 rfl 1 rfl ?_
    refine hz_fstore_n (ls1 := [(2, .float a0), (1, .int (127 : Int32)), (0, .float a0)]) hO dX10_bitsOf_12 rfl (Nat.le_of_ble_eq_true rfl) rfl ?_
    refine hz_iconst (v := (0 : Int32)) hO dX10_bitsOf_13 (by decide) ?_
    refine hz_istore_n (ls1 := [(3, .int (0 : Int32)), (2, .float a0), (1, .int (127 : Int32)), (0, .float a0)]) hO dX10_bitsOf_14 rfl (Nat.le_of_ble_eq_true rfl) rfl ?_
    obtain ⟨k7, hk7, h⟩ := hz_jn_e h
    have gk7 : ∀ (v1_2 : Int32) (v2_3 : UInt32) (M4 : hz_M), k7 v1_2 v2_3 M4 = some (rE, ME) → hz_G p l e 0 hz_z0 s m args below meth c w N 4 (MQ below (hz_Qi w N rE ME) args s 0 0 (hz_A w)) M4 40 [(1, .int v1_2), (2, .float v2_3)] [] := by
      intro v1_2 v2_3 M4 h
      rw [hk7] at h
      dsimp only at h
      refine hz_iload_n hO dX10_bitsOf_40 rfl 0 rfl ?_
      refine hz_bipush (v := (23 : Int32)) hO dX10_bitsOf_41 (by decide) ?_
      refine hz_ishl hO dX10_bitsOf_43 ?_
      refine hz_fload_n hO dX10_bitsOf_44 rfl 1 rfl ?_
      refine hz_fconst1 hO dX10_bitsOf_45 ?_
      obtain ⟨hg5, h⟩ := hz_gd_e h
      refine hz_fsub hO dX10_bitsOf_46 hg5 ?_
      refine hz_ldcwF hO tw_4_197 dX10_bitsOf_47 ?_
      obtain ⟨hg6, h⟩ := hz_gd_e h
      refine hz_fmul hO dX10_bitsOf_50 hg6 ?_
      refine hz_f2i hO dX10_bitsOf_51 ?_
      refine hz_ior hO dX10_bitsOf_52 ?_
      exact hz_nameM (hz_some_e h).2.symm (hz_name (hz_some_e h).1.symm (hz_iret hO dX10_bitsOf_53))
    clear hk7
    exact hz_ls [2, 1, 0] rfl (g_X10_bitsOf_L15 hN hO _ gk7 _ (127 : Int32) a0 (0 : Int32) M h)
  · rw [if_neg hc1] at h
    refine hz_iconst (v := (0 : Int32)) hO dX10_bitsOf_6 (by decide) ?_
    exact hz_nameM (hz_some_e h).2.symm (hz_name (hz_some_e h).1.symm (hz_iret hO dX10_bitsOf_7))
def f_X11_meanWet_L9 (kk34 : Int32 → hz_M → hz_O) : Nat → Int32 → Int32 → hz_M → hz_O
  | 0, _, _, _ => none
  | n + 1, v1_9, v2_10, M11 =>
    if (M11 179 (Int32.toNatClampNeg (2 : Int32))) ≤ v2_10 then
      kk34 v1_9 M11
    else
      hz_ct (f_X11_ofT v2_10 (0 : Int32) M11) fun r13 M14 =>
      hz_lt ((v1_9 + r13)) fun x16 =>
      hz_lt (v2_10 + (1 : Int32)) fun x17 =>
      f_X11_meanWet_L9 kk34 n x16 x17 M14
def f_X11_meanWet (M : hz_M) : hz_O :=
  hz_lm (hz_set M 178 8 (0 : Int32)) fun M1 =>
  hz_jn (fun (v1_2 : Int32) (M3 : hz_M) =>
    if (M3 179 (Int32.toNatClampNeg (2 : Int32))) = 0 then
      hz_gd (FP.dconst0 == hz_dd 0) <|
      some (0, M3)
    else
      hz_gd (hz_n64 (FP.ddiv (FP.i2d v1_2) (FP.i2d (M3 179 (Int32.toNatClampNeg (2 : Int32)))))) <|
      hz_gd ((FP.ddiv (FP.i2d v1_2) (FP.i2d (M3 179 (Int32.toNatClampNeg (2 : Int32))))) == hz_dd (v1_2 * 32 + (M3 179 (Int32.toNatClampNeg (2 : Int32))))) <|
      some ((v1_2 * 32 + (M3 179 (Int32.toNatClampNeg (2 : Int32)))), M3)
    ) fun k8 =>
  f_X11_meanWet_L9 k8 hz_FU (0 : Int32) (0 : Int32) M1
set_option maxRecDepth 100000 in
set_option maxHeartbeats 4000000 in
theorem g_X11_meanWet_L9 {p : Program} {l : Launch} {e : Env} {s : State} {m : MethodId} {args : Array Value} {below : List Frame} {meth : Method} {c : Code} {w : hz_C} {N : Nat} (hN : 193 ≤ N) {rE : Int32} {ME : hz_M} (hO : hz_Ok p s m args meth c w cX11_meanWet 3 RX11 (some .double)) (kk34 : Int32 → hz_M → hz_O) (gkk34 : ∀ (v1_2 : Int32) (M : hz_M), kk34 v1_2 M = some (rE, ME) → hz_G p l e 1 hz_z0 s m args below meth c w N 3 (MQ below (hz_Qd w N rE ME) args s 0 0 (hz_A w)) M 34 [(0, .ref (hz_ad w 178)), (1, .int v1_2)] []) : ∀ (n : Nat) (v1_9 : Int32) (v2_10 : Int32) (M11 : hz_M), f_X11_meanWet_L9 kk34 n v1_9 v2_10 M11 = some (rE, ME) → hz_G p l e 1 hz_z0 s m args below meth c w N 3 (MQ below (hz_Qd w N rE ME) args s 0 0 (hz_A w)) M11 9 [(0, .ref (hz_ad w 178)), (1, .int v1_9), (2, .int v2_10)] [] := by
  intro n
  induction n with
  | zero =>
    intro v1_9 v2_10 M11 h
    rw [f_X11_meanWet_L9] at h
    cases h
  | succ n ih =>
    intro v1_9 v2_10 M11 h
    rw [f_X11_meanWet_L9] at h
    refine hz_iload_n hO dX11_meanWet_9 rfl 2 rfl ?_
    refine hz_aload_n hO dX11_meanWet_10 rfl 0 rfl ?_
    refine hz_getR (k := 0) hO 179 hz_K_9 hz_sh_178 (hz_lt_178 hN) rfl (Nat.le_of_ble_eq_true rfl) tw_6_229 rfl dX11_meanWet_11 ?_
    refine hz_iconst (v := (2 : Int32)) hO dX11_meanWet_14 (by decide) ?_
    refine hz_iald hO hz_sh_179 (hz_lt_179 hN) (by decide) dX11_meanWet_15 ?_
    refine hz_icmp_ge (tgt := 34) hO dX11_meanWet_16 (by decide) (fun hc12 => ?_) (fun hc12 => ?_)
    · rw [if_pos hc12] at h
      exact hz_ls [0, 1] rfl (gkk34 v1_9 M11 h)
    · rw [if_neg hc12] at h
      refine hz_iload_n hO dX11_meanWet_19 rfl 1 rfl ?_
      refine hz_aload_n hO dX11_meanWet_20 rfl 0 rfl ?_
      refine hz_iload_n hO dX11_meanWet_21 rfl 2 rfl ?_
      refine hz_iconst (v := (0 : Int32)) hO dX11_meanWet_22 (by decide) ?_
      obtain ⟨r13, M14, hq15, h⟩ := hz_ct_e h
      refine hz_callVi (as := [.int v2_10, .int (0 : Int32)]) (rest := [.int v1_9]) hO (c_X11_ofT l w hN v2_10 (0 : Int32) hq15) hz_cal_X11_ofT hz_K_9 hz_sh_178 (hz_lt_178 hN) tw_7_161 (Nat.le_of_ble_eq_true rfl) rfl rfl (Nat.le_of_ble_eq_true rfl) dX11_meanWet_23 ?_
      refine hz_iadd hO dX11_meanWet_26 ?_
      obtain ⟨x16, h_x16, h⟩ := hz_lt_e h
      refine hz_name h_x16 ?_
      refine hz_istore_n (ls1 := [(1, .int x16), (0, .ref (hz_ad w 178)), (2, .int v2_10)]) hO dX11_meanWet_27 rfl (Nat.le_of_ble_eq_true rfl) rfl ?_
      obtain ⟨x17, h_x17, h⟩ := hz_lt_e h
      refine hz_iinc (k := 2) (v := x17) (ls1 := [(2, .int x17), (1, .int x16), (0, .ref (hz_ad w 178))]) hO dX11_meanWet_28 rfl (by rw [h_x17]; rfl) (Nat.le_of_ble_eq_true rfl) rfl ?_
      refine hz_goto (tgt := 9) hO dX11_meanWet_31 (by decide) ?_
      exact hz_ls [2, 1, 0] rfl (ih x16 x17 M14 h)
set_option maxRecDepth 100000 in
set_option maxHeartbeats 4000000 in
theorem c_X11_meanWet (l : Launch) (w : hz_C) {N : Nat} (hN : 193 ≤ N) {M : hz_M} {rE : Int32} {ME : hz_M} (h : f_X11_meanWet M = some (rE, ME)) : hz_Ct l yX11_meanWet cX11_meanWet 3 (some .double) 1 w N [.ref (hz_ad w 178)] M (hz_Qd w N rE ME) := by
  refine hz_ofW (by decide) rfl (Nat.le_of_ble_eq_true rfl) tw_8_189 ?_
  intro p e s m args below meth c hO
  show hz_G p l e 1 hz_z0 s m args below meth c w N 3 _ M 0 [(0, .ref (hz_ad w 178))] []
  unfold f_X11_meanWet at h
  refine hz_aload_n hO dX11_meanWet_0 rfl 0 rfl ?_
  refine hz_iconst (v := (0 : Int32)) hO dX11_meanWet_1 (by decide) ?_
  obtain ⟨M1, h_M1, h⟩ := hz_lm_e h
  refine hz_putI (k := 8) (ty := .int) hO hz_K_9 tyX11_ok nmX11 hz_sh_178 (hz_lt_178 hN) rfl (Nat.le_of_ble_eq_true rfl) tw_6_237 rfl rfl rfl rfl rfl dX11_meanWet_2 ?_
  refine hz_nameM h_M1 ?_
  refine hz_iconst (v := (0 : Int32)) hO dX11_meanWet_5 (by decide) ?_
  refine hz_istore_n (ls1 := [(1, .int (0 : Int32)), (0, .ref (hz_ad w 178))]) hO dX11_meanWet_6 rfl (Nat.le_of_ble_eq_true rfl) rfl ?_
  refine hz_iconst (v := (0 : Int32)) hO dX11_meanWet_7 (by decide) ?_
  refine hz_istore_n (ls1 := [(2, .int (0 : Int32)), (1, .int (0 : Int32)), (0, .ref (hz_ad w 178))]) hO dX11_meanWet_8 rfl (Nat.le_of_ble_eq_true rfl) rfl ?_
  obtain ⟨k8, hk8, h⟩ := hz_jn_e h
  have gk8 : ∀ (v1_2 : Int32) (M3 : hz_M), k8 v1_2 M3 = some (rE, ME) → hz_G p l e 1 hz_z0 s m args below meth c w N 3 (MQ below (hz_Qd w N rE ME) args s 0 0 (hz_A w)) M3 34 [(0, .ref (hz_ad w 178)), (1, .int v1_2)] [] := by
    intro v1_2 M3 h
    rw [hk8] at h
    dsimp only at h
    refine hz_aload_n hO dX11_meanWet_34 rfl 0 rfl ?_
    refine hz_getR (k := 0) hO 179 hz_K_9 hz_sh_178 (hz_lt_178 hN) rfl (Nat.le_of_ble_eq_true rfl) tw_6_229 rfl dX11_meanWet_35 ?_
    refine hz_iconst (v := (2 : Int32)) hO dX11_meanWet_38 (by decide) ?_
    refine hz_iald hO hz_sh_179 (hz_lt_179 hN) (by decide) dX11_meanWet_39 ?_
    refine hz_if_ne (tgt := 47) hO dX11_meanWet_40 (by decide) (fun hc4 => ?_) (fun hc4 => ?_)
    · rw [if_neg hc4] at h
      refine hz_iload_n hO dX11_meanWet_47 rfl 1 rfl ?_
      refine hz_i2d hO dX11_meanWet_48 ?_
      refine hz_aload_n hO dX11_meanWet_49 rfl 0 rfl ?_
      refine hz_getR (k := 0) hO 179 hz_K_9 hz_sh_178 (hz_lt_178 hN) rfl (Nat.le_of_ble_eq_true rfl) tw_6_229 rfl dX11_meanWet_50 ?_
      refine hz_iconst (v := (2 : Int32)) hO dX11_meanWet_53 (by decide) ?_
      refine hz_iald hO hz_sh_179 (hz_lt_179 hN) (by decide) dX11_meanWet_54 ?_
      refine hz_i2d hO dX11_meanWet_55 ?_
      obtain ⟨hg5, h⟩ := hz_gd_e h
      refine hz_ddiv hO dX11_meanWet_56 hg5 ?_
      obtain ⟨hg6, h⟩ := hz_gd_e h
      exact hz_nameM (hz_some_e h).2.symm (hz_dret hO ((eq_of_beq hg6).trans (by rw [(hz_some_e h).1])) dX11_meanWet_57)
    · rw [if_pos hc4] at h
      refine hz_dconst0 hO dX11_meanWet_43 ?_
      refine hz_goto (tgt := 57) hO dX11_meanWet_44 (by decide) ?_
      obtain ⟨hg7, h⟩ := hz_gd_e h
      exact hz_nameM (hz_some_e h).2.symm (hz_dret hO ((eq_of_beq hg7).trans (by rw [(hz_some_e h).1])) dX11_meanWet_57)
  clear hk8
  exact hz_ls [2, 1, 0] rfl (g_X11_meanWet_L9 hN hO _ gk8 _ (0 : Int32) (0 : Int32) M1 h)
def f_X11_heatBits (M : hz_M) : hz_O :=
  hz_lm (hz_set M 178 8 (0 : Int32)) fun M1 =>
  hz_gd (hz_n32 (FP.fdiv (FP.i2f (M1 179 (Int32.toNatClampNeg (9 : Int32)))) (1120403456 : UInt32))) <|
  hz_gd (Op.cmpValue (FP.fcmp (FP.fdiv (FP.i2f (M1 179 (Int32.toNatClampNeg (9 : Int32)))) (1120403456 : UInt32)) (FP.fdiv (FP.i2f (M1 179 (Int32.toNatClampNeg (9 : Int32)))) (1120403456 : UInt32))) .l == 0) <|
  some ((UInt32.toInt32 (FP.fdiv (FP.i2f (M1 179 (Int32.toNatClampNeg (9 : Int32)))) (1120403456 : UInt32))), M1)
set_option maxRecDepth 100000 in
set_option maxHeartbeats 4000000 in
theorem c_X11_heatBits (l : Launch) (w : hz_C) {N : Nat} (hN : 193 ≤ N) {M : hz_M} {rE : Int32} {ME : hz_M} (h : f_X11_heatBits M = some (rE, ME)) : hz_Ct l yX11_heatBits cX11_heatBits 1 (some .int) 2 w N [.ref (hz_ad w 178)] M (hz_Qi w N rE ME) := by
  refine hz_ofW (by decide) rfl (Nat.le_of_ble_eq_true rfl) tw_8_193 ?_
  intro p e s m args below meth c hO
  show hz_G p l e 2 hz_z0 s m args below meth c w N 1 _ M 0 [(0, .ref (hz_ad w 178))] []
  unfold f_X11_heatBits at h
  refine hz_aload_n hO dX11_heatBits_0 rfl 0 rfl ?_
  refine hz_iconst (v := (0 : Int32)) hO dX11_heatBits_1 (by decide) ?_
  obtain ⟨M1, h_M1, h⟩ := hz_lm_e h
  refine hz_putI (k := 8) (ty := .int) hO hz_K_9 tyX11_ok nmX11 hz_sh_178 (hz_lt_178 hN) rfl (Nat.le_of_ble_eq_true rfl) tw_6_237 rfl rfl rfl rfl rfl dX11_heatBits_2 ?_
  refine hz_nameM h_M1 ?_
  refine hz_aload_n hO dX11_heatBits_5 rfl 0 rfl ?_
  refine hz_getR (k := 0) hO 179 hz_K_9 hz_sh_178 (hz_lt_178 hN) rfl (Nat.le_of_ble_eq_true rfl) tw_6_229 rfl dX11_heatBits_6 ?_
  refine hz_bipush (v := (9 : Int32)) hO dX11_heatBits_9 (by decide) ?_
  refine hz_iald hO hz_sh_179 (hz_lt_179 hN) (by decide) dX11_heatBits_11 ?_
  refine hz_i2f hO dX11_heatBits_12 ?_
  refine hz_ldcwF hO tw_8_194 dX11_heatBits_13 ?_
  obtain ⟨hg2, h⟩ := hz_gd_e h
  refine hz_fdiv hO dX11_heatBits_16 hg2 ?_
  obtain ⟨hg3, h⟩ := hz_gd_e h
  refine hz_callSi (as := [.float (FP.fdiv (FP.i2f (M1 179 (Int32.toNatClampNeg (9 : Int32)))) (1120403456 : UInt32))]) (rest := []) hO (c_f2ib l w hg3) hz_cal_f2ib tw_8_195 (Nat.le_of_ble_eq_true rfl) rfl rfl (Nat.le_of_ble_eq_true rfl) dX11_heatBits_17 ?_
  exact hz_nameM (hz_some_e h).2.symm (hz_name (hz_some_e h).1.symm (hz_iret hO dX11_heatBits_20))
def f_X10_heatBits (M : hz_M) : hz_O :=
  hz_gd (hz_n32 (FP.fdiv (FP.i2f (M 11 15)) (1120403456 : UInt32))) <|
  hz_ct (f_X10_bitsOf (FP.fdiv (FP.i2f (M 11 15)) (1120403456 : UInt32)) M) fun r2 M3 =>
  some (r2, M3)
set_option maxRecDepth 100000 in
set_option maxHeartbeats 4000000 in
theorem c_X10_heatBits (l : Launch) (w : hz_C) {N : Nat} (hN : 178 ≤ N) {M : hz_M} {rE : Int32} {ME : hz_M} (h : f_X10_heatBits M = some (rE, ME)) : hz_Ct l yX10_heatBits cX10_heatBits 1 (some .int) 1 w N [.ref (hz_ad w 0)] M (hz_Qi w N rE ME) := by
  refine hz_ofW (by decide) rfl (Nat.le_of_ble_eq_true rfl) tw_4_192 ?_
  intro p e s m args below meth c hO
  show hz_G p l e 1 hz_z0 s m args below meth c w N 1 _ M 0 [(0, .ref (hz_ad w 0))] []
  unfold f_X10_heatBits at h
  refine hz_aload_n hO dX10_heatBits_0 rfl 0 rfl ?_
  refine hz_getR (k := 3) hO 11 hz_K_8 hz_sh_0 (hz_lt_0 hN) rfl (Nat.le_of_ble_eq_true rfl) tw_3_46 rfl dX10_heatBits_1 ?_
  refine hz_getI (k := 15) hO hz_K_5 hz_sh_11 (hz_lt_11 hN) rfl (Nat.le_of_ble_eq_true rfl) tw_1_200 rfl dX10_heatBits_4 ?_
  refine hz_i2f hO dX10_heatBits_7 ?_
  refine hz_ldcwF hO tw_4_193 dX10_heatBits_8 ?_
  obtain ⟨hg1, h⟩ := hz_gd_e h
  refine hz_fdiv hO dX10_heatBits_11 hg1 ?_
  obtain ⟨r2, M3, hq4, h⟩ := hz_ct_e h
  refine hz_callSi (as := [.float (FP.fdiv (FP.i2f (M 11 15)) (1120403456 : UInt32))]) (rest := []) hO (c_X10_bitsOf l w hN (FP.fdiv (FP.i2f (M 11 15)) (1120403456 : UInt32)) hq4) hz_cal_X10_bitsOf tw_4_194 (Nat.le_of_ble_eq_true rfl) rfl rfl (Nat.le_of_ble_eq_true rfl) dX10_heatBits_12 ?_
  exact hz_nameM (hz_some_e h).2.symm (hz_name (hz_some_e h).1.symm (hz_iret hO dX10_heatBits_15))
