-- X11_goes X11_speaks X11_washes L_cell L_pick L_four L_feeds L_isGuest L_isStep L_isAs
def f_X11_goes (b : Nat) (a1 : Int32) (M : hz_M) : hz_O :=
  hz_ct (f_X11_lockerOf b a1 M) fun r1 M2 =>
  hz_gd (hz_in r1 12) <|
  hz_lm (hz_set M2 (b + 3) (Int32.toNatClampNeg r1) (-1 : Int32)) fun M5 =>
  hz_gd (hz_in a1 16) <|
  hz_lm (hz_set M5 (b + 8) (Int32.toNatClampNeg a1) (-1 : Int32)) fun M7 =>
  hz_gd (hz_in a1 16) <|
  hz_lm (hz_set M7 (b + 7) (Int32.toNatClampNeg a1) (-1 : Int32)) fun M9 =>
  hz_lm (hz_set M9 (b + 5) (Int32.toNatClampNeg (1 : Int32)) ((M9 (b + 5) (Int32.toNatClampNeg (1 : Int32))) + (1 : Int32))) fun M10 =>
  some (r1, M10)
set_option maxRecDepth 100000 in
set_option maxHeartbeats 4000000 in
theorem c_X11_goes (l : Launch) (w : hz_C) {N : Nat} (hN : 178 ≤ N) {b : Nat} (hB : hz_Own N b) (a1 : Int32) {M : hz_M} {rE : Int32} {ME : hz_M} (h : f_X11_goes b a1 M = some (rE, ME)) : hz_Ct l yX11_goes cX11_goes 3 (some .int) 1 w N [.ref (hz_ad w b), .int a1] M (hz_Qi w N rE ME) := by
  refine hz_ofW (by decide) rfl (Nat.le_of_ble_eq_true rfl) tw_6_56 ?_
  intro p e s m args below meth c hO
  show hz_G p l e 1 hz_z0 s m args below meth c w N 3 _ M 0 [(0, .ref (hz_ad w b)), (1, .int a1)] []
  unfold f_X11_goes at h
  refine hz_aload_n hO dX11_goes_0 rfl 0 rfl ?_
  refine hz_iload_n hO dX11_goes_1 rfl 1 rfl ?_
  obtain ⟨r1, M2, hq3, h⟩ := hz_ct_e h
  refine hz_callVi (as := [.int a1]) (rest := []) hO (c_X11_lockerOf l w hN hB a1 hq3) hz_cal_X11_lockerOf hz_K_11 hB.1 hB.2.1 tw_6_57 (Nat.le_of_ble_eq_true rfl) rfl rfl (Nat.le_of_ble_eq_true rfl) dX11_goes_2 ?_
  refine hz_istore_n (ls1 := [(2, .int r1), (0, .ref (hz_ad w b)), (1, .int a1)]) hO dX11_goes_5 rfl (Nat.le_of_ble_eq_true rfl) rfl ?_
  refine hz_aload_n hO dX11_goes_6 rfl 1 rfl ?_
  refine hz_getR (k := 14) hO (b + 3) hz_K_11 hB.1 hB.2.1 rfl (Nat.le_of_ble_eq_true rfl) tw_3_205 rfl dX11_goes_7 ?_
  refine hz_iload_n hO dX11_goes_10 rfl 0 rfl ?_
  refine hz_iconst (v := (-1 : Int32)) hO dX11_goes_11 (by decide) ?_
  obtain ⟨hg4, h⟩ := hz_gd_e h
  obtain ⟨M5, h_M5, h⟩ := hz_lm_e h
  refine hz_iast hO hB.2.2.2.2.2.2.1 hB.2.2.2.2.2.2.2.1 hg4 dX11_goes_12 ?_
  refine hz_nameM h_M5 ?_
  refine hz_aload_n hO dX11_goes_13 rfl 1 rfl ?_
  refine hz_getR (k := 19) hO (b + 8) hz_K_11 hB.1 hB.2.1 rfl (Nat.le_of_ble_eq_true rfl) tw_3_215 rfl dX11_goes_14 ?_
  refine hz_iload_n hO dX11_goes_17 rfl 2 rfl ?_
  refine hz_iconst (v := (-1 : Int32)) hO dX11_goes_18 (by decide) ?_
  obtain ⟨hg6, h⟩ := hz_gd_e h
  obtain ⟨M7, h_M7, h⟩ := hz_lm_e h
  refine hz_iast hO hB.2.2.2.2.2.2.2.2.2.2.2.2.2.2.2.2.1 hB.2.2.2.2.2.2.2.2.2.2.2.2.2.2.2.2.2.1 hg6 dX11_goes_19 ?_
  refine hz_nameM h_M7 ?_
  refine hz_aload_n hO dX11_goes_20 rfl 1 rfl ?_
  refine hz_getR (k := 18) hO (b + 7) hz_K_11 hB.1 hB.2.1 rfl (Nat.le_of_ble_eq_true rfl) tw_3_213 rfl dX11_goes_21 ?_
  refine hz_iload_n hO dX11_goes_24 rfl 2 rfl ?_
  refine hz_iconst (v := (-1 : Int32)) hO dX11_goes_25 (by decide) ?_
  obtain ⟨hg8, h⟩ := hz_gd_e h
  obtain ⟨M9, h_M9, h⟩ := hz_lm_e h
  refine hz_iast hO hB.2.2.2.2.2.2.2.2.2.2.2.2.2.2.1 hB.2.2.2.2.2.2.2.2.2.2.2.2.2.2.2.1 hg8 dX11_goes_26 ?_
  refine hz_nameM h_M9 ?_
  refine hz_aload_n hO dX11_goes_27 rfl 1 rfl ?_
  refine hz_getR (k := 16) hO (b + 5) hz_K_11 hB.1 hB.2.1 rfl (Nat.le_of_ble_eq_true rfl) tw_3_209 rfl dX11_goes_28 ?_
  refine hz_iconst (v := (1 : Int32)) hO dX11_goes_31 (by decide) ?_
  refine hz_dup2 hO dX11_goes_32 rfl rfl ?_
  refine hz_iald hO hB.2.2.2.2.2.2.2.2.2.2.1 hB.2.2.2.2.2.2.2.2.2.2.2.1 (by decide) dX11_goes_33 ?_
  refine hz_iconst (v := (1 : Int32)) hO dX11_goes_34 (by decide) ?_
  refine hz_iadd hO dX11_goes_35 ?_
  obtain ⟨M10, h_M10, h⟩ := hz_lm_e h
  refine hz_iast hO hB.2.2.2.2.2.2.2.2.2.2.1 hB.2.2.2.2.2.2.2.2.2.2.2.1 (by decide) dX11_goes_36 ?_
  refine hz_nameM h_M10 ?_
  refine hz_iload_n hO dX11_goes_37 rfl 0 rfl ?_
  exact hz_nameM (hz_some_e h).2.symm (hz_name (hz_some_e h).1.symm (hz_iret hO dX11_goes_38))
def f_X11_speaks (b : Nat) (a1 : Int32) (M : hz_M) : hz_O :=
  hz_ct (f_X11_isSilent b M) fun r1 M2 =>
  if r1 = 0 then
    hz_gd (hz_in a1 16) <|
    some ((M2 (b + 10) (Int32.toNatClampNeg a1)), M2)
  else
    hz_gd (hz_in a1 16) <|
    hz_gd (hz_in a1 16) <|
    hz_lm (hz_set M2 (b + 10) (Int32.toNatClampNeg a1) ((M2 (b + 10) (Int32.toNatClampNeg a1)) + (1 : Int32))) fun M7 =>
    hz_lm (hz_set M7 (b + 5) (Int32.toNatClampNeg (3 : Int32)) ((M7 (b + 5) (Int32.toNatClampNeg (3 : Int32))) + (1 : Int32))) fun M8 =>
    hz_gd (hz_in a1 16) <|
    if (3 : Int32) ≤ (M8 (b + 10) (Int32.toNatClampNeg a1)) then
      hz_ct (f_X11_goes b a1 M8) fun r11 M12 =>
      hz_gd (hz_in a1 16) <|
      hz_lm (hz_set M12 (b + 10) (Int32.toNatClampNeg a1) (0 : Int32)) fun M15 =>
      hz_gd (hz_in a1 16) <|
      hz_lm (hz_set M15 (b + 11) (Int32.toNatClampNeg a1) ((M15 b 8) / (600 : Int32))) fun M17 =>
      hz_lm (hz_set M17 (b + 5) (Int32.toNatClampNeg (2 : Int32)) ((M17 (b + 5) (Int32.toNatClampNeg (2 : Int32))) + (1 : Int32))) fun M18 =>
      some ((3 : Int32), M18)
    else
      hz_gd (hz_in a1 16) <|
      some ((M8 (b + 10) (Int32.toNatClampNeg a1)), M8)
set_option maxRecDepth 100000 in
set_option maxHeartbeats 4000000 in
theorem c_X11_speaks (l : Launch) (w : hz_C) {N : Nat} (hN : 178 ≤ N) {b : Nat} (hB : hz_Own N b) (a1 : Int32) {M : hz_M} {rE : Int32} {ME : hz_M} (h : f_X11_speaks b a1 M = some (rE, ME)) : hz_Ct l yX11_speaks cX11_speaks 3 (some .int) 2 w N [.ref (hz_ad w b), .int a1] M (hz_Qi w N rE ME) := by
  refine hz_ofW (by decide) rfl (Nat.le_of_ble_eq_true rfl) tw_6_67 ?_
  intro p e s m args below meth c hO
  show hz_G p l e 2 hz_z0 s m args below meth c w N 3 _ M 0 [(0, .ref (hz_ad w b)), (1, .int a1)] []
  unfold f_X11_speaks at h
  refine hz_aload_n hO dX11_speaks_0 rfl 0 rfl ?_
  obtain ⟨r1, M2, hq3, h⟩ := hz_ct_e h
  refine hz_callVi (as := []) (rest := []) hO (c_X11_isSilent l w hN hB hq3) hz_cal_X11_isSilent hz_K_11 hB.1 hB.2.1 tw_6_68 (Nat.le_of_ble_eq_true rfl) rfl rfl (Nat.le_of_ble_eq_true rfl) dX11_speaks_1 ?_
  refine hz_if_ne (tgt := 14) hO dX11_speaks_4 (by decide) (fun hc4 => ?_) (fun hc4 => ?_)
  · rw [if_neg hc4] at h
    refine hz_aload_n hO dX11_speaks_14 rfl 0 rfl ?_
    refine hz_getR (k := 21) hO (b + 10) hz_K_11 hB.1 hB.2.1 rfl (Nat.le_of_ble_eq_true rfl) tw_3_219 rfl dX11_speaks_15 ?_
    refine hz_iload_n hO dX11_speaks_18 rfl 1 rfl ?_
    refine hz_dup2 hO dX11_speaks_19 rfl rfl ?_
    obtain ⟨hg5, h⟩ := hz_gd_e h
    refine hz_iald hO hB.2.2.2.2.2.2.2.2.2.2.2.2.2.2.2.2.2.2.2.2.1 hB.2.2.2.2.2.2.2.2.2.2.2.2.2.2.2.2.2.2.2.2.2.1 hg5 dX11_speaks_20 ?_
    refine hz_iconst (v := (1 : Int32)) hO dX11_speaks_21 (by decide) ?_
    refine hz_iadd hO dX11_speaks_22 ?_
    obtain ⟨hg6, h⟩ := hz_gd_e h
    obtain ⟨M7, h_M7, h⟩ := hz_lm_e h
    refine hz_iast hO hB.2.2.2.2.2.2.2.2.2.2.2.2.2.2.2.2.2.2.2.2.1 hB.2.2.2.2.2.2.2.2.2.2.2.2.2.2.2.2.2.2.2.2.2.1 hg6 dX11_speaks_23 ?_
    refine hz_nameM h_M7 ?_
    refine hz_aload_n hO dX11_speaks_24 rfl 0 rfl ?_
    refine hz_getR (k := 16) hO (b + 5) hz_K_11 hB.1 hB.2.1 rfl (Nat.le_of_ble_eq_true rfl) tw_3_209 rfl dX11_speaks_25 ?_
    refine hz_iconst (v := (3 : Int32)) hO dX11_speaks_28 (by decide) ?_
    refine hz_dup2 hO dX11_speaks_29 rfl rfl ?_
    refine hz_iald hO hB.2.2.2.2.2.2.2.2.2.2.1 hB.2.2.2.2.2.2.2.2.2.2.2.1 (by decide) dX11_speaks_30 ?_
    refine hz_iconst (v := (1 : Int32)) hO dX11_speaks_31 (by decide) ?_
    refine hz_iadd hO dX11_speaks_32 ?_
    obtain ⟨M8, h_M8, h⟩ := hz_lm_e h
    refine hz_iast hO hB.2.2.2.2.2.2.2.2.2.2.1 hB.2.2.2.2.2.2.2.2.2.2.2.1 (by decide) dX11_speaks_33 ?_
    refine hz_nameM h_M8 ?_
    refine hz_aload_n hO dX11_speaks_34 rfl 0 rfl ?_
    refine hz_getR (k := 21) hO (b + 10) hz_K_11 hB.1 hB.2.1 rfl (Nat.le_of_ble_eq_true rfl) tw_3_219 rfl dX11_speaks_35 ?_
    refine hz_iload_n hO dX11_speaks_38 rfl 1 rfl ?_
    obtain ⟨hg9, h⟩ := hz_gd_e h
    refine hz_iald hO hB.2.2.2.2.2.2.2.2.2.2.2.2.2.2.2.2.2.2.2.2.1 hB.2.2.2.2.2.2.2.2.2.2.2.2.2.2.2.2.2.2.2.2.2.1 hg9 dX11_speaks_39 ?_
    refine hz_iconst (v := (3 : Int32)) hO dX11_speaks_40 (by decide) ?_
    refine hz_icmp_ge (tgt := 51) hO dX11_speaks_41 (by decide) (fun hc10 => ?_) (fun hc10 => ?_)
    · rw [if_pos hc10] at h
      refine hz_aload_n hO dX11_speaks_51 rfl 0 rfl ?_
      refine hz_iload_n hO dX11_speaks_52 rfl 1 rfl ?_
      obtain ⟨r11, M12, hq13, h⟩ := hz_ct_e h
      refine hz_callVi (as := [.int a1]) (rest := []) hO (c_X11_goes l w hN hB a1 hq13) hz_cal_X11_goes hz_K_11 hB.1 hB.2.1 tw_6_69 (Nat.le_of_ble_eq_true rfl) rfl rfl (Nat.le_of_ble_eq_true rfl) dX11_speaks_53 ?_
      refine hz_istore_n (ls1 := [(2, .int r11), (0, .ref (hz_ad w b)), (1, .int a1)]) hO dX11_speaks_56 rfl (Nat.le_of_ble_eq_true rfl) rfl ?_
      refine hz_aload_n hO dX11_speaks_57 rfl 1 rfl ?_
      refine hz_getR (k := 21) hO (b + 10) hz_K_11 hB.1 hB.2.1 rfl (Nat.le_of_ble_eq_true rfl) tw_3_219 rfl dX11_speaks_58 ?_
      refine hz_iload_n hO dX11_speaks_61 rfl 2 rfl ?_
      refine hz_iconst (v := (0 : Int32)) hO dX11_speaks_62 (by decide) ?_
      obtain ⟨hg14, h⟩ := hz_gd_e h
      obtain ⟨M15, h_M15, h⟩ := hz_lm_e h
      refine hz_iast hO hB.2.2.2.2.2.2.2.2.2.2.2.2.2.2.2.2.2.2.2.2.1 hB.2.2.2.2.2.2.2.2.2.2.2.2.2.2.2.2.2.2.2.2.2.1 hg14 dX11_speaks_63 ?_
      refine hz_nameM h_M15 ?_
      refine hz_aload_n hO dX11_speaks_64 rfl 1 rfl ?_
      refine hz_getR (k := 22) hO (b + 11) hz_K_11 hB.1 hB.2.1 rfl (Nat.le_of_ble_eq_true rfl) tw_3_221 rfl dX11_speaks_65 ?_
      refine hz_iload_n hO dX11_speaks_68 rfl 2 rfl ?_
      refine hz_aload_n hO dX11_speaks_69 rfl 1 rfl ?_
      refine hz_getI (k := 8) hO hz_K_11 hB.1 hB.2.1 rfl (Nat.le_of_ble_eq_true rfl) tw_3_194 rfl dX11_speaks_70 ?_
      refine hz_sipush (v := (600 : Int32)) hO dX11_speaks_73 (by decide) ?_
      refine hz_idiv hO dX11_speaks_76 (by decide) ?_
      obtain ⟨hg16, h⟩ := hz_gd_e h
      obtain ⟨M17, h_M17, h⟩ := hz_lm_e h
      refine hz_iast hO hB.2.2.2.2.2.2.2.2.2.2.2.2.2.2.2.2.2.2.2.2.2.2.1 hB.2.2.2.2.2.2.2.2.2.2.2.2.2.2.2.2.2.2.2.2.2.2.2 hg16 dX11_speaks_77 ?_
      refine hz_nameM h_M17 ?_
      refine hz_aload_n hO dX11_speaks_78 rfl 1 rfl ?_
      refine hz_getR (k := 16) hO (b + 5) hz_K_11 hB.1 hB.2.1 rfl (Nat.le_of_ble_eq_true rfl) tw_3_209 rfl dX11_speaks_79 ?_
      refine hz_iconst (v := (2 : Int32)) hO dX11_speaks_82 (by decide) ?_
      refine hz_dup2 hO dX11_speaks_83 rfl rfl ?_
      refine hz_iald hO hB.2.2.2.2.2.2.2.2.2.2.1 hB.2.2.2.2.2.2.2.2.2.2.2.1 (by decide) dX11_speaks_84 ?_
      refine hz_iconst (v := (1 : Int32)) hO dX11_speaks_85 (by decide) ?_
      refine hz_iadd hO dX11_speaks_86 ?_
      obtain ⟨M18, h_M18, h⟩ := hz_lm_e h
      refine hz_iast hO hB.2.2.2.2.2.2.2.2.2.2.1 hB.2.2.2.2.2.2.2.2.2.2.2.1 (by decide) dX11_speaks_87 ?_
      refine hz_nameM h_M18 ?_
      refine hz_iconst (v := (3 : Int32)) hO dX11_speaks_88 (by decide) ?_
      exact hz_nameM (hz_some_e h).2.symm (hz_name (hz_some_e h).1.symm (hz_iret hO dX11_speaks_89))
    · rw [if_neg hc10] at h
      refine hz_aload_n hO dX11_speaks_44 rfl 0 rfl ?_
      refine hz_getR (k := 21) hO (b + 10) hz_K_11 hB.1 hB.2.1 rfl (Nat.le_of_ble_eq_true rfl) tw_3_219 rfl dX11_speaks_45 ?_
      refine hz_iload_n hO dX11_speaks_48 rfl 1 rfl ?_
      obtain ⟨hg19, h⟩ := hz_gd_e h
      refine hz_iald hO hB.2.2.2.2.2.2.2.2.2.2.2.2.2.2.2.2.2.2.2.2.1 hB.2.2.2.2.2.2.2.2.2.2.2.2.2.2.2.2.2.2.2.2.2.1 hg19 dX11_speaks_49 ?_
      exact hz_nameM (hz_some_e h).2.symm (hz_name (hz_some_e h).1.symm (hz_iret hO dX11_speaks_50))
  · rw [if_pos hc4] at h
    refine hz_aload_n hO dX11_speaks_7 rfl 0 rfl ?_
    refine hz_getR (k := 21) hO (b + 10) hz_K_11 hB.1 hB.2.1 rfl (Nat.le_of_ble_eq_true rfl) tw_3_219 rfl dX11_speaks_8 ?_
    refine hz_iload_n hO dX11_speaks_11 rfl 1 rfl ?_
    obtain ⟨hg20, h⟩ := hz_gd_e h
    refine hz_iald hO hB.2.2.2.2.2.2.2.2.2.2.2.2.2.2.2.2.2.2.2.2.1 hB.2.2.2.2.2.2.2.2.2.2.2.2.2.2.2.2.2.2.2.2.2.1 hg20 dX11_speaks_12 ?_
    exact hz_nameM (hz_some_e h).2.symm (hz_name (hz_some_e h).1.symm (hz_iret hO dX11_speaks_13))
def f_X11_washes_L25 (b : Nat) (kk40 : Int32 → Int32 → Int32 → hz_M → hz_O) : Nat → Int32 → Int32 → Int32 → hz_M → hz_O
  | 0, _, _, _, _ => none
  | n + 1, v1_28, v2_29, v3_30, M31 =>
    hz_gd (hz_in v3_30 16) <|
    if (M31 (b + 2) (Int32.toNatClampNeg v3_30)) < 0 then
      kk40 v1_28 v2_29 v3_30 M31
    else
      hz_lt (v3_30 + (1 : Int32)) fun x34 =>
      f_X11_washes_L25 b kk40 n v1_28 v2_29 x34 M31
def f_X11_washes_L4 (b : Nat) (kk63 : Int32 → hz_M → hz_O) : Nat → Int32 → Int32 → hz_M → hz_O
  | 0, _, _, _ => none
  | n + 1, v1_5, v2_6, M7 =>
    if (M7 b 2) ≤ v2_6 then
      kk63 v1_5 M7
    else
      hz_ct (f_X11_isBasket b v2_6 M7) fun r9 M10 =>
      hz_jn (fun (v1_12 : Int32) (v2_13 : Int32) (M14 : hz_M) =>
        hz_lt (v2_13 + (1 : Int32)) fun x15 =>
        f_X11_washes_L4 b kk63 n v1_12 x15 M14
        ) fun k16 =>
      if r9 = 0 then
        k16 v1_5 v2_6 M10
      else
        hz_jn (fun (v1_18 : Int32) (v2_19 : Int32) (v3_20 : Int32) (M21 : hz_M) =>
          hz_gd (hz_in v3_20 16) <|
          hz_lm (hz_set M21 (b + 2) (Int32.toNatClampNeg v3_20) v2_19) fun M23 =>
          hz_gd (hz_in v2_19 16) <|
          hz_lm (hz_set M23 (b + 4) (Int32.toNatClampNeg v2_19) (0 : Int32)) fun M25 =>
          hz_lt (v1_18 + (1 : Int32)) fun x26 =>
          k16 x26 v2_19 M25
          ) fun k27 =>
        f_X11_washes_L25 b k27 hz_FU v1_5 v2_6 (0 : Int32) M10
def f_X11_washes (b : Nat) (M : hz_M) : hz_O :=
  hz_jn (fun (v1_1 : Int32) (M2 : hz_M) =>
    hz_lm (hz_set M2 (b + 5) (Int32.toNatClampNeg (5 : Int32)) ((M2 (b + 5) (Int32.toNatClampNeg (5 : Int32))) + v1_1)) fun M3 =>
    some (v1_1, M3)
    ) fun k4 =>
  f_X11_washes_L4 b k4 hz_FU (0 : Int32) (0 : Int32) M
set_option maxRecDepth 100000 in
set_option maxHeartbeats 4000000 in
theorem g_X11_washes_L25 {p : Program} {l : Launch} {e : Env} {s : State} {m : MethodId} {args : Array Value} {below : List Frame} {meth : Method} {c : Code} {w : hz_C} {N : Nat} (hN : 178 ≤ N) {b : Nat} (hB : hz_Own N b) {rE : Int32} {ME : hz_M} (hO : hz_Ok p s m args meth c w cX11_washes 4 RX11 (some .int)) (kk40 : Int32 → Int32 → Int32 → hz_M → hz_O) (gkk40 : ∀ (v1_18 : Int32) (v2_19 : Int32) (v3_20 : Int32) (M : hz_M), kk40 v1_18 v2_19 v3_20 M = some (rE, ME) → hz_G p l e 2 hz_z0 s m args below meth c w N 4 (MQ below (hz_Qi w N rE ME) args s 0 0 (hz_A w)) M 40 [(0, .ref (hz_ad w b)), (1, .int v1_18), (2, .int v2_19), (3, .int v3_20)] []) : ∀ (n : Nat) (v1_28 : Int32) (v2_29 : Int32) (v3_30 : Int32) (M31 : hz_M), f_X11_washes_L25 b kk40 n v1_28 v2_29 v3_30 M31 = some (rE, ME) → hz_G p l e 2 hz_z0 s m args below meth c w N 4 (MQ below (hz_Qi w N rE ME) args s 0 0 (hz_A w)) M31 25 [(0, .ref (hz_ad w b)), (1, .int v1_28), (2, .int v2_29), (3, .int v3_30)] [] := by
  intro n
  induction n with
  | zero =>
    intro v1_28 v2_29 v3_30 M31 h
    rw [f_X11_washes_L25] at h
    cases h
  | succ n ih =>
    intro v1_28 v2_29 v3_30 M31 h
    rw [f_X11_washes_L25] at h
    refine hz_aload_n hO dX11_washes_25 rfl 0 rfl ?_
    refine hz_getR (k := 13) hO (b + 2) hz_K_11 hB.1 hB.2.1 rfl (Nat.le_of_ble_eq_true rfl) tw_3_203 rfl dX11_washes_26 ?_
    refine hz_iload_n hO dX11_washes_29 rfl 3 rfl ?_
    obtain ⟨hg32, h⟩ := hz_gd_e h
    refine hz_iald hO hB.2.2.2.2.1 hB.2.2.2.2.2.1 hg32 dX11_washes_30 ?_
    refine hz_if_lt (tgt := 40) hO dX11_washes_31 (by decide) (fun hc33 => ?_) (fun hc33 => ?_)
    · rw [if_pos hc33] at h
      exact hz_ls [0, 1, 2, 3] rfl (gkk40 v1_28 v2_29 v3_30 M31 h)
    · rw [if_neg hc33] at h
      obtain ⟨x34, h_x34, h⟩ := hz_lt_e h
      refine hz_iinc (k := 3) (v := x34) (ls1 := [(3, .int x34), (0, .ref (hz_ad w b)), (1, .int v1_28), (2, .int v2_29)]) hO dX11_washes_34 rfl (by rw [h_x34]; rfl) (Nat.le_of_ble_eq_true rfl) rfl ?_
      refine hz_goto (tgt := 25) hO dX11_washes_37 (by decide) ?_
      exact hz_ls [1, 2, 3, 0] rfl (ih v1_28 v2_29 x34 M31 h)
set_option maxRecDepth 100000 in
set_option maxHeartbeats 4000000 in
theorem g_X11_washes_L4 {p : Program} {l : Launch} {e : Env} {s : State} {m : MethodId} {args : Array Value} {below : List Frame} {meth : Method} {c : Code} {w : hz_C} {N : Nat} (hN : 178 ≤ N) {b : Nat} (hB : hz_Own N b) {rE : Int32} {ME : hz_M} (hO : hz_Ok p s m args meth c w cX11_washes 4 RX11 (some .int)) (kk63 : Int32 → hz_M → hz_O) (gkk63 : ∀ (v1_1 : Int32) (M : hz_M), kk63 v1_1 M = some (rE, ME) → hz_G p l e 2 hz_z0 s m args below meth c w N 4 (MQ below (hz_Qi w N rE ME) args s 0 0 (hz_A w)) M 63 [(0, .ref (hz_ad w b)), (1, .int v1_1)] []) : ∀ (n : Nat) (v1_5 : Int32) (v2_6 : Int32) (M7 : hz_M), f_X11_washes_L4 b kk63 n v1_5 v2_6 M7 = some (rE, ME) → hz_G p l e 2 hz_z0 s m args below meth c w N 4 (MQ below (hz_Qi w N rE ME) args s 0 0 (hz_A w)) M7 4 [(0, .ref (hz_ad w b)), (1, .int v1_5), (2, .int v2_6)] [] := by
  intro n
  induction n with
  | zero =>
    intro v1_5 v2_6 M7 h
    rw [f_X11_washes_L4] at h
    cases h
  | succ n ih =>
    intro v1_5 v2_6 M7 h
    rw [f_X11_washes_L4] at h
    refine hz_iload_n hO dX11_washes_4 rfl 2 rfl ?_
    refine hz_aload_n hO dX11_washes_5 rfl 0 rfl ?_
    refine hz_getI (k := 2) hO hz_K_11 hB.1 hB.2.1 rfl (Nat.le_of_ble_eq_true rfl) tw_3_182 rfl dX11_washes_6 ?_
    refine hz_icmp_ge (tgt := 63) hO dX11_washes_9 (by decide) (fun hc8 => ?_) (fun hc8 => ?_)
    · rw [if_pos hc8] at h
      exact hz_ls [0, 1] rfl (gkk63 v1_5 M7 h)
    · rw [if_neg hc8] at h
      refine hz_aload_n hO dX11_washes_12 rfl 0 rfl ?_
      refine hz_iload_n hO dX11_washes_13 rfl 2 rfl ?_
      obtain ⟨r9, M10, hq11, h⟩ := hz_ct_e h
      refine hz_callVi (as := [.int v2_6]) (rest := []) hO (c_X11_isBasket l w hN hB v2_6 hq11) hz_cal_X11_isBasket hz_K_11 hB.1 hB.2.1 tw_6_80 (Nat.le_of_ble_eq_true rfl) rfl rfl (Nat.le_of_ble_eq_true rfl) dX11_washes_14 ?_
      obtain ⟨k16, hk16, h⟩ := hz_jn_e h
      have gk16 : ∀ (v1_12 : Int32) (v2_13 : Int32) (M14 : hz_M), k16 v1_12 v2_13 M14 = some (rE, ME) → hz_G p l e 2 hz_z0 s m args below meth c w N 4 (MQ below (hz_Qi w N rE ME) args s 0 0 (hz_A w)) M14 57 [(0, .ref (hz_ad w b)), (1, .int v1_12), (2, .int v2_13)] [] := by
        intro v1_12 v2_13 M14 h
        rw [hk16] at h
        dsimp only at h
        obtain ⟨x15, h_x15, h⟩ := hz_lt_e h
        refine hz_iinc (k := 2) (v := x15) (ls1 := [(2, .int x15), (0, .ref (hz_ad w b)), (1, .int v1_12)]) hO dX11_washes_57 rfl (by rw [h_x15]; rfl) (Nat.le_of_ble_eq_true rfl) rfl ?_
        refine hz_goto (tgt := 4) hO dX11_washes_60 (by decide) ?_
        exact hz_ls [1, 2, 0] rfl (ih v1_12 x15 M14 h)
      clear hk16
      refine hz_if_ne (tgt := 23) hO dX11_washes_17 (by decide) (fun hc17 => ?_) (fun hc17 => ?_)
      · rw [if_neg hc17] at h
        refine hz_iconst (v := (0 : Int32)) hO dX11_washes_23 (by decide) ?_
        refine hz_istore_n (ls1 := [(3, .int (0 : Int32)), (0, .ref (hz_ad w b)), (1, .int v1_5), (2, .int v2_6)]) hO dX11_washes_24 rfl (Nat.le_of_ble_eq_true rfl) rfl ?_
        obtain ⟨k27, hk27, h⟩ := hz_jn_e h
        have gk27 : ∀ (v1_18 : Int32) (v2_19 : Int32) (v3_20 : Int32) (M21 : hz_M), k27 v1_18 v2_19 v3_20 M21 = some (rE, ME) → hz_G p l e 2 hz_z0 s m args below meth c w N 4 (MQ below (hz_Qi w N rE ME) args s 0 0 (hz_A w)) M21 40 [(0, .ref (hz_ad w b)), (1, .int v1_18), (2, .int v2_19), (3, .int v3_20)] [] := by
          intro v1_18 v2_19 v3_20 M21 h
          rw [hk27] at h
          dsimp only at h
          refine hz_aload_n hO dX11_washes_40 rfl 0 rfl ?_
          refine hz_getR (k := 13) hO (b + 2) hz_K_11 hB.1 hB.2.1 rfl (Nat.le_of_ble_eq_true rfl) tw_3_203 rfl dX11_washes_41 ?_
          refine hz_iload_n hO dX11_washes_44 rfl 3 rfl ?_
          refine hz_iload_n hO dX11_washes_45 rfl 2 rfl ?_
          obtain ⟨hg22, h⟩ := hz_gd_e h
          obtain ⟨M23, h_M23, h⟩ := hz_lm_e h
          refine hz_iast hO hB.2.2.2.2.1 hB.2.2.2.2.2.1 hg22 dX11_washes_46 ?_
          refine hz_nameM h_M23 ?_
          refine hz_aload_n hO dX11_washes_47 rfl 0 rfl ?_
          refine hz_getR (k := 15) hO (b + 4) hz_K_11 hB.1 hB.2.1 rfl (Nat.le_of_ble_eq_true rfl) tw_3_207 rfl dX11_washes_48 ?_
          refine hz_iload_n hO dX11_washes_51 rfl 2 rfl ?_
          refine hz_iconst (v := (0 : Int32)) hO dX11_washes_52 (by decide) ?_
          obtain ⟨hg24, h⟩ := hz_gd_e h
          obtain ⟨M25, h_M25, h⟩ := hz_lm_e h
          refine hz_iast hO hB.2.2.2.2.2.2.2.2.1 hB.2.2.2.2.2.2.2.2.2.1 hg24 dX11_washes_53 ?_
          refine hz_nameM h_M25 ?_
          obtain ⟨x26, h_x26, h⟩ := hz_lt_e h
          refine hz_iinc (k := 1) (v := x26) (ls1 := [(1, .int x26), (0, .ref (hz_ad w b)), (2, .int v2_19), (3, .int v3_20)]) hO dX11_washes_54 rfl (by rw [h_x26]; rfl) (Nat.le_of_ble_eq_true rfl) rfl ?_
          exact hz_ls [1, 0, 2] rfl (gk16 x26 v2_19 M25 h)
        clear hk27
        exact hz_ls [1, 2, 3, 0] rfl (g_X11_washes_L25 hN hB hO _ gk27 _ v1_5 v2_6 (0 : Int32) M10 h)
      · rw [if_pos hc17] at h
        refine hz_goto (tgt := 57) hO dX11_washes_20 (by decide) ?_
        exact hz_ls [0, 1, 2] rfl (gk16 v1_5 v2_6 M10 h)
set_option maxRecDepth 100000 in
set_option maxHeartbeats 4000000 in
theorem c_X11_washes (l : Launch) (w : hz_C) {N : Nat} (hN : 178 ≤ N) {b : Nat} (hB : hz_Own N b) {M : hz_M} {rE : Int32} {ME : hz_M} (h : f_X11_washes b M = some (rE, ME)) : hz_Ct l yX11_washes cX11_washes 4 (some .int) 2 w N [.ref (hz_ad w b)] M (hz_Qi w N rE ME) := by
  refine hz_ofW (by decide) rfl (Nat.le_of_ble_eq_true rfl) tw_6_79 ?_
  intro p e s m args below meth c hO
  show hz_G p l e 2 hz_z0 s m args below meth c w N 4 _ M 0 [(0, .ref (hz_ad w b))] []
  unfold f_X11_washes at h
  refine hz_iconst (v := (0 : Int32)) hO dX11_washes_0 (by decide) ?_
  refine hz_istore_n (ls1 := [(1, .int (0 : Int32)), (0, .ref (hz_ad w b))]) hO dX11_washes_1 rfl (Nat.le_of_ble_eq_true rfl) rfl ?_
  refine hz_iconst (v := (0 : Int32)) hO dX11_washes_2 (by decide) ?_
  refine hz_istore_n (ls1 := [(2, .int (0 : Int32)), (1, .int (0 : Int32)), (0, .ref (hz_ad w b))]) hO dX11_washes_3 rfl (Nat.le_of_ble_eq_true rfl) rfl ?_
  obtain ⟨k4, hk4, h⟩ := hz_jn_e h
  have gk4 : ∀ (v1_1 : Int32) (M2 : hz_M), k4 v1_1 M2 = some (rE, ME) → hz_G p l e 2 hz_z0 s m args below meth c w N 4 (MQ below (hz_Qi w N rE ME) args s 0 0 (hz_A w)) M2 63 [(0, .ref (hz_ad w b)), (1, .int v1_1)] [] := by
    intro v1_1 M2 h
    rw [hk4] at h
    dsimp only at h
    refine hz_aload_n hO dX11_washes_63 rfl 0 rfl ?_
    refine hz_getR (k := 16) hO (b + 5) hz_K_11 hB.1 hB.2.1 rfl (Nat.le_of_ble_eq_true rfl) tw_3_209 rfl dX11_washes_64 ?_
    refine hz_iconst (v := (5 : Int32)) hO dX11_washes_67 (by decide) ?_
    refine hz_dup2 hO dX11_washes_68 rfl rfl ?_
    refine hz_iald hO hB.2.2.2.2.2.2.2.2.2.2.1 hB.2.2.2.2.2.2.2.2.2.2.2.1 (by decide) dX11_washes_69 ?_
    refine hz_iload_n hO dX11_washes_70 rfl 1 rfl ?_
    refine hz_iadd hO dX11_washes_71 ?_
    obtain ⟨M3, h_M3, h⟩ := hz_lm_e h
    refine hz_iast hO hB.2.2.2.2.2.2.2.2.2.2.1 hB.2.2.2.2.2.2.2.2.2.2.2.1 (by decide) dX11_washes_72 ?_
    refine hz_nameM h_M3 ?_
    refine hz_iload_n hO dX11_washes_73 rfl 1 rfl ?_
    exact hz_nameM (hz_some_e h).2.symm (hz_name (hz_some_e h).1.symm (hz_iret hO dX11_washes_74))
  clear hk4
  exact hz_ls [2, 1, 0] rfl (g_X11_washes_L4 hN hB hO _ gk4 _ (0 : Int32) (0 : Int32) M h)
def f_L_cell (xs : Nat → Int32) (L : Nat) (a1 : Int32) (M : hz_M) : hz_O :=
  if (nI L) = 0 then
    some ((0 : Int32), M)
  else
    hz_gd (hz_nz (nI L)) <|
    hz_gd (hz_in (a1 - a1 / (nI L) * (nI L)) L) <|
    hz_gd (hz_nz (nI L)) <|
    some (((xs (Int32.toNatClampNeg (a1 - a1 / (nI L) * (nI L)))) ^^^ ((40503 : Int32) * (a1 / (nI L)))), M)
set_option maxRecDepth 100000 in
set_option maxHeartbeats 4000000 in
theorem c_L_cell (l : Launch) (w : hz_C) {N : Nat} (hN : 178 ≤ N) {xs : Nat → Int32} {L : Nat} (hsc : hz_scx w = xs ∧ hz_scl w = L) (a1 : Int32) {M : hz_M} {rE : Int32} {ME : hz_M} (h : f_L_cell xs L a1 M = some (rE, ME)) : hz_Ct l yL_cell cL_cell 2 (some .int) 0 w N [.ref (hz_scb w), .int a1] M (hz_Qi w N rE ME) := by
  refine hz_ofW (by decide) rfl (Nat.le_of_ble_eq_true rfl) tw_4_44 ?_
  intro p e s m args below meth c hO
  show hz_G p l e 0 hz_z0 s m args below meth c w N 2 _ M 0 [(0, .ref (hz_scb w)), (1, .int a1)] []
  unfold f_L_cell at h
  refine hz_aload_n hO dL_cell_0 rfl 0 rfl ?_
  refine hz_tlen (v := nI L) hO (hz_scT hO hsc) rfl dL_cell_1 ?_
  refine hz_if_ne (tgt := 9) hO dL_cell_2 (by decide) (fun hc1 => ?_) (fun hc1 => ?_)
  · rw [if_neg hc1] at h
    refine hz_aload_n hO dL_cell_9 rfl 0 rfl ?_
    refine hz_iload_n hO dL_cell_10 rfl 1 rfl ?_
    refine hz_aload_n hO dL_cell_11 rfl 0 rfl ?_
    refine hz_tlen (v := nI L) hO (hz_scT hO hsc) rfl dL_cell_12 ?_
    obtain ⟨hg2, h⟩ := hz_gd_e h
    refine hz_irem hO dL_cell_13 (hz_nz_e hg2) ?_
    obtain ⟨hg3, h⟩ := hz_gd_e h
    refine hz_ti (v := .int (xs (Int32.toNatClampNeg (a1 - a1 / (nI L) * (nI L))))) hO (hz_scT hO hsc) (hz_in_e hg3) rfl dL_cell_14 ?_
    refine hz_ldcI hO tw_4_45 dL_cell_15 ?_
    refine hz_iload_n hO dL_cell_17 rfl 1 rfl ?_
    refine hz_aload_n hO dL_cell_18 rfl 0 rfl ?_
    refine hz_tlen (v := nI L) hO (hz_scT hO hsc) rfl dL_cell_19 ?_
    obtain ⟨hg4, h⟩ := hz_gd_e h
    refine hz_idiv hO dL_cell_20 (hz_nz_e hg4) ?_
    refine hz_imul hO dL_cell_21 ?_
    refine hz_ixor hO dL_cell_22 ?_
    exact hz_nameM (hz_some_e h).2.symm (hz_name (hz_some_e h).1.symm (hz_iret hO dL_cell_23))
  · rw [if_pos hc1] at h
    refine hz_iconst (v := (0 : Int32)) hO dL_cell_5 (by decide) ?_
    refine hz_goto (tgt := 23) hO dL_cell_6 (by decide) ?_
    exact hz_nameM (hz_some_e h).2.symm (hz_name (hz_some_e h).1.symm (hz_iret hO dL_cell_23))
def f_L_pick (xs : Nat → Int32) (L : Nat) (a1 : Int32) (a2 : Int32) (M : hz_M) : hz_O :=
  hz_ct (f_L_cell xs L a1 M) fun r1 M2 =>
  hz_gd (hz_nz a2) <|
  some (((r1 &&& (65535 : Int32)) - (r1 &&& (65535 : Int32)) / a2 * a2), M2)
set_option maxRecDepth 100000 in
set_option maxHeartbeats 4000000 in
theorem c_L_pick (l : Launch) (w : hz_C) {N : Nat} (hN : 178 ≤ N) {xs : Nat → Int32} {L : Nat} (hsc : hz_scx w = xs ∧ hz_scl w = L) (a1 : Int32) (a2 : Int32) {M : hz_M} {rE : Int32} {ME : hz_M} (h : f_L_pick xs L a1 a2 M = some (rE, ME)) : hz_Ct l yL_pick cL_pick 3 (some .int) 1 w N [.ref (hz_scb w), .int a1, .int a2] M (hz_Qi w N rE ME) := by
  refine hz_ofW (by decide) rfl (Nat.le_of_ble_eq_true rfl) tw_4_41 ?_
  intro p e s m args below meth c hO
  show hz_G p l e 1 hz_z0 s m args below meth c w N 3 _ M 0 [(0, .ref (hz_scb w)), (1, .int a1), (2, .int a2)] []
  unfold f_L_pick at h
  refine hz_aload_n hO dL_pick_0 rfl 0 rfl ?_
  refine hz_iload_n hO dL_pick_1 rfl 1 rfl ?_
  obtain ⟨r1, M2, hq3, h⟩ := hz_ct_e h
  refine hz_callSi (as := [.ref (hz_scb w), .int a1]) (rest := []) hO (c_L_cell l w hN hsc a1 hq3) hz_cal_L_cell tw_4_42 (Nat.le_of_ble_eq_true rfl) rfl rfl (Nat.le_of_ble_eq_true rfl) dL_pick_2 ?_
  refine hz_ldcI hO tw_4_46 dL_pick_5 ?_
  refine hz_iand hO dL_pick_7 ?_
  refine hz_iload_n hO dL_pick_8 rfl 2 rfl ?_
  obtain ⟨hg4, h⟩ := hz_gd_e h
  refine hz_irem hO dL_pick_9 (hz_nz_e hg4) ?_
  exact hz_nameM (hz_some_e h).2.symm (hz_name (hz_some_e h).1.symm (hz_iret hO dL_pick_10))
def f_L_four_L4 (sn : Nat) (sx : Nat → Int32) : Nat → Int32 → Int32 → Int32 → hz_M → hz_O
  | 0, _, _, _, _ => none
  | n + 1, v1_1, v2_2, v3_3, M4 =>
    if (v1_1 + (4 : Int32)) ≤ v3_3 then
      some (v2_2, M4)
    else
      hz_jn (fun (v1_6 : Int32) (v3_7 : Int32) (q8 : Int32) (q9 : Int32) (M10 : hz_M) =>
        hz_lt ((q9 ||| q8)) fun x11 =>
        hz_lt (v3_7 + (1 : Int32)) fun x12 =>
        f_L_four_L4 sn sx n v1_6 x11 x12 M10
        ) fun k13 =>
      if (nI sn) ≤ v3_3 then
        k13 v1_1 v3_3 (0 : Int32) (v2_2 <<< ((8 : Int32) &&& 31)) M4
      else
        hz_gd (hz_in v3_3 sn) <|
        k13 v1_1 v3_3 (hz_cd sx v3_3) (v2_2 <<< ((8 : Int32) &&& 31)) M4
def f_L_four (sn : Nat) (sx : Nat → Int32) (a1 : Int32) (M : hz_M) : hz_O :=
  f_L_four_L4 sn sx hz_FU a1 (0 : Int32) a1 M
set_option maxRecDepth 100000 in
set_option maxHeartbeats 4000000 in
theorem g_L_four_L4 {p : Program} {l : Launch} {e : Env} {s : State} {m : MethodId} {args : Array Value} {below : List Frame} {meth : Method} {c : Code} {w : hz_C} {N : Nat} (hN : 178 ≤ N) {sn : Nat} {sx : Nat → Int32} (hdy : hz_dy w sn sx) {rE : Int32} {ME : hz_M} (hO : hz_Ok p s m args meth c w cL_four 4 RL (some .int)) : ∀ (n : Nat) (v1_1 : Int32) (v2_2 : Int32) (v3_3 : Int32) (M4 : hz_M), f_L_four_L4 sn sx n v1_1 v2_2 v3_3 M4 = some (rE, ME) → hz_G p l e 4 hz_z0 s m args below meth c w N 4 (MQ below (hz_Qi w N rE ME) args s 0 0 (hz_A w)) M4 4 [(0, .ref (hz_sa w 6)), (1, .int v1_1), (2, .int v2_2), (3, .int v3_3)] [] := by
  intro n
  induction n with
  | zero =>
    intro v1_1 v2_2 v3_3 M4 h
    rw [f_L_four_L4] at h
    cases h
  | succ n ih =>
    intro v1_1 v2_2 v3_3 M4 h
    rw [f_L_four_L4] at h
    refine hz_iload_n hO dL_four_4 rfl 3 rfl ?_
    refine hz_iload_n hO dL_four_5 rfl 1 rfl ?_
    refine hz_iconst (v := (4 : Int32)) hO dL_four_6 (by decide) ?_
    refine hz_iadd hO dL_four_7 ?_
    refine hz_icmp_ge (tgt := 40) hO dL_four_8 (by decide) (fun hc5 => ?_) (fun hc5 => ?_)
    · rw [if_pos hc5] at h
      refine hz_iload_n hO dL_four_40 rfl 2 rfl ?_
      exact hz_nameM (hz_some_e h).2.symm (hz_name (hz_some_e h).1.symm (hz_iret hO dL_four_41))
    · rw [if_neg hc5] at h
      refine hz_iload_n hO dL_four_11 rfl 2 rfl ?_
      refine hz_bipush (v := (8 : Int32)) hO dL_four_12 (by decide) ?_
      refine hz_ishl hO dL_four_14 ?_
      refine hz_iload_n hO dL_four_15 rfl 3 rfl ?_
      refine hz_aload_n hO dL_four_16 rfl 0 rfl ?_
      refine hz_callTi (as := []) (rest := [.int v3_3, .int (v2_2 <<< ((8 : Int32) &&& 31))]) hO (c_dyl l w hdy) hz_cal_J0_length_8abf5 (hz_dy6 hdy) tw_7_106 (Nat.le_of_ble_eq_true rfl) rfl rfl (Nat.le_of_ble_eq_true rfl) dL_four_17 ?_
      obtain ⟨k13, hk13, h⟩ := hz_jn_e h
      have gk13 : ∀ (v1_6 : Int32) (v3_7 : Int32) (q8 : Int32) (q9 : Int32) (M10 : hz_M), k13 v1_6 v3_7 q8 q9 M10 = some (rE, ME) → hz_G p l e 4 hz_z0 s m args below meth c w N 4 (MQ below (hz_Qi w N rE ME) args s 0 0 (hz_A w)) M10 32 [(0, .ref (hz_sa w 6)), (1, .int v1_6), (3, .int v3_7)] [.int q8, .int q9] := by
        intro v1_6 v3_7 q8 q9 M10 h
        rw [hk13] at h
        dsimp only at h
        refine hz_ior hO dL_four_32 ?_
        obtain ⟨x11, h_x11, h⟩ := hz_lt_e h
        refine hz_name h_x11 ?_
        refine hz_istore_n (ls1 := [(2, .int x11), (0, .ref (hz_sa w 6)), (1, .int v1_6), (3, .int v3_7)]) hO dL_four_33 rfl (Nat.le_of_ble_eq_true rfl) rfl ?_
        obtain ⟨x12, h_x12, h⟩ := hz_lt_e h
        refine hz_iinc (k := 3) (v := x12) (ls1 := [(3, .int x12), (2, .int x11), (0, .ref (hz_sa w 6)), (1, .int v1_6)]) hO dL_four_34 rfl (by rw [h_x12]; rfl) (Nat.le_of_ble_eq_true rfl) rfl ?_
        refine hz_goto (tgt := 4) hO dL_four_37 (by decide) ?_
        exact hz_ls [2, 3, 1, 0] rfl (ih v1_6 x11 x12 M10 h)
      clear hk13
      refine hz_icmp_ge (tgt := 31) hO dL_four_20 (by decide) (fun hc14 => ?_) (fun hc14 => ?_)
      · rw [if_pos hc14] at h
        refine hz_iconst (v := (0 : Int32)) hO dL_four_31 (by decide) ?_
        exact hz_ls [0, 1, 3] rfl (gk13 v1_1 v3_3 (0 : Int32) (v2_2 <<< ((8 : Int32) &&& 31)) M4 h)
      · rw [if_neg hc14] at h
        refine hz_aload_n hO dL_four_23 rfl 0 rfl ?_
        refine hz_iload_n hO dL_four_24 rfl 3 rfl ?_
        obtain ⟨hg15, h⟩ := hz_gd_e h
        refine hz_callTi (as := [.int v3_3]) (rest := [.int (v2_2 <<< ((8 : Int32) &&& 31))]) hO (c_dyc l w hdy hg15) hz_cal_J0_charAt_5068e (hz_dy6 hdy) tw_7_110 (Nat.le_of_ble_eq_true rfl) rfl rfl (Nat.le_of_ble_eq_true rfl) dL_four_25 ?_
        refine hz_goto (tgt := 32) hO dL_four_28 (by decide) ?_
        exact hz_ls [0, 1, 3] rfl (gk13 v1_1 v3_3 (hz_cd sx v3_3) (v2_2 <<< ((8 : Int32) &&& 31)) M4 h)
set_option maxRecDepth 100000 in
set_option maxHeartbeats 4000000 in
theorem c_L_four (l : Launch) (w : hz_C) {N : Nat} (hN : 178 ≤ N) {sn : Nat} {sx : Nat → Int32} (hdy : hz_dy w sn sx) (a1 : Int32) {M : hz_M} {rE : Int32} {ME : hz_M} (h : f_L_four sn sx a1 M = some (rE, ME)) : hz_Ct l yL_four cL_four 4 (some .int) 4 w N [.ref (hz_sa w 6), .int a1] M (hz_Qi w N rE ME) := by
  refine hz_ofW (by decide) rfl (Nat.le_of_ble_eq_true rfl) tw_7_109 ?_
  intro p e s m args below meth c hO
  show hz_G p l e 4 hz_z0 s m args below meth c w N 4 _ M 0 [(0, .ref (hz_sa w 6)), (1, .int a1)] []
  unfold f_L_four at h
  refine hz_iconst (v := (0 : Int32)) hO dL_four_0 (by decide) ?_
  refine hz_istore_n (ls1 := [(2, .int (0 : Int32)), (0, .ref (hz_sa w 6)), (1, .int a1)]) hO dL_four_1 rfl (Nat.le_of_ble_eq_true rfl) rfl ?_
  refine hz_iload_n hO dL_four_2 rfl 2 rfl ?_
  refine hz_istore_n (ls1 := [(3, .int a1), (2, .int (0 : Int32)), (0, .ref (hz_sa w 6)), (1, .int a1)]) hO dL_four_3 rfl (Nat.le_of_ble_eq_true rfl) rfl ?_
  exact hz_ls [2, 3, 1, 0] rfl (g_L_four_L4 hN hdy hO _ a1 (0 : Int32) a1 M h)
def f_L_feeds_L4 (sn : Nat) (sx : Nat → Int32) (kk59 : Int32 → hz_M → hz_O) : Nat → Int32 → Int32 → hz_M → hz_O
  | 0, _, _, _ => none
  | n + 1, v2_5, v3_6, M7 =>
    if (nI sn) ≤ v3_6 then
      kk59 v2_5 M7
    else
      hz_ct (f_L_four sn sx v3_6 M7) fun r9 M10 =>
      hz_ct (f_L_four sn sx (v3_6 + (4 : Int32)) M10) fun r12 M13 =>
      hz_ct (f_L_four sn sx (v3_6 + (8 : Int32)) M13) fun r15 M16 =>
      hz_ct (f_L_four sn sx (v3_6 + (12 : Int32)) M16) fun r18 M19 =>
      hz_ct (f_L_four sn sx (v3_6 + (16 : Int32)) M19) fun r21 M22 =>
      hz_ct (f_X10_feed r9 r12 r15 r18 r21 M22) fun r24 M25 =>
      hz_lt (v3_6 + (20 : Int32)) fun x27 =>
      f_L_feeds_L4 sn sx kk59 n r24 x27 M25
def f_L_feeds (sn : Nat) (sx : Nat → Int32) (M : hz_M) : hz_O :=
  hz_jn (fun (v2_1 : Int32) (M2 : hz_M) =>
    if v2_1 = (nI sn) then
      some ((1 : Int32), M2)
    else
      some ((0 : Int32), M2)
    ) fun k4 =>
  f_L_feeds_L4 sn sx k4 hz_FU (0 : Int32) (0 : Int32) M
set_option maxRecDepth 100000 in
set_option maxHeartbeats 4000000 in
theorem g_L_feeds_L4 {p : Program} {l : Launch} {e : Env} {s : State} {m : MethodId} {args : Array Value} {below : List Frame} {meth : Method} {c : Code} {w : hz_C} {N : Nat} (hN : 178 ≤ N) {sn : Nat} {sx : Nat → Int32} (hdy : hz_dy w sn sx) {rE : Int32} {ME : hz_M} (hO : hz_Ok p s m args meth c w cL_feeds 4 RL (some .boolean)) (kk59 : Int32 → hz_M → hz_O) (gkk59 : ∀ (v2_1 : Int32) (M : hz_M), kk59 v2_1 M = some (rE, ME) → hz_G p l e 5 hz_z0 s m args below meth c w N 4 (MQ below (hz_Qi w N rE ME) args s 0 0 (hz_A w)) M 59 [(1, .ref (hz_sa w 6)), (2, .int v2_1)] []) : ∀ (n : Nat) (v2_5 : Int32) (v3_6 : Int32) (M7 : hz_M), f_L_feeds_L4 sn sx kk59 n v2_5 v3_6 M7 = some (rE, ME) → hz_G p l e 5 hz_z0 s m args below meth c w N 4 (MQ below (hz_Qi w N rE ME) args s 0 0 (hz_A w)) M7 4 [(0, .ref (hz_ad w 0)), (1, .ref (hz_sa w 6)), (2, .int v2_5), (3, .int v3_6)] [] := by
  intro n
  induction n with
  | zero =>
    intro v2_5 v3_6 M7 h
    rw [f_L_feeds_L4] at h
    cases h
  | succ n ih =>
    intro v2_5 v3_6 M7 h
    rw [f_L_feeds_L4] at h
    refine hz_iload_n hO dL_feeds_4 rfl 3 rfl ?_
    refine hz_aload_n hO dL_feeds_5 rfl 1 rfl ?_
    refine hz_callTi (as := []) (rest := [.int v3_6]) hO (c_dyl l w hdy) hz_cal_J0_length_8abf5 (hz_dy6 hdy) tw_7_106 (Nat.le_of_ble_eq_true rfl) rfl rfl (Nat.le_of_ble_eq_true rfl) dL_feeds_6 ?_
    refine hz_icmp_ge (tgt := 59) hO dL_feeds_9 (by decide) (fun hc8 => ?_) (fun hc8 => ?_)
    · rw [if_pos hc8] at h
      exact hz_ls [1, 2] rfl (gkk59 v2_5 M7 h)
    · rw [if_neg hc8] at h
      refine hz_aload_n hO dL_feeds_12 rfl 0 rfl ?_
      refine hz_aload_n hO dL_feeds_13 rfl 1 rfl ?_
      refine hz_iload_n hO dL_feeds_14 rfl 3 rfl ?_
      obtain ⟨r9, M10, hq11, h⟩ := hz_ct_e h
      refine hz_callSi (as := [.ref (hz_sa w 6), .int v3_6]) (rest := [.ref (hz_ad w 0)]) hO (c_L_four l w hN hdy v3_6 hq11) hz_cal_L_four tw_7_107 (Nat.le_of_ble_eq_true rfl) rfl rfl (Nat.le_of_ble_eq_true rfl) dL_feeds_15 ?_
      refine hz_aload_n hO dL_feeds_18 rfl 1 rfl ?_
      refine hz_iload_n hO dL_feeds_19 rfl 3 rfl ?_
      refine hz_iconst (v := (4 : Int32)) hO dL_feeds_20 (by decide) ?_
      refine hz_iadd hO dL_feeds_21 ?_
      obtain ⟨r12, M13, hq14, h⟩ := hz_ct_e h
      refine hz_callSi (as := [.ref (hz_sa w 6), .int (v3_6 + (4 : Int32))]) (rest := [.int r9, .ref (hz_ad w 0)]) hO (c_L_four l w hN hdy (v3_6 + (4 : Int32)) hq14) hz_cal_L_four tw_7_107 (Nat.le_of_ble_eq_true rfl) rfl rfl (Nat.le_of_ble_eq_true rfl) dL_feeds_22 ?_
      refine hz_aload_n hO dL_feeds_25 rfl 1 rfl ?_
      refine hz_iload_n hO dL_feeds_26 rfl 3 rfl ?_
      refine hz_bipush (v := (8 : Int32)) hO dL_feeds_27 (by decide) ?_
      refine hz_iadd hO dL_feeds_29 ?_
      obtain ⟨r15, M16, hq17, h⟩ := hz_ct_e h
      refine hz_callSi (as := [.ref (hz_sa w 6), .int (v3_6 + (8 : Int32))]) (rest := [.int r12, .int r9, .ref (hz_ad w 0)]) hO (c_L_four l w hN hdy (v3_6 + (8 : Int32)) hq17) hz_cal_L_four tw_7_107 (Nat.le_of_ble_eq_true rfl) rfl rfl (Nat.le_of_ble_eq_true rfl) dL_feeds_30 ?_
      refine hz_aload_n hO dL_feeds_33 rfl 1 rfl ?_
      refine hz_iload_n hO dL_feeds_34 rfl 3 rfl ?_
      refine hz_bipush (v := (12 : Int32)) hO dL_feeds_35 (by decide) ?_
      refine hz_iadd hO dL_feeds_37 ?_
      obtain ⟨r18, M19, hq20, h⟩ := hz_ct_e h
      refine hz_callSi (as := [.ref (hz_sa w 6), .int (v3_6 + (12 : Int32))]) (rest := [.int r15, .int r12, .int r9, .ref (hz_ad w 0)]) hO (c_L_four l w hN hdy (v3_6 + (12 : Int32)) hq20) hz_cal_L_four tw_7_107 (Nat.le_of_ble_eq_true rfl) rfl rfl (Nat.le_of_ble_eq_true rfl) dL_feeds_38 ?_
      refine hz_aload_n hO dL_feeds_41 rfl 1 rfl ?_
      refine hz_iload_n hO dL_feeds_42 rfl 3 rfl ?_
      refine hz_bipush (v := (16 : Int32)) hO dL_feeds_43 (by decide) ?_
      refine hz_iadd hO dL_feeds_45 ?_
      obtain ⟨r21, M22, hq23, h⟩ := hz_ct_e h
      refine hz_callSi (as := [.ref (hz_sa w 6), .int (v3_6 + (16 : Int32))]) (rest := [.int r18, .int r15, .int r12, .int r9, .ref (hz_ad w 0)]) hO (c_L_four l w hN hdy (v3_6 + (16 : Int32)) hq23) hz_cal_L_four tw_7_107 (Nat.le_of_ble_eq_true rfl) rfl rfl (Nat.le_of_ble_eq_true rfl) dL_feeds_46 ?_
      obtain ⟨r24, M25, hq26, h⟩ := hz_ct_e h
      refine hz_callVi (as := [.int r9, .int r12, .int r15, .int r18, .int r21]) (rest := []) hO (c_X10_feed l w hN r9 r12 r15 r18 r21 hq26) hz_cal_X10_feed hz_K_10 hz_sh_0 (hz_lt_0 hN) tw_7_111 (Nat.le_of_ble_eq_true rfl) rfl rfl (Nat.le_of_ble_eq_true rfl) dL_feeds_49 ?_
      refine hz_istore_n (ls1 := [(2, .int r24), (0, .ref (hz_ad w 0)), (1, .ref (hz_sa w 6)), (3, .int v3_6)]) hO dL_feeds_52 rfl (Nat.le_of_ble_eq_true rfl) rfl ?_
      obtain ⟨x27, h_x27, h⟩ := hz_lt_e h
      refine hz_iinc (k := 3) (v := x27) (ls1 := [(3, .int x27), (2, .int r24), (0, .ref (hz_ad w 0)), (1, .ref (hz_sa w 6))]) hO dL_feeds_53 rfl (by rw [h_x27]; rfl) (Nat.le_of_ble_eq_true rfl) rfl ?_
      refine hz_goto (tgt := 4) hO dL_feeds_56 (by decide) ?_
      exact hz_ls [2, 3, 1, 0] rfl (ih r24 x27 M25 h)
set_option maxRecDepth 100000 in
set_option maxHeartbeats 4000000 in
theorem c_L_feeds (l : Launch) (w : hz_C) {N : Nat} (hN : 178 ≤ N) {sn : Nat} {sx : Nat → Int32} (hdy : hz_dy w sn sx) {M : hz_M} {rE : Int32} {ME : hz_M} (h : f_L_feeds sn sx M = some (rE, ME)) : hz_Ct l yL_feeds cL_feeds 4 (some .boolean) 5 w N [.ref (hz_ad w 0), .ref (hz_sa w 6)] M (hz_Qi w N rE ME) := by
  refine hz_ofW (by decide) rfl (Nat.le_of_ble_eq_true rfl) tw_7_105 ?_
  intro p e s m args below meth c hO
  show hz_G p l e 5 hz_z0 s m args below meth c w N 4 _ M 0 [(0, .ref (hz_ad w 0)), (1, .ref (hz_sa w 6))] []
  unfold f_L_feeds at h
  refine hz_iconst (v := (0 : Int32)) hO dL_feeds_0 (by decide) ?_
  refine hz_istore_n (ls1 := [(2, .int (0 : Int32)), (0, .ref (hz_ad w 0)), (1, .ref (hz_sa w 6))]) hO dL_feeds_1 rfl (Nat.le_of_ble_eq_true rfl) rfl ?_
  refine hz_iconst (v := (0 : Int32)) hO dL_feeds_2 (by decide) ?_
  refine hz_istore_n (ls1 := [(3, .int (0 : Int32)), (2, .int (0 : Int32)), (0, .ref (hz_ad w 0)), (1, .ref (hz_sa w 6))]) hO dL_feeds_3 rfl (Nat.le_of_ble_eq_true rfl) rfl ?_
  obtain ⟨k4, hk4, h⟩ := hz_jn_e h
  have gk4 : ∀ (v2_1 : Int32) (M2 : hz_M), k4 v2_1 M2 = some (rE, ME) → hz_G p l e 5 hz_z0 s m args below meth c w N 4 (MQ below (hz_Qi w N rE ME) args s 0 0 (hz_A w)) M2 59 [(1, .ref (hz_sa w 6)), (2, .int v2_1)] [] := by
    intro v2_1 M2 h
    rw [hk4] at h
    dsimp only at h
    refine hz_iload_n hO dL_feeds_59 rfl 1 rfl ?_
    refine hz_aload_n hO dL_feeds_60 rfl 0 rfl ?_
    refine hz_callTi (as := []) (rest := [.int v2_1]) hO (c_dyl l w hdy) hz_cal_J0_length_8abf5 (hz_dy6 hdy) tw_7_106 (Nat.le_of_ble_eq_true rfl) rfl rfl (Nat.le_of_ble_eq_true rfl) dL_feeds_61 ?_
    refine hz_icmp_ne (tgt := 71) hO dL_feeds_64 (by decide) (fun hc3 => ?_) (fun hc3 => ?_)
    · rw [if_neg hc3] at h
      refine hz_iconst (v := (0 : Int32)) hO dL_feeds_71 (by decide) ?_
      exact hz_nameM (hz_some_e h).2.symm (hz_name (hz_some_e h).1.symm (hz_zret hO (by rw [← (hz_some_e h).1]; decide) dL_feeds_72))
    · rw [if_pos hc3] at h
      refine hz_iconst (v := (1 : Int32)) hO dL_feeds_67 (by decide) ?_
      refine hz_goto (tgt := 72) hO dL_feeds_68 (by decide) ?_
      exact hz_nameM (hz_some_e h).2.symm (hz_name (hz_some_e h).1.symm (hz_zret hO (by rw [← (hz_some_e h).1]; decide) dL_feeds_72))
  clear hk4
  exact hz_ls [2, 3, 1, 0] rfl (g_L_feeds_L4 hN hdy hO _ gk4 _ (0 : Int32) (0 : Int32) M h)
def f_L_isGuest_L2 (b : Nat) (kk110 : Int32 → hz_M → hz_O) : Nat → Int32 → Int32 → hz_M → hz_O
  | 0, _, _, _ => none
  | n + 1, v2_72, v3_73, M74 =>
    if ((40 : Int32) + (M74 b 1)) ≤ v3_73 then
      kk110 v2_72 M74
    else
      hz_jn (fun (v2_76 : Int32) (v3_77 : Int32) (q78 : Int32) (M79 : hz_M) =>
        hz_jn (fun (v2_80 : Int32) (v3_81 : Int32) (M82 : hz_M) =>
          hz_lt (v3_81 + (1 : Int32)) fun x83 =>
          f_L_isGuest_L2 b kk110 n v2_80 x83 M82
          ) fun k84 =>
        if q78 = 0 then
          k84 v2_76 v3_77 M79
        else
          hz_ct (f_X10_why v2_76 v3_77 (0 : Int32) M79) fun r86 M87 =>
          hz_ct (f_X11_no b v2_76 v3_77 M87) fun r89 M90 =>
          if r86 = r89 then
            hz_ct (f_X10_why v2_76 v3_77 (1 : Int32) M90) fun r93 M94 =>
            hz_ct (f_X11_cause b v2_76 v3_77 M94) fun r96 M97 =>
            if r93 = r96 then
              k84 v2_76 v3_77 M97
            else
              some ((0 : Int32), M97)
          else
            some ((0 : Int32), M90)
        ) fun k100 =>
      hz_jn (fun (v2_101 : Int32) (v3_102 : Int32) (M103 : hz_M) =>
        k100 v2_101 v3_102 (1 : Int32) M103
        ) fun k104 =>
      if v3_73 < (2 : Int32) then
        k104 v2_72 v3_73 M74
      else
        hz_jn (fun (v2_106 : Int32) (v3_107 : Int32) (M108 : hz_M) =>
          hz_jn (fun (v2_109 : Int32) (v3_110 : Int32) (M111 : hz_M) =>
            if v3_110 ≤ (39 : Int32) then
              k100 v2_109 v3_110 (0 : Int32) M111
            else
              k104 v2_109 v3_110 M111
            ) fun k113 =>
          if v3_107 ≤ (19 : Int32) then
            k113 v2_106 v3_107 M108
          else
            if v3_107 < ((20 : Int32) + (M108 b 1)) then
              k104 v2_106 v3_107 M108
            else
              k113 v2_106 v3_107 M108
          ) fun k116 =>
        if v3_73 ≤ (10 : Int32) then
          k116 v2_72 v3_73 M74
        else
          if v3_73 ≤ ((10 : Int32) + (M74 b 4)) then
            k104 v2_72 v3_73 M74
          else
            k116 v2_72 v3_73 M74
def f_L_isGuest (b : Nat) (a2 : Int32) (M : hz_M) : hz_O :=
  hz_jn (fun (v2_1 : Int32) (M2 : hz_M) =>
    hz_ct (f_X10_guest v2_1 (0 : Int32) M2) fun r3 M4 =>
    hz_gd (hz_in v2_1 16) <|
    hz_jn (fun (v2_7 : Int32) (q8 : Int32) (M9 : hz_M) =>
      if q8 = 0 then
        some ((0 : Int32), M9)
      else
        hz_ct (f_X10_highest v2_7 M9) fun r11 M12 =>
        hz_ct (f_X11_highest b v2_7 M12) fun r14 M15 =>
        if r11 = r14 then
          hz_ct (f_X10_letter v2_7 (1 : Int32) M15) fun r18 M19 =>
          if r18 = ((97 : Int32) + v2_7) then
            some ((1 : Int32), M19)
          else
            some ((0 : Int32), M19)
        else
          some ((0 : Int32), M15)
      ) fun k22 =>
    hz_jn (fun (v2_23 : Int32) (M24 : hz_M) =>
      k22 v2_23 (0 : Int32) M24
      ) fun k25 =>
    if r3 = (M4 (b + 6) (Int32.toNatClampNeg v2_1)) then
      hz_ct (f_X10_guest v2_1 (1 : Int32) M4) fun r27 M28 =>
      hz_gd (hz_in v2_1 16) <|
      if r27 = (M28 (b + 7) (Int32.toNatClampNeg v2_1)) then
        hz_ct (f_X10_guest v2_1 (2 : Int32) M28) fun r32 M33 =>
        hz_ct (f_X11_lockerOf b v2_1 M33) fun r35 M36 =>
        if r32 = r35 then
          hz_ct (f_X10_guest v2_1 (3 : Int32) M36) fun r39 M40 =>
          hz_gd (hz_in v2_1 16) <|
          if r39 = (M40 (b + 8) (Int32.toNatClampNeg v2_1)) then
            hz_ct (f_X10_guest v2_1 (4 : Int32) M40) fun r44 M45 =>
            hz_gd (hz_in v2_1 16) <|
            if r44 = (M45 (b + 9) (Int32.toNatClampNeg v2_1)) then
              hz_ct (f_X10_guest v2_1 (5 : Int32) M45) fun r49 M50 =>
              hz_gd (hz_in v2_1 16) <|
              if r49 = (M50 (b + 10) (Int32.toNatClampNeg v2_1)) then
                hz_ct (f_X10_guest v2_1 (6 : Int32) M50) fun r54 M55 =>
                hz_ct (f_X11_bears b v2_1 M55) fun r57 M58 =>
                if r54 = r57 then
                  hz_ct (f_X10_guest v2_1 (7 : Int32) M58) fun r61 M62 =>
                  hz_gd (hz_in v2_1 16) <|
                  if r61 = (if (((M62 (b + 6) (Int32.toNatClampNeg v2_1)) / (5 : Int32)) + (1 : Int32)) < (M62 b 4) then (((M62 (b + 6) (Int32.toNatClampNeg v2_1)) / (5 : Int32)) + (1 : Int32)) else (M62 b 4)) then
                    hz_ct (f_X10_guest v2_1 (8 : Int32) M62) fun r66 M67 =>
                    hz_gd (hz_in v2_1 16) <|
                    if r66 = (M67 (b + 11) (Int32.toNatClampNeg v2_1)) then
                      k22 v2_1 (1 : Int32) M67
                    else
                      k25 v2_1 M67
                  else
                    k25 v2_1 M62
                else
                  k25 v2_1 M58
              else
                k25 v2_1 M50
            else
              k25 v2_1 M45
          else
            k25 v2_1 M40
        else
          k25 v2_1 M36
      else
        k25 v2_1 M28
    else
      k25 v2_1 M4
    ) fun k71 =>
  f_L_isGuest_L2 b k71 hz_FU a2 (0 : Int32) M
set_option maxRecDepth 100000 in
set_option maxHeartbeats 4000000 in
theorem g_L_isGuest_L2 {p : Program} {l : Launch} {e : Env} {s : State} {m : MethodId} {args : Array Value} {below : List Frame} {meth : Method} {c : Code} {w : hz_C} {N : Nat} (hN : 178 ≤ N) {b : Nat} (hB : hz_Own N b) {rE : Int32} {ME : hz_M} (hO : hz_Ok p s m args meth c w cL_isGuest 5 RL (some .boolean)) (kk110 : Int32 → hz_M → hz_O) (gkk110 : ∀ (v2_1 : Int32) (M : hz_M), kk110 v2_1 M = some (rE, ME) → hz_G p l e 5 hz_z0 s m args below meth c w N 5 (MQ below (hz_Qi w N rE ME) args s 0 0 (hz_A w)) M 110 [(0, .ref (hz_ad w 0)), (1, .ref (hz_ad w b)), (2, .int v2_1)] []) : ∀ (n : Nat) (v2_72 : Int32) (v3_73 : Int32) (M74 : hz_M), f_L_isGuest_L2 b kk110 n v2_72 v3_73 M74 = some (rE, ME) → hz_G p l e 5 hz_z0 s m args below meth c w N 5 (MQ below (hz_Qi w N rE ME) args s 0 0 (hz_A w)) M74 2 [(0, .ref (hz_ad w 0)), (1, .ref (hz_ad w b)), (2, .int v2_72), (3, .int v3_73)] [] := by
  intro n
  induction n with
  | zero =>
    intro v2_72 v3_73 M74 h
    rw [f_L_isGuest_L2] at h
    cases h
  | succ n ih =>
    intro v2_72 v3_73 M74 h
    rw [f_L_isGuest_L2] at h
    refine hz_iload_n hO dL_isGuest_2 rfl 3 rfl ?_
    refine hz_bipush (v := (40 : Int32)) hO dL_isGuest_3 (by decide) ?_
    refine hz_aload_n hO dL_isGuest_5 rfl 1 rfl ?_
    refine hz_getIN (k := 1) hO hz_K_11 hB.1 hB.2.1 rfl (Nat.le_of_ble_eq_true rfl) (List.mem_of_getElem? (i := 0) rfl) rfl dL_isGuest_6 ?_
    refine hz_iadd hO dL_isGuest_9 ?_
    refine hz_icmp_ge (tgt := 110) hO dL_isGuest_10 (by decide) (fun hc75 => ?_) (fun hc75 => ?_)
    · rw [if_pos hc75] at h
      exact hz_ls [0, 1, 2] rfl (gkk110 v2_72 M74 h)
    · rw [if_neg hc75] at h
      refine hz_iload_n hO dL_isGuest_13 rfl 3 rfl ?_
      refine hz_iconst (v := (2 : Int32)) hO dL_isGuest_14 (by decide) ?_
      obtain ⟨k100, hk100, h⟩ := hz_jn_e h
      have gk100 : ∀ (v2_76 : Int32) (v3_77 : Int32) (q78 : Int32) (M79 : hz_M), k100 v2_76 v3_77 q78 M79 = some (rE, ME) → hz_G p l e 5 hz_z0 s m args below meth c w N 5 (MQ below (hz_Qi w N rE ME) args s 0 0 (hz_A w)) M79 63 [(0, .ref (hz_ad w 0)), (1, .ref (hz_ad w b)), (2, .int v2_76), (3, .int v3_77)] [.int q78] := by
        intro v2_76 v3_77 q78 M79 h
        rw [hk100] at h
        dsimp only at h
        refine hz_istore (ls1 := [(4, .int q78), (0, .ref (hz_ad w 0)), (1, .ref (hz_ad w b)), (2, .int v2_76), (3, .int v3_77)]) hO dL_isGuest_63 (Nat.le_of_ble_eq_true rfl) rfl ?_
        refine hz_iload hO dL_isGuest_65 0 rfl ?_
        obtain ⟨k84, hk84, h⟩ := hz_jn_e h
        have gk84 : ∀ (v2_80 : Int32) (v3_81 : Int32) (M82 : hz_M), k84 v2_80 v3_81 M82 = some (rE, ME) → hz_G p l e 5 hz_z0 s m args below meth c w N 5 (MQ below (hz_Qi w N rE ME) args s 0 0 (hz_A w)) M82 104 [(0, .ref (hz_ad w 0)), (1, .ref (hz_ad w b)), (2, .int v2_80), (3, .int v3_81)] [] := by
          intro v2_80 v3_81 M82 h
          rw [hk84] at h
          dsimp only at h
          obtain ⟨x83, h_x83, h⟩ := hz_lt_e h
          refine hz_iinc (k := 3) (v := x83) (ls1 := [(3, .int x83), (0, .ref (hz_ad w 0)), (1, .ref (hz_ad w b)), (2, .int v2_80)]) hO dL_isGuest_104 rfl (by rw [h_x83]; rfl) (Nat.le_of_ble_eq_true rfl) rfl ?_
          refine hz_goto (tgt := 2) hO dL_isGuest_107 (by decide) ?_
          exact hz_ls [1, 2, 3, 0] rfl (ih v2_80 x83 M82 h)
        clear hk84
        refine hz_if_eq (tgt := 104) hO dL_isGuest_67 (by decide) (fun hc85 => ?_) (fun hc85 => ?_)
        · rw [if_pos hc85] at h
          exact hz_ls [1, 2, 3, 4] rfl (gk84 v2_76 v3_77 M79 h)
        · rw [if_neg hc85] at h
          refine hz_aload_n hO dL_isGuest_70 rfl 1 rfl ?_
          refine hz_iload_n hO dL_isGuest_71 rfl 3 rfl ?_
          refine hz_iload_n hO dL_isGuest_72 rfl 4 rfl ?_
          refine hz_iconst (v := (0 : Int32)) hO dL_isGuest_73 (by decide) ?_
          obtain ⟨r86, M87, hq88, h⟩ := hz_ct_e h
          refine hz_callVi (as := [.int v2_76, .int v3_77, .int (0 : Int32)]) (rest := []) hO (c_X10_why l w hN v2_76 v3_77 (0 : Int32) hq88) hz_cal_X10_why hz_K_10 hz_sh_0 (hz_lt_0 hN) tw_4_53 (Nat.le_of_ble_eq_true rfl) rfl rfl (Nat.le_of_ble_eq_true rfl) dL_isGuest_74 ?_
          refine hz_aload_n hO dL_isGuest_77 rfl 2 rfl ?_
          refine hz_iload_n hO dL_isGuest_78 rfl 3 rfl ?_
          refine hz_iload_n hO dL_isGuest_79 rfl 4 rfl ?_
          obtain ⟨r89, M90, hq91, h⟩ := hz_ct_e h
          refine hz_callVi (as := [.int v2_76, .int v3_77]) (rest := [.int r86]) hO (c_X11_no l w hN hB v2_76 v3_77 hq91) hz_cal_X11_no hz_K_11 hB.1 hB.2.1 tw_4_126 (Nat.le_of_ble_eq_true rfl) rfl rfl (Nat.le_of_ble_eq_true rfl) dL_isGuest_80 ?_
          refine hz_icmp_ne (tgt := 102) hO dL_isGuest_83 (by decide) (fun hc92 => ?_) (fun hc92 => ?_)
          · rw [if_neg hc92] at h
            refine hz_iconst (v := (0 : Int32)) hO dL_isGuest_102 (by decide) ?_
            exact hz_nameM (hz_some_e h).2.symm (hz_name (hz_some_e h).1.symm (hz_zret hO (by rw [← (hz_some_e h).1]; decide) dL_isGuest_103))
          · rw [if_pos hc92] at h
            refine hz_aload_n hO dL_isGuest_86 rfl 1 rfl ?_
            refine hz_iload_n hO dL_isGuest_87 rfl 3 rfl ?_
            refine hz_iload_n hO dL_isGuest_88 rfl 4 rfl ?_
            refine hz_iconst (v := (1 : Int32)) hO dL_isGuest_89 (by decide) ?_
            obtain ⟨r93, M94, hq95, h⟩ := hz_ct_e h
            refine hz_callVi (as := [.int v2_76, .int v3_77, .int (1 : Int32)]) (rest := []) hO (c_X10_why l w hN v2_76 v3_77 (1 : Int32) hq95) hz_cal_X10_why hz_K_10 hz_sh_0 (hz_lt_0 hN) tw_4_53 (Nat.le_of_ble_eq_true rfl) rfl rfl (Nat.le_of_ble_eq_true rfl) dL_isGuest_90 ?_
            refine hz_aload_n hO dL_isGuest_93 rfl 2 rfl ?_
            refine hz_iload_n hO dL_isGuest_94 rfl 3 rfl ?_
            refine hz_iload_n hO dL_isGuest_95 rfl 4 rfl ?_
            obtain ⟨r96, M97, hq98, h⟩ := hz_ct_e h
            refine hz_callVi (as := [.int v2_76, .int v3_77]) (rest := [.int r93]) hO (c_X11_cause l w hN hB v2_76 v3_77 hq98) hz_cal_X11_cause hz_K_11 hB.1 hB.2.1 tw_4_142 (Nat.le_of_ble_eq_true rfl) rfl rfl (Nat.le_of_ble_eq_true rfl) dL_isGuest_96 ?_
            refine hz_icmp_eq (tgt := 104) hO dL_isGuest_99 (by decide) (fun hc99 => ?_) (fun hc99 => ?_)
            · rw [if_pos hc99] at h
              exact hz_ls [1, 2, 3, 4] rfl (gk84 v2_76 v3_77 M97 h)
            · rw [if_neg hc99] at h
              refine hz_iconst (v := (0 : Int32)) hO dL_isGuest_102 (by decide) ?_
              exact hz_nameM (hz_some_e h).2.symm (hz_name (hz_some_e h).1.symm (hz_zret hO (by rw [← (hz_some_e h).1]; decide) dL_isGuest_103))
      clear hk100
      obtain ⟨k104, hk104, h⟩ := hz_jn_e h
      have gk104 : ∀ (v2_101 : Int32) (v3_102 : Int32) (M103 : hz_M), k104 v2_101 v3_102 M103 = some (rE, ME) → hz_G p l e 5 hz_z0 s m args below meth c w N 5 (MQ below (hz_Qi w N rE ME) args s 0 0 (hz_A w)) M103 58 [(0, .ref (hz_ad w 0)), (1, .ref (hz_ad w b)), (2, .int v2_101), (3, .int v3_102)] [] := by
        intro v2_101 v3_102 M103 h
        rw [hk104] at h
        dsimp only at h
        refine hz_iconst (v := (1 : Int32)) hO dL_isGuest_58 (by decide) ?_
        refine hz_goto (tgt := 63) hO dL_isGuest_59 (by decide) ?_
        exact hz_ls [0, 1, 2, 3] rfl (gk100 v2_101 v3_102 (1 : Int32) M103 h)
      clear hk104
      refine hz_icmp_lt (tgt := 58) hO dL_isGuest_15 (by decide) (fun hc105 => ?_) (fun hc105 => ?_)
      · rw [if_pos hc105] at h
        exact hz_ls [0, 1, 2, 3] rfl (gk104 v2_72 v3_73 M74 h)
      · rw [if_neg hc105] at h
        refine hz_iload_n hO dL_isGuest_18 rfl 3 rfl ?_
        refine hz_bipush (v := (10 : Int32)) hO dL_isGuest_19 (by decide) ?_
        obtain ⟨k116, hk116, h⟩ := hz_jn_e h
        have gk116 : ∀ (v2_106 : Int32) (v3_107 : Int32) (M108 : hz_M), k116 v2_106 v3_107 M108 = some (rE, ME) → hz_G p l e 5 hz_z0 s m args below meth c w N 5 (MQ below (hz_Qi w N rE ME) args s 0 0 (hz_A w)) M108 35 [(0, .ref (hz_ad w 0)), (1, .ref (hz_ad w b)), (2, .int v2_106), (3, .int v3_107)] [] := by
          intro v2_106 v3_107 M108 h
          rw [hk116] at h
          dsimp only at h
          refine hz_iload_n hO dL_isGuest_35 rfl 3 rfl ?_
          refine hz_bipush (v := (19 : Int32)) hO dL_isGuest_36 (by decide) ?_
          obtain ⟨k113, hk113, h⟩ := hz_jn_e h
          have gk113 : ∀ (v2_109 : Int32) (v3_110 : Int32) (M111 : hz_M), k113 v2_109 v3_110 M111 = some (rE, ME) → hz_G p l e 5 hz_z0 s m args below meth c w N 5 (MQ below (hz_Qi w N rE ME) args s 0 0 (hz_A w)) M111 52 [(0, .ref (hz_ad w 0)), (1, .ref (hz_ad w b)), (2, .int v2_109), (3, .int v3_110)] [] := by
            intro v2_109 v3_110 M111 h
            rw [hk113] at h
            dsimp only at h
            refine hz_iload_n hO dL_isGuest_52 rfl 3 rfl ?_
            refine hz_bipush (v := (39 : Int32)) hO dL_isGuest_53 (by decide) ?_
            refine hz_icmp_le (tgt := 62) hO dL_isGuest_55 (by decide) (fun hc112 => ?_) (fun hc112 => ?_)
            · rw [if_pos hc112] at h
              refine hz_iconst (v := (0 : Int32)) hO dL_isGuest_62 (by decide) ?_
              exact hz_ls [0, 1, 2, 3] rfl (gk100 v2_109 v3_110 (0 : Int32) M111 h)
            · rw [if_neg hc112] at h
              exact hz_ls [0, 1, 2, 3] rfl (gk104 v2_109 v3_110 M111 h)
          clear hk113
          refine hz_icmp_le (tgt := 52) hO dL_isGuest_38 (by decide) (fun hc114 => ?_) (fun hc114 => ?_)
          · rw [if_pos hc114] at h
            exact hz_ls [0, 1, 2, 3] rfl (gk113 v2_106 v3_107 M108 h)
          · rw [if_neg hc114] at h
            refine hz_iload_n hO dL_isGuest_41 rfl 3 rfl ?_
            refine hz_bipush (v := (20 : Int32)) hO dL_isGuest_42 (by decide) ?_
            refine hz_aload_n hO dL_isGuest_44 rfl 1 rfl ?_
            refine hz_getIN (k := 1) hO hz_K_11 hB.1 hB.2.1 rfl (Nat.le_of_ble_eq_true rfl) (List.mem_of_getElem? (i := 0) rfl) rfl dL_isGuest_45 ?_
            refine hz_iadd hO dL_isGuest_48 ?_
            refine hz_icmp_lt (tgt := 58) hO dL_isGuest_49 (by decide) (fun hc115 => ?_) (fun hc115 => ?_)
            · rw [if_pos hc115] at h
              exact hz_ls [0, 1, 2, 3] rfl (gk104 v2_106 v3_107 M108 h)
            · rw [if_neg hc115] at h
              exact hz_ls [0, 1, 2, 3] rfl (gk113 v2_106 v3_107 M108 h)
        clear hk116
        refine hz_icmp_le (tgt := 35) hO dL_isGuest_21 (by decide) (fun hc117 => ?_) (fun hc117 => ?_)
        · rw [if_pos hc117] at h
          exact hz_ls [0, 1, 2, 3] rfl (gk116 v2_72 v3_73 M74 h)
        · rw [if_neg hc117] at h
          refine hz_iload_n hO dL_isGuest_24 rfl 3 rfl ?_
          refine hz_bipush (v := (10 : Int32)) hO dL_isGuest_25 (by decide) ?_
          refine hz_aload_n hO dL_isGuest_27 rfl 1 rfl ?_
          refine hz_getIN (k := 4) hO hz_K_11 hB.1 hB.2.1 rfl (Nat.le_of_ble_eq_true rfl) (List.mem_of_getElem? (i := 1) rfl) rfl dL_isGuest_28 ?_
          refine hz_iadd hO dL_isGuest_31 ?_
          refine hz_icmp_le (tgt := 58) hO dL_isGuest_32 (by decide) (fun hc118 => ?_) (fun hc118 => ?_)
          · rw [if_pos hc118] at h
            exact hz_ls [0, 1, 2, 3] rfl (gk104 v2_72 v3_73 M74 h)
          · rw [if_neg hc118] at h
            exact hz_ls [0, 1, 2, 3] rfl (gk116 v2_72 v3_73 M74 h)
set_option maxRecDepth 100000 in
set_option maxHeartbeats 4000000 in
theorem c_L_isGuest (l : Launch) (w : hz_C) {N : Nat} (hN : 178 ≤ N) {b : Nat} (hB : hz_Own N b) (a2 : Int32) {M : hz_M} {rE : Int32} {ME : hz_M} (h : f_L_isGuest b a2 M = some (rE, ME)) : hz_Ct l yL_isGuest cL_isGuest 5 (some .boolean) 5 w N [.ref (hz_ad w 0), .ref (hz_ad w b), .int a2] M (hz_Qi w N rE ME) := by
  refine hz_ofW (by decide) rfl (Nat.le_of_ble_eq_true rfl) tw_4_52 ?_
  intro p e s m args below meth c hO
  show hz_G p l e 5 hz_z0 s m args below meth c w N 5 _ M 0 [(0, .ref (hz_ad w 0)), (1, .ref (hz_ad w b)), (2, .int a2)] []
  unfold f_L_isGuest at h
  refine hz_iconst (v := (0 : Int32)) hO dL_isGuest_0 (by decide) ?_
  refine hz_istore_n (ls1 := [(3, .int (0 : Int32)), (0, .ref (hz_ad w 0)), (1, .ref (hz_ad w b)), (2, .int a2)]) hO dL_isGuest_1 rfl (Nat.le_of_ble_eq_true rfl) rfl ?_
  obtain ⟨k71, hk71, h⟩ := hz_jn_e h
  have gk71 : ∀ (v2_1 : Int32) (M2 : hz_M), k71 v2_1 M2 = some (rE, ME) → hz_G p l e 5 hz_z0 s m args below meth c w N 5 (MQ below (hz_Qi w N rE ME) args s 0 0 (hz_A w)) M2 110 [(0, .ref (hz_ad w 0)), (1, .ref (hz_ad w b)), (2, .int v2_1)] [] := by
    intro v2_1 M2 h
    rw [hk71] at h
    dsimp only at h
    refine hz_aload_n hO dL_isGuest_110 rfl 0 rfl ?_
    refine hz_iload_n hO dL_isGuest_111 rfl 2 rfl ?_
    refine hz_iconst (v := (0 : Int32)) hO dL_isGuest_112 (by decide) ?_
    obtain ⟨r3, M4, hq5, h⟩ := hz_ct_e h
    refine hz_callVi (as := [.int v2_1, .int (0 : Int32)]) (rest := []) hO (c_X10_guest l w hN v2_1 (0 : Int32) hq5) hz_cal_X10_guest hz_K_10 hz_sh_0 (hz_lt_0 hN) tw_4_147 (Nat.le_of_ble_eq_true rfl) rfl rfl (Nat.le_of_ble_eq_true rfl) dL_isGuest_113 ?_
    refine hz_aload_n hO dL_isGuest_116 rfl 1 rfl ?_
    refine hz_getRN (k := 17) hO (b + 6) hz_K_11 hB.1 hB.2.1 rfl (Nat.le_of_ble_eq_true rfl) (List.mem_of_getElem? (i := 2) rfl) rfl dL_isGuest_117 ?_
    refine hz_iload_n hO dL_isGuest_120 rfl 2 rfl ?_
    obtain ⟨hg6, h⟩ := hz_gd_e h
    refine hz_iald hO hB.2.2.2.2.2.2.2.2.2.2.2.2.1 hB.2.2.2.2.2.2.2.2.2.2.2.2.2.1 hg6 dL_isGuest_121 ?_
    obtain ⟨k22, hk22, h⟩ := hz_jn_e h
    have gk22 : ∀ (v2_7 : Int32) (q8 : Int32) (M9 : hz_M), k22 v2_7 q8 M9 = some (rE, ME) → hz_G p l e 5 hz_z0 s m args below meth c w N 5 (MQ below (hz_Qi w N rE ME) args s 0 0 (hz_A w)) M9 262 [(0, .ref (hz_ad w 0)), (1, .ref (hz_ad w b)), (2, .int v2_7)] [.int q8] := by
      intro v2_7 q8 M9 h
      rw [hk22] at h
      dsimp only at h
      refine hz_istore_n (ls1 := [(3, .int q8), (0, .ref (hz_ad w 0)), (1, .ref (hz_ad w b)), (2, .int v2_7)]) hO dL_isGuest_262 rfl (Nat.le_of_ble_eq_true rfl) rfl ?_
      refine hz_iload_n hO dL_isGuest_263 rfl 0 rfl ?_
      refine hz_if_eq (tgt := 297) hO dL_isGuest_264 (by decide) (fun hc10 => ?_) (fun hc10 => ?_)
      · rw [if_pos hc10] at h
        refine hz_iconst (v := (0 : Int32)) hO dL_isGuest_297 (by decide) ?_
        exact hz_nameM (hz_some_e h).2.symm (hz_name (hz_some_e h).1.symm (hz_zret hO (by rw [← (hz_some_e h).1]; decide) dL_isGuest_298))
      · rw [if_neg hc10] at h
        refine hz_aload_n hO dL_isGuest_267 rfl 1 rfl ?_
        refine hz_iload_n hO dL_isGuest_268 rfl 3 rfl ?_
        obtain ⟨r11, M12, hq13, h⟩ := hz_ct_e h
        refine hz_callVi (as := [.int v2_7]) (rest := []) hO (c_X10_highest l w hN v2_7 hq13) hz_cal_X10_highest hz_K_10 hz_sh_0 (hz_lt_0 hN) tw_4_169 (Nat.le_of_ble_eq_true rfl) rfl rfl (Nat.le_of_ble_eq_true rfl) dL_isGuest_269 ?_
        refine hz_aload_n hO dL_isGuest_272 rfl 2 rfl ?_
        refine hz_iload_n hO dL_isGuest_273 rfl 3 rfl ?_
        obtain ⟨r14, M15, hq16, h⟩ := hz_ct_e h
        refine hz_callVi (as := [.int v2_7]) (rest := [.int r11]) hO (c_X11_highest l w hN hB v2_7 hq16) hz_cal_X11_highest hz_K_11 hB.1 hB.2.1 tw_4_173 (Nat.le_of_ble_eq_true rfl) rfl rfl (Nat.le_of_ble_eq_true rfl) dL_isGuest_274 ?_
        refine hz_icmp_ne (tgt := 297) hO dL_isGuest_277 (by decide) (fun hc17 => ?_) (fun hc17 => ?_)
        · rw [if_neg hc17] at h
          refine hz_iconst (v := (0 : Int32)) hO dL_isGuest_297 (by decide) ?_
          exact hz_nameM (hz_some_e h).2.symm (hz_name (hz_some_e h).1.symm (hz_zret hO (by rw [← (hz_some_e h).1]; decide) dL_isGuest_298))
        · rw [if_pos hc17] at h
          refine hz_aload_n hO dL_isGuest_280 rfl 1 rfl ?_
          refine hz_iload_n hO dL_isGuest_281 rfl 3 rfl ?_
          refine hz_iconst (v := (1 : Int32)) hO dL_isGuest_282 (by decide) ?_
          obtain ⟨r18, M19, hq20, h⟩ := hz_ct_e h
          refine hz_callVi (as := [.int v2_7, .int (1 : Int32)]) (rest := []) hO (c_X10_letter l w hN v2_7 (1 : Int32) hq20) hz_cal_X10_letter hz_K_10 hz_sh_0 (hz_lt_0 hN) tw_4_177 (Nat.le_of_ble_eq_true rfl) rfl rfl (Nat.le_of_ble_eq_true rfl) dL_isGuest_283 ?_
          refine hz_bipush (v := (97 : Int32)) hO dL_isGuest_286 (by decide) ?_
          refine hz_iload_n hO dL_isGuest_288 rfl 3 rfl ?_
          refine hz_iadd hO dL_isGuest_289 ?_
          refine hz_icmp_ne (tgt := 297) hO dL_isGuest_290 (by decide) (fun hc21 => ?_) (fun hc21 => ?_)
          · rw [if_neg hc21] at h
            refine hz_iconst (v := (0 : Int32)) hO dL_isGuest_297 (by decide) ?_
            exact hz_nameM (hz_some_e h).2.symm (hz_name (hz_some_e h).1.symm (hz_zret hO (by rw [← (hz_some_e h).1]; decide) dL_isGuest_298))
          · rw [if_pos hc21] at h
            refine hz_iconst (v := (1 : Int32)) hO dL_isGuest_293 (by decide) ?_
            refine hz_goto (tgt := 298) hO dL_isGuest_294 (by decide) ?_
            exact hz_nameM (hz_some_e h).2.symm (hz_name (hz_some_e h).1.symm (hz_zret hO (by rw [← (hz_some_e h).1]; decide) dL_isGuest_298))
    clear hk22
    obtain ⟨k25, hk25, h⟩ := hz_jn_e h
    have gk25 : ∀ (v2_23 : Int32) (M24 : hz_M), k25 v2_23 M24 = some (rE, ME) → hz_G p l e 5 hz_z0 s m args below meth c w N 5 (MQ below (hz_Qi w N rE ME) args s 0 0 (hz_A w)) M24 261 [(0, .ref (hz_ad w 0)), (1, .ref (hz_ad w b)), (2, .int v2_23)] [] := by
      intro v2_23 M24 h
      rw [hk25] at h
      dsimp only at h
      refine hz_iconst (v := (0 : Int32)) hO dL_isGuest_261 (by decide) ?_
      exact hz_ls [0, 1, 2] rfl (gk22 v2_23 (0 : Int32) M24 h)
    clear hk25
    refine hz_icmp_ne (tgt := 261) hO dL_isGuest_122 (by decide) (fun hc26 => ?_) (fun hc26 => ?_)
    · rw [if_neg hc26] at h
      exact hz_ls [0, 1, 2] rfl (gk25 v2_1 M4 h)
    · rw [if_pos hc26] at h
      refine hz_aload_n hO dL_isGuest_125 rfl 0 rfl ?_
      refine hz_iload_n hO dL_isGuest_126 rfl 2 rfl ?_
      refine hz_iconst (v := (1 : Int32)) hO dL_isGuest_127 (by decide) ?_
      obtain ⟨r27, M28, hq29, h⟩ := hz_ct_e h
      refine hz_callVi (as := [.int v2_1, .int (1 : Int32)]) (rest := []) hO (c_X10_guest l w hN v2_1 (1 : Int32) hq29) hz_cal_X10_guest hz_K_10 hz_sh_0 (hz_lt_0 hN) tw_4_147 (Nat.le_of_ble_eq_true rfl) rfl rfl (Nat.le_of_ble_eq_true rfl) dL_isGuest_128 ?_
      refine hz_aload_n hO dL_isGuest_131 rfl 1 rfl ?_
      refine hz_getRN (k := 18) hO (b + 7) hz_K_11 hB.1 hB.2.1 rfl (Nat.le_of_ble_eq_true rfl) (List.mem_of_getElem? (i := 3) rfl) rfl dL_isGuest_132 ?_
      refine hz_iload_n hO dL_isGuest_135 rfl 2 rfl ?_
      obtain ⟨hg30, h⟩ := hz_gd_e h
      refine hz_iald hO hB.2.2.2.2.2.2.2.2.2.2.2.2.2.2.1 hB.2.2.2.2.2.2.2.2.2.2.2.2.2.2.2.1 hg30 dL_isGuest_136 ?_
      refine hz_icmp_ne (tgt := 261) hO dL_isGuest_137 (by decide) (fun hc31 => ?_) (fun hc31 => ?_)
      · rw [if_neg hc31] at h
        exact hz_ls [0, 1, 2] rfl (gk25 v2_1 M28 h)
      · rw [if_pos hc31] at h
        refine hz_aload_n hO dL_isGuest_140 rfl 0 rfl ?_
        refine hz_iload_n hO dL_isGuest_141 rfl 2 rfl ?_
        refine hz_iconst (v := (2 : Int32)) hO dL_isGuest_142 (by decide) ?_
        obtain ⟨r32, M33, hq34, h⟩ := hz_ct_e h
        refine hz_callVi (as := [.int v2_1, .int (2 : Int32)]) (rest := []) hO (c_X10_guest l w hN v2_1 (2 : Int32) hq34) hz_cal_X10_guest hz_K_10 hz_sh_0 (hz_lt_0 hN) tw_4_147 (Nat.le_of_ble_eq_true rfl) rfl rfl (Nat.le_of_ble_eq_true rfl) dL_isGuest_143 ?_
        refine hz_aload_n hO dL_isGuest_146 rfl 1 rfl ?_
        refine hz_iload_n hO dL_isGuest_147 rfl 2 rfl ?_
        obtain ⟨r35, M36, hq37, h⟩ := hz_ct_e h
        refine hz_callVi (as := [.int v2_1]) (rest := [.int r32]) hO (c_X11_lockerOf l w hN hB v2_1 hq37) hz_cal_X11_lockerOf hz_K_11 hB.1 hB.2.1 tw_4_160 (Nat.le_of_ble_eq_true rfl) rfl rfl (Nat.le_of_ble_eq_true rfl) dL_isGuest_148 ?_
        refine hz_icmp_ne (tgt := 261) hO dL_isGuest_151 (by decide) (fun hc38 => ?_) (fun hc38 => ?_)
        · rw [if_neg hc38] at h
          exact hz_ls [0, 1, 2] rfl (gk25 v2_1 M36 h)
        · rw [if_pos hc38] at h
          refine hz_aload_n hO dL_isGuest_154 rfl 0 rfl ?_
          refine hz_iload_n hO dL_isGuest_155 rfl 2 rfl ?_
          refine hz_iconst (v := (3 : Int32)) hO dL_isGuest_156 (by decide) ?_
          obtain ⟨r39, M40, hq41, h⟩ := hz_ct_e h
          refine hz_callVi (as := [.int v2_1, .int (3 : Int32)]) (rest := []) hO (c_X10_guest l w hN v2_1 (3 : Int32) hq41) hz_cal_X10_guest hz_K_10 hz_sh_0 (hz_lt_0 hN) tw_4_147 (Nat.le_of_ble_eq_true rfl) rfl rfl (Nat.le_of_ble_eq_true rfl) dL_isGuest_157 ?_
          refine hz_aload_n hO dL_isGuest_160 rfl 1 rfl ?_
          refine hz_getRN (k := 19) hO (b + 8) hz_K_11 hB.1 hB.2.1 rfl (Nat.le_of_ble_eq_true rfl) (List.mem_of_getElem? (i := 4) rfl) rfl dL_isGuest_161 ?_
          refine hz_iload_n hO dL_isGuest_164 rfl 2 rfl ?_
          obtain ⟨hg42, h⟩ := hz_gd_e h
          refine hz_iald hO hB.2.2.2.2.2.2.2.2.2.2.2.2.2.2.2.2.1 hB.2.2.2.2.2.2.2.2.2.2.2.2.2.2.2.2.2.1 hg42 dL_isGuest_165 ?_
          refine hz_icmp_ne (tgt := 261) hO dL_isGuest_166 (by decide) (fun hc43 => ?_) (fun hc43 => ?_)
          · rw [if_neg hc43] at h
            exact hz_ls [0, 1, 2] rfl (gk25 v2_1 M40 h)
          · rw [if_pos hc43] at h
            refine hz_aload_n hO dL_isGuest_169 rfl 0 rfl ?_
            refine hz_iload_n hO dL_isGuest_170 rfl 2 rfl ?_
            refine hz_iconst (v := (4 : Int32)) hO dL_isGuest_171 (by decide) ?_
            obtain ⟨r44, M45, hq46, h⟩ := hz_ct_e h
            refine hz_callVi (as := [.int v2_1, .int (4 : Int32)]) (rest := []) hO (c_X10_guest l w hN v2_1 (4 : Int32) hq46) hz_cal_X10_guest hz_K_10 hz_sh_0 (hz_lt_0 hN) tw_4_147 (Nat.le_of_ble_eq_true rfl) rfl rfl (Nat.le_of_ble_eq_true rfl) dL_isGuest_172 ?_
            refine hz_aload_n hO dL_isGuest_175 rfl 1 rfl ?_
            refine hz_getRN (k := 20) hO (b + 9) hz_K_11 hB.1 hB.2.1 rfl (Nat.le_of_ble_eq_true rfl) (List.mem_of_getElem? (i := 5) rfl) rfl dL_isGuest_176 ?_
            refine hz_iload_n hO dL_isGuest_179 rfl 2 rfl ?_
            obtain ⟨hg47, h⟩ := hz_gd_e h
            refine hz_iald hO hB.2.2.2.2.2.2.2.2.2.2.2.2.2.2.2.2.2.2.1 hB.2.2.2.2.2.2.2.2.2.2.2.2.2.2.2.2.2.2.2.1 hg47 dL_isGuest_180 ?_
            refine hz_icmp_ne (tgt := 261) hO dL_isGuest_181 (by decide) (fun hc48 => ?_) (fun hc48 => ?_)
            · rw [if_neg hc48] at h
              exact hz_ls [0, 1, 2] rfl (gk25 v2_1 M45 h)
            · rw [if_pos hc48] at h
              refine hz_aload_n hO dL_isGuest_184 rfl 0 rfl ?_
              refine hz_iload_n hO dL_isGuest_185 rfl 2 rfl ?_
              refine hz_iconst (v := (5 : Int32)) hO dL_isGuest_186 (by decide) ?_
              obtain ⟨r49, M50, hq51, h⟩ := hz_ct_e h
              refine hz_callVi (as := [.int v2_1, .int (5 : Int32)]) (rest := []) hO (c_X10_guest l w hN v2_1 (5 : Int32) hq51) hz_cal_X10_guest hz_K_10 hz_sh_0 (hz_lt_0 hN) tw_4_147 (Nat.le_of_ble_eq_true rfl) rfl rfl (Nat.le_of_ble_eq_true rfl) dL_isGuest_187 ?_
              refine hz_aload_n hO dL_isGuest_190 rfl 1 rfl ?_
              refine hz_getRN (k := 21) hO (b + 10) hz_K_11 hB.1 hB.2.1 rfl (Nat.le_of_ble_eq_true rfl) (List.mem_of_getElem? (i := 6) rfl) rfl dL_isGuest_191 ?_
              refine hz_iload_n hO dL_isGuest_194 rfl 2 rfl ?_
              obtain ⟨hg52, h⟩ := hz_gd_e h
              refine hz_iald hO hB.2.2.2.2.2.2.2.2.2.2.2.2.2.2.2.2.2.2.2.2.1 hB.2.2.2.2.2.2.2.2.2.2.2.2.2.2.2.2.2.2.2.2.2.1 hg52 dL_isGuest_195 ?_
              refine hz_icmp_ne (tgt := 261) hO dL_isGuest_196 (by decide) (fun hc53 => ?_) (fun hc53 => ?_)
              · rw [if_neg hc53] at h
                exact hz_ls [0, 1, 2] rfl (gk25 v2_1 M50 h)
              · rw [if_pos hc53] at h
                refine hz_aload_n hO dL_isGuest_199 rfl 0 rfl ?_
                refine hz_iload_n hO dL_isGuest_200 rfl 2 rfl ?_
                refine hz_bipush (v := (6 : Int32)) hO dL_isGuest_201 (by decide) ?_
                obtain ⟨r54, M55, hq56, h⟩ := hz_ct_e h
                refine hz_callVi (as := [.int v2_1, .int (6 : Int32)]) (rest := []) hO (c_X10_guest l w hN v2_1 (6 : Int32) hq56) hz_cal_X10_guest hz_K_10 hz_sh_0 (hz_lt_0 hN) tw_4_147 (Nat.le_of_ble_eq_true rfl) rfl rfl (Nat.le_of_ble_eq_true rfl) dL_isGuest_203 ?_
                refine hz_aload_n hO dL_isGuest_206 rfl 1 rfl ?_
                refine hz_iload_n hO dL_isGuest_207 rfl 2 rfl ?_
                obtain ⟨r57, M58, hq59, h⟩ := hz_ct_e h
                refine hz_callVi (as := [.int v2_1]) (rest := [.int r54]) hO (c_X11_bears l w hN hB v2_1 hq59) hz_cal_X11_bears hz_K_11 hB.1 hB.2.1 tw_4_164 (Nat.le_of_ble_eq_true rfl) rfl rfl (Nat.le_of_ble_eq_true rfl) dL_isGuest_208 ?_
                refine hz_icmp_ne (tgt := 261) hO dL_isGuest_211 (by decide) (fun hc60 => ?_) (fun hc60 => ?_)
                · rw [if_neg hc60] at h
                  exact hz_ls [0, 1, 2] rfl (gk25 v2_1 M58 h)
                · rw [if_pos hc60] at h
                  refine hz_aload_n hO dL_isGuest_214 rfl 0 rfl ?_
                  refine hz_iload_n hO dL_isGuest_215 rfl 2 rfl ?_
                  refine hz_bipush (v := (7 : Int32)) hO dL_isGuest_216 (by decide) ?_
                  obtain ⟨r61, M62, hq63, h⟩ := hz_ct_e h
                  refine hz_callVi (as := [.int v2_1, .int (7 : Int32)]) (rest := []) hO (c_X10_guest l w hN v2_1 (7 : Int32) hq63) hz_cal_X10_guest hz_K_10 hz_sh_0 (hz_lt_0 hN) tw_4_147 (Nat.le_of_ble_eq_true rfl) rfl rfl (Nat.le_of_ble_eq_true rfl) dL_isGuest_218 ?_
                  refine hz_aload_n hO dL_isGuest_221 rfl 1 rfl ?_
                  refine hz_getIN (k := 4) hO hz_K_11 hB.1 hB.2.1 rfl (Nat.le_of_ble_eq_true rfl) (List.mem_of_getElem? (i := 1) rfl) rfl dL_isGuest_222 ?_
                  refine hz_aload_n hO dL_isGuest_225 rfl 1 rfl ?_
                  refine hz_getRN (k := 17) hO (b + 6) hz_K_11 hB.1 hB.2.1 rfl (Nat.le_of_ble_eq_true rfl) (List.mem_of_getElem? (i := 2) rfl) rfl dL_isGuest_226 ?_
                  refine hz_iload_n hO dL_isGuest_229 rfl 2 rfl ?_
                  obtain ⟨hg64, h⟩ := hz_gd_e h
                  refine hz_iald hO hB.2.2.2.2.2.2.2.2.2.2.2.2.1 hB.2.2.2.2.2.2.2.2.2.2.2.2.2.1 hg64 dL_isGuest_230 ?_
                  refine hz_iconst (v := (5 : Int32)) hO dL_isGuest_231 (by decide) ?_
                  refine hz_idiv hO dL_isGuest_232 (by decide) ?_
                  refine hz_iconst (v := (1 : Int32)) hO dL_isGuest_233 (by decide) ?_
                  refine hz_iadd hO dL_isGuest_234 ?_
                  refine hz_mmin hO tw_4_168 (Nat.le_of_ble_eq_true rfl) (Nat.le_of_ble_eq_true rfl) dL_isGuest_235 ?_
                  refine hz_icmp_ne (tgt := 261) hO dL_isGuest_238 (by decide) (fun hc65 => ?_) (fun hc65 => ?_)
                  · rw [if_neg hc65] at h
                    exact hz_ls [0, 1, 2] rfl (gk25 v2_1 M62 h)
                  · rw [if_pos hc65] at h
                    refine hz_aload_n hO dL_isGuest_241 rfl 0 rfl ?_
                    refine hz_iload_n hO dL_isGuest_242 rfl 2 rfl ?_
                    refine hz_bipush (v := (8 : Int32)) hO dL_isGuest_243 (by decide) ?_
                    obtain ⟨r66, M67, hq68, h⟩ := hz_ct_e h
                    refine hz_callVi (as := [.int v2_1, .int (8 : Int32)]) (rest := []) hO (c_X10_guest l w hN v2_1 (8 : Int32) hq68) hz_cal_X10_guest hz_K_10 hz_sh_0 (hz_lt_0 hN) tw_4_147 (Nat.le_of_ble_eq_true rfl) rfl rfl (Nat.le_of_ble_eq_true rfl) dL_isGuest_245 ?_
                    refine hz_aload_n hO dL_isGuest_248 rfl 1 rfl ?_
                    refine hz_getRN (k := 22) hO (b + 11) hz_K_11 hB.1 hB.2.1 rfl (Nat.le_of_ble_eq_true rfl) (List.mem_of_getElem? (i := 7) rfl) rfl dL_isGuest_249 ?_
                    refine hz_iload_n hO dL_isGuest_252 rfl 2 rfl ?_
                    obtain ⟨hg69, h⟩ := hz_gd_e h
                    refine hz_iald hO hB.2.2.2.2.2.2.2.2.2.2.2.2.2.2.2.2.2.2.2.2.2.2.1 hB.2.2.2.2.2.2.2.2.2.2.2.2.2.2.2.2.2.2.2.2.2.2.2 hg69 dL_isGuest_253 ?_
                    refine hz_icmp_ne (tgt := 261) hO dL_isGuest_254 (by decide) (fun hc70 => ?_) (fun hc70 => ?_)
                    · rw [if_neg hc70] at h
                      exact hz_ls [0, 1, 2] rfl (gk25 v2_1 M67 h)
                    · rw [if_pos hc70] at h
                      refine hz_iconst (v := (1 : Int32)) hO dL_isGuest_257 (by decide) ?_
                      refine hz_goto (tgt := 262) hO dL_isGuest_258 (by decide) ?_
                      exact hz_ls [0, 1, 2] rfl (gk22 v2_1 (1 : Int32) M67 h)
  clear hk71
  exact hz_ls [1, 2, 3, 0] rfl (g_L_isGuest_L2 hN hB hO _ gk71 _ a2 (0 : Int32) M h)
def f_L_isStep_L13 (b : Nat) (kk93 : Int32 → Int32 → Int32 → hz_M → hz_O) : Nat → Int32 → Int32 → Int32 → Int32 → hz_M → hz_O
  | 0, _, _, _, _, _ => none
  | n + 1, v2_30, v3_31, v4_32, v5_33, M34 =>
    if v5_33 < 0 then
      kk93 v2_30 v3_31 v4_32 M34
    else
      hz_gd (hz_in v5_33 16) <|
      hz_jn (fun (v2_37 : Int32) (v3_38 : Int32) (v4_39 : Int32) (v5_40 : Int32) (M41 : hz_M) =>
        hz_lt (v5_40 + (-1 : Int32)) fun x42 =>
        f_L_isStep_L13 b kk93 n v2_37 v3_38 v4_39 x42 M41
        ) fun k43 =>
      if (M34 (b + 7) (Int32.toNatClampNeg v5_33)) = v2_30 then
        hz_jn (fun (v2_45 : Int32) (v4_46 : Int32) (v5_47 : Int32) (q48 : Int32) (M49 : hz_M) =>
          hz_ct (f_X11_bears b v5_47 M49) fun r50 M51 =>
          hz_jn (fun (v2_53 : Int32) (v3_54 : Int32) (v5_55 : Int32) (q56 : Int32) (q57 : Int32) (M58 : hz_M) =>
            hz_lt ((q57 + q56)) fun x59 =>
            k43 v2_53 v3_54 x59 v5_55 M58
            ) fun k60 =>
          if ((M49 b 9) + ((6 : Int32) * v2_45)) ≤ r50 then
            k60 v2_45 q48 v5_47 (0 : Int32) v4_46 M51
          else
            k60 v2_45 q48 v5_47 (1 : Int32) v4_46 M51
          ) fun k62 =>
        hz_jn (fun (v2_63 : Int32) (v4_64 : Int32) (v5_65 : Int32) (M66 : hz_M) =>
          k62 v2_63 v4_64 v5_65 v5_65 M66
          ) fun k67 =>
        if v3_31 < 0 then
          k67 v2_30 v4_32 v5_33 M34
        else
          hz_gd (hz_in v5_33 16) <|
          hz_gd (hz_in v3_31 16) <|
          if (M34 (b + 6) (Int32.toNatClampNeg v5_33)) < (M34 (b + 6) (Int32.toNatClampNeg v3_31)) then
            k62 v2_30 v4_32 v5_33 v3_31 M34
          else
            k67 v2_30 v4_32 v5_33 M34
      else
        k43 v2_30 v3_31 v4_32 v5_33 M34
def f_L_isStep (b : Nat) (a2 : Int32) (M : hz_M) : hz_O :=
  hz_lt (((M b 10) - (1 : Int32))) fun x1 =>
  hz_jn (fun (v2_2 : Int32) (v3_3 : Int32) (v4_4 : Int32) (M5 : hz_M) =>
    hz_ct (f_X10_step v2_2 (0 : Int32) M5) fun r6 M7 =>
    hz_ct (f_X11_on b v2_2 M7) fun r9 M10 =>
    if r6 = r9 then
      hz_ct (f_X10_step v2_2 (1 : Int32) M10) fun r13 M14 =>
      if r13 = ((M14 b 9) + ((6 : Int32) * v2_2)) then
        hz_ct (f_X10_step v2_2 (2 : Int32) M14) fun r17 M18 =>
        if r17 = (((5 : Int32) * v2_2) - (5 : Int32)) then
          hz_ct (f_X10_step v2_2 (3 : Int32) M18) fun r21 M22 =>
          if r21 = v3_3 then
            hz_ct (f_X10_step v2_2 (4 : Int32) M22) fun r25 M26 =>
            if r25 = v4_4 then
              some ((1 : Int32), M26)
            else
              some ((0 : Int32), M26)
          else
            some ((0 : Int32), M22)
        else
          some ((0 : Int32), M18)
      else
        some ((0 : Int32), M14)
    else
      some ((0 : Int32), M10)
    ) fun k29 =>
  f_L_isStep_L13 b k29 hz_FU a2 (-1 : Int32) (0 : Int32) x1 M
set_option maxRecDepth 100000 in
set_option maxHeartbeats 4000000 in
theorem g_L_isStep_L13 {p : Program} {l : Launch} {e : Env} {s : State} {m : MethodId} {args : Array Value} {below : List Frame} {meth : Method} {c : Code} {w : hz_C} {N : Nat} (hN : 178 ≤ N) {b : Nat} (hB : hz_Own N b) {rE : Int32} {ME : hz_M} (hO : hz_Ok p s m args meth c w cL_isStep 6 RL (some .boolean)) (kk93 : Int32 → Int32 → Int32 → hz_M → hz_O) (gkk93 : ∀ (v2_2 : Int32) (v3_3 : Int32) (v4_4 : Int32) (M : hz_M), kk93 v2_2 v3_3 v4_4 M = some (rE, ME) → hz_G p l e 3 hz_z0 s m args below meth c w N 6 (MQ below (hz_Qi w N rE ME) args s 0 0 (hz_A w)) M 93 [(0, .ref (hz_ad w 0)), (1, .ref (hz_ad w b)), (2, .int v2_2), (3, .int v3_3), (4, .int v4_4)] []) : ∀ (n : Nat) (v2_30 : Int32) (v3_31 : Int32) (v4_32 : Int32) (v5_33 : Int32) (M34 : hz_M), f_L_isStep_L13 b kk93 n v2_30 v3_31 v4_32 v5_33 M34 = some (rE, ME) → hz_G p l e 3 hz_z0 s m args below meth c w N 6 (MQ below (hz_Qi w N rE ME) args s 0 0 (hz_A w)) M34 13 [(0, .ref (hz_ad w 0)), (1, .ref (hz_ad w b)), (2, .int v2_30), (3, .int v3_31), (4, .int v4_32), (5, .int v5_33)] [] := by
  intro n
  induction n with
  | zero =>
    intro v2_30 v3_31 v4_32 v5_33 M34 h
    rw [f_L_isStep_L13] at h
    cases h
  | succ n ih =>
    intro v2_30 v3_31 v4_32 v5_33 M34 h
    rw [f_L_isStep_L13] at h
    refine hz_iload hO dL_isStep_13 5 rfl ?_
    refine hz_if_lt (tgt := 93) hO dL_isStep_15 (by decide) (fun hc35 => ?_) (fun hc35 => ?_)
    · rw [if_pos hc35] at h
      exact hz_ls [0, 1, 2, 3, 4] rfl (gkk93 v2_30 v3_31 v4_32 M34 h)
    · rw [if_neg hc35] at h
      refine hz_aload_n hO dL_isStep_18 rfl 1 rfl ?_
      refine hz_getRN (k := 18) hO (b + 7) hz_K_11 hB.1 hB.2.1 rfl (Nat.le_of_ble_eq_true rfl) (List.mem_of_getElem? (i := 3) rfl) rfl dL_isStep_19 ?_
      refine hz_iload hO dL_isStep_22 5 rfl ?_
      obtain ⟨hg36, h⟩ := hz_gd_e h
      refine hz_iald hO hB.2.2.2.2.2.2.2.2.2.2.2.2.2.2.1 hB.2.2.2.2.2.2.2.2.2.2.2.2.2.2.2.1 hg36 dL_isStep_24 ?_
      refine hz_iload_n hO dL_isStep_25 rfl 2 rfl ?_
      obtain ⟨k43, hk43, h⟩ := hz_jn_e h
      have gk43 : ∀ (v2_37 : Int32) (v3_38 : Int32) (v4_39 : Int32) (v5_40 : Int32) (M41 : hz_M), k43 v2_37 v3_38 v4_39 v5_40 M41 = some (rE, ME) → hz_G p l e 3 hz_z0 s m args below meth c w N 6 (MQ below (hz_Qi w N rE ME) args s 0 0 (hz_A w)) M41 87 [(0, .ref (hz_ad w 0)), (1, .ref (hz_ad w b)), (2, .int v2_37), (3, .int v3_38), (4, .int v4_39), (5, .int v5_40)] [] := by
        intro v2_37 v3_38 v4_39 v5_40 M41 h
        rw [hk43] at h
        dsimp only at h
        obtain ⟨x42, h_x42, h⟩ := hz_lt_e h
        refine hz_iinc (k := 5) (v := x42) (ls1 := [(5, .int x42), (0, .ref (hz_ad w 0)), (1, .ref (hz_ad w b)), (2, .int v2_37), (3, .int v3_38), (4, .int v4_39)]) hO dL_isStep_87 rfl (by rw [h_x42]; rfl) (Nat.le_of_ble_eq_true rfl) rfl ?_
        refine hz_goto (tgt := 13) hO dL_isStep_90 (by decide) ?_
        exact hz_ls [1, 2, 3, 4, 5, 0] rfl (ih v2_37 v3_38 v4_39 x42 M41 h)
      clear hk43
      refine hz_icmp_eq (tgt := 32) hO dL_isStep_26 (by decide) (fun hc44 => ?_) (fun hc44 => ?_)
      · rw [if_pos hc44] at h
        refine hz_iload_n hO dL_isStep_32 rfl 3 rfl ?_
        obtain ⟨k62, hk62, h⟩ := hz_jn_e h
        have gk62 : ∀ (v2_45 : Int32) (v4_46 : Int32) (v5_47 : Int32) (q48 : Int32) (M49 : hz_M), k62 v2_45 v4_46 v5_47 q48 M49 = some (rE, ME) → hz_G p l e 3 hz_z0 s m args below meth c w N 6 (MQ below (hz_Qi w N rE ME) args s 0 0 (hz_A w)) M49 58 [(0, .ref (hz_ad w 0)), (1, .ref (hz_ad w b)), (2, .int v2_45), (4, .int v4_46), (5, .int v5_47)] [.int q48] := by
          intro v2_45 v4_46 v5_47 q48 M49 h
          rw [hk62] at h
          dsimp only at h
          refine hz_istore_n (ls1 := [(3, .int q48), (0, .ref (hz_ad w 0)), (1, .ref (hz_ad w b)), (2, .int v2_45), (4, .int v4_46), (5, .int v5_47)]) hO dL_isStep_58 rfl (Nat.le_of_ble_eq_true rfl) rfl ?_
          refine hz_iload hO dL_isStep_59 4 rfl ?_
          refine hz_aload_n hO dL_isStep_61 rfl 2 rfl ?_
          refine hz_getIN (k := 9) hO hz_K_11 hB.1 hB.2.1 rfl (Nat.le_of_ble_eq_true rfl) (List.mem_of_getElem? (i := 9) rfl) rfl dL_isStep_62 ?_
          refine hz_bipush (v := (6 : Int32)) hO dL_isStep_65 (by decide) ?_
          refine hz_iload_n hO dL_isStep_67 rfl 3 rfl ?_
          refine hz_imul hO dL_isStep_68 ?_
          refine hz_iadd hO dL_isStep_69 ?_
          refine hz_aload_n hO dL_isStep_70 rfl 2 rfl ?_
          refine hz_iload hO dL_isStep_71 5 rfl ?_
          obtain ⟨r50, M51, hq52, h⟩ := hz_ct_e h
          refine hz_callVi (as := [.int v5_47]) (rest := [.int ((M49 b 9) + ((6 : Int32) * v2_45)), .int v4_46]) hO (c_X11_bears l w hN hB v5_47 hq52) hz_cal_X11_bears hz_K_11 hB.1 hB.2.1 tw_4_164 (Nat.le_of_ble_eq_true rfl) rfl rfl (Nat.le_of_ble_eq_true rfl) dL_isStep_73 ?_
          obtain ⟨k60, hk60, h⟩ := hz_jn_e h
          have gk60 : ∀ (v2_53 : Int32) (v3_54 : Int32) (v5_55 : Int32) (q56 : Int32) (q57 : Int32) (M58 : hz_M), k60 v2_53 v3_54 v5_55 q56 q57 M58 = some (rE, ME) → hz_G p l e 3 hz_z0 s m args below meth c w N 6 (MQ below (hz_Qi w N rE ME) args s 0 0 (hz_A w)) M58 84 [(0, .ref (hz_ad w 0)), (1, .ref (hz_ad w b)), (2, .int v2_53), (3, .int v3_54), (5, .int v5_55)] [.int q56, .int q57] := by
            intro v2_53 v3_54 v5_55 q56 q57 M58 h
            rw [hk60] at h
            dsimp only at h
            refine hz_iadd hO dL_isStep_84 ?_
            obtain ⟨x59, h_x59, h⟩ := hz_lt_e h
            refine hz_name h_x59 ?_
            refine hz_istore (ls1 := [(4, .int x59), (0, .ref (hz_ad w 0)), (1, .ref (hz_ad w b)), (2, .int v2_53), (3, .int v3_54), (5, .int v5_55)]) hO dL_isStep_85 (Nat.le_of_ble_eq_true rfl) rfl ?_
            exact hz_ls [1, 2, 3, 4, 0, 5] rfl (gk43 v2_53 v3_54 x59 v5_55 M58 h)
          clear hk60
          refine hz_icmp_le (tgt := 83) hO dL_isStep_76 (by decide) (fun hc61 => ?_) (fun hc61 => ?_)
          · rw [if_pos hc61] at h
            refine hz_iconst (v := (0 : Int32)) hO dL_isStep_83 (by decide) ?_
            exact hz_ls [1, 2, 3, 0, 5] rfl (gk60 v2_45 q48 v5_47 (0 : Int32) v4_46 M51 h)
          · rw [if_neg hc61] at h
            refine hz_iconst (v := (1 : Int32)) hO dL_isStep_79 (by decide) ?_
            refine hz_goto (tgt := 84) hO dL_isStep_80 (by decide) ?_
            exact hz_ls [1, 2, 3, 0, 5] rfl (gk60 v2_45 q48 v5_47 (1 : Int32) v4_46 M51 h)
        clear hk62
        obtain ⟨k67, hk67, h⟩ := hz_jn_e h
        have gk67 : ∀ (v2_63 : Int32) (v4_64 : Int32) (v5_65 : Int32) (M66 : hz_M), k67 v2_63 v4_64 v5_65 M66 = some (rE, ME) → hz_G p l e 3 hz_z0 s m args below meth c w N 6 (MQ below (hz_Qi w N rE ME) args s 0 0 (hz_A w)) M66 52 [(0, .ref (hz_ad w 0)), (1, .ref (hz_ad w b)), (2, .int v2_63), (4, .int v4_64), (5, .int v5_65)] [] := by
          intro v2_63 v4_64 v5_65 M66 h
          rw [hk67] at h
          dsimp only at h
          refine hz_iload hO dL_isStep_52 4 rfl ?_
          refine hz_goto (tgt := 58) hO dL_isStep_54 (by decide) ?_
          exact hz_ls [0, 1, 2, 3, 4] rfl (gk62 v2_63 v4_64 v5_65 v5_65 M66 h)
        clear hk67
        refine hz_if_lt (tgt := 52) hO dL_isStep_33 (by decide) (fun hc68 => ?_) (fun hc68 => ?_)
        · rw [if_pos hc68] at h
          exact hz_ls [0, 1, 2, 4, 5] rfl (gk67 v2_30 v4_32 v5_33 M34 h)
        · rw [if_neg hc68] at h
          refine hz_aload_n hO dL_isStep_36 rfl 1 rfl ?_
          refine hz_getRN (k := 17) hO (b + 6) hz_K_11 hB.1 hB.2.1 rfl (Nat.le_of_ble_eq_true rfl) (List.mem_of_getElem? (i := 2) rfl) rfl dL_isStep_37 ?_
          refine hz_iload hO dL_isStep_40 5 rfl ?_
          obtain ⟨hg69, h⟩ := hz_gd_e h
          refine hz_iald hO hB.2.2.2.2.2.2.2.2.2.2.2.2.1 hB.2.2.2.2.2.2.2.2.2.2.2.2.2.1 hg69 dL_isStep_42 ?_
          refine hz_aload_n hO dL_isStep_43 rfl 1 rfl ?_
          refine hz_getRN (k := 17) hO (b + 6) hz_K_11 hB.1 hB.2.1 rfl (Nat.le_of_ble_eq_true rfl) (List.mem_of_getElem? (i := 2) rfl) rfl dL_isStep_44 ?_
          refine hz_iload_n hO dL_isStep_47 rfl 3 rfl ?_
          obtain ⟨hg70, h⟩ := hz_gd_e h
          refine hz_iald hO hB.2.2.2.2.2.2.2.2.2.2.2.2.1 hB.2.2.2.2.2.2.2.2.2.2.2.2.2.1 hg70 dL_isStep_48 ?_
          refine hz_icmp_lt (tgt := 57) hO dL_isStep_49 (by decide) (fun hc71 => ?_) (fun hc71 => ?_)
          · rw [if_pos hc71] at h
            refine hz_iload_n hO dL_isStep_57 rfl 3 rfl ?_
            exact hz_ls [0, 1, 2, 4, 5] rfl (gk62 v2_30 v4_32 v5_33 v3_31 M34 h)
          · rw [if_neg hc71] at h
            exact hz_ls [0, 1, 2, 4, 5] rfl (gk67 v2_30 v4_32 v5_33 M34 h)
      · rw [if_neg hc44] at h
        refine hz_goto (tgt := 87) hO dL_isStep_29 (by decide) ?_
        exact hz_ls [0, 1, 2, 3, 4, 5] rfl (gk43 v2_30 v3_31 v4_32 v5_33 M34 h)
set_option maxRecDepth 100000 in
set_option maxHeartbeats 4000000 in
theorem c_L_isStep (l : Launch) (w : hz_C) {N : Nat} (hN : 178 ≤ N) {b : Nat} (hB : hz_Own N b) (a2 : Int32) {M : hz_M} {rE : Int32} {ME : hz_M} (h : f_L_isStep b a2 M = some (rE, ME)) : hz_Ct l yL_isStep cL_isStep 6 (some .boolean) 3 w N [.ref (hz_ad w 0), .ref (hz_ad w b), .int a2] M (hz_Qi w N rE ME) := by
  refine hz_ofW (by decide) rfl (Nat.le_of_ble_eq_true rfl) tw_4_188 ?_
  intro p e s m args below meth c hO
  show hz_G p l e 3 hz_z0 s m args below meth c w N 6 _ M 0 [(0, .ref (hz_ad w 0)), (1, .ref (hz_ad w b)), (2, .int a2)] []
  unfold f_L_isStep at h
  refine hz_iconst (v := (-1 : Int32)) hO dL_isStep_0 (by decide) ?_
  refine hz_istore_n (ls1 := [(3, .int (-1 : Int32)), (0, .ref (hz_ad w 0)), (1, .ref (hz_ad w b)), (2, .int a2)]) hO dL_isStep_1 rfl (Nat.le_of_ble_eq_true rfl) rfl ?_
  refine hz_iconst (v := (0 : Int32)) hO dL_isStep_2 (by decide) ?_
  refine hz_istore (ls1 := [(4, .int (0 : Int32)), (3, .int (-1 : Int32)), (0, .ref (hz_ad w 0)), (1, .ref (hz_ad w b)), (2, .int a2)]) hO dL_isStep_3 (Nat.le_of_ble_eq_true rfl) rfl ?_
  refine hz_aload_n hO dL_isStep_5 rfl 3 rfl ?_
  refine hz_getIN (k := 10) hO hz_K_11 hB.1 hB.2.1 rfl (Nat.le_of_ble_eq_true rfl) (List.mem_of_getElem? (i := 8) rfl) rfl dL_isStep_6 ?_
  refine hz_iconst (v := (1 : Int32)) hO dL_isStep_9 (by decide) ?_
  refine hz_isub hO dL_isStep_10 ?_
  obtain ⟨x1, h_x1, h⟩ := hz_lt_e h
  refine hz_name h_x1 ?_
  refine hz_istore (ls1 := [(5, .int x1), (4, .int (0 : Int32)), (3, .int (-1 : Int32)), (0, .ref (hz_ad w 0)), (1, .ref (hz_ad w b)), (2, .int a2)]) hO dL_isStep_11 (Nat.le_of_ble_eq_true rfl) rfl ?_
  obtain ⟨k29, hk29, h⟩ := hz_jn_e h
  have gk29 : ∀ (v2_2 : Int32) (v3_3 : Int32) (v4_4 : Int32) (M5 : hz_M), k29 v2_2 v3_3 v4_4 M5 = some (rE, ME) → hz_G p l e 3 hz_z0 s m args below meth c w N 6 (MQ below (hz_Qi w N rE ME) args s 0 0 (hz_A w)) M5 93 [(0, .ref (hz_ad w 0)), (1, .ref (hz_ad w b)), (2, .int v2_2), (3, .int v3_3), (4, .int v4_4)] [] := by
    intro v2_2 v3_3 v4_4 M5 h
    rw [hk29] at h
    dsimp only at h
    refine hz_aload_n hO dL_isStep_93 rfl 0 rfl ?_
    refine hz_iload_n hO dL_isStep_94 rfl 2 rfl ?_
    refine hz_iconst (v := (0 : Int32)) hO dL_isStep_95 (by decide) ?_
    obtain ⟨r6, M7, hq8, h⟩ := hz_ct_e h
    refine hz_callVi (as := [.int v2_2, .int (0 : Int32)]) (rest := []) hO (c_X10_step l w hN v2_2 (0 : Int32) hq8) hz_cal_X10_step hz_K_10 hz_sh_0 (hz_lt_0 hN) tw_4_189 (Nat.le_of_ble_eq_true rfl) rfl rfl (Nat.le_of_ble_eq_true rfl) dL_isStep_96 ?_
    refine hz_aload_n hO dL_isStep_99 rfl 1 rfl ?_
    refine hz_iload_n hO dL_isStep_100 rfl 2 rfl ?_
    obtain ⟨r9, M10, hq11, h⟩ := hz_ct_e h
    refine hz_callVi (as := [.int v2_2]) (rest := [.int r6]) hO (c_X11_on l w hN hB v2_2 hq11) hz_cal_X11_on hz_K_11 hB.1 hB.2.1 tw_4_211 (Nat.le_of_ble_eq_true rfl) rfl rfl (Nat.le_of_ble_eq_true rfl) dL_isStep_101 ?_
    refine hz_icmp_ne (tgt := 164) hO dL_isStep_104 (by decide) (fun hc12 => ?_) (fun hc12 => ?_)
    · rw [if_neg hc12] at h
      refine hz_iconst (v := (0 : Int32)) hO dL_isStep_164 (by decide) ?_
      exact hz_nameM (hz_some_e h).2.symm (hz_name (hz_some_e h).1.symm (hz_zret hO (by rw [← (hz_some_e h).1]; decide) dL_isStep_165))
    · rw [if_pos hc12] at h
      refine hz_aload_n hO dL_isStep_107 rfl 0 rfl ?_
      refine hz_iload_n hO dL_isStep_108 rfl 2 rfl ?_
      refine hz_iconst (v := (1 : Int32)) hO dL_isStep_109 (by decide) ?_
      obtain ⟨r13, M14, hq15, h⟩ := hz_ct_e h
      refine hz_callVi (as := [.int v2_2, .int (1 : Int32)]) (rest := []) hO (c_X10_step l w hN v2_2 (1 : Int32) hq15) hz_cal_X10_step hz_K_10 hz_sh_0 (hz_lt_0 hN) tw_4_189 (Nat.le_of_ble_eq_true rfl) rfl rfl (Nat.le_of_ble_eq_true rfl) dL_isStep_110 ?_
      refine hz_aload_n hO dL_isStep_113 rfl 1 rfl ?_
      refine hz_getIN (k := 9) hO hz_K_11 hB.1 hB.2.1 rfl (Nat.le_of_ble_eq_true rfl) (List.mem_of_getElem? (i := 9) rfl) rfl dL_isStep_114 ?_
      refine hz_bipush (v := (6 : Int32)) hO dL_isStep_117 (by decide) ?_
      refine hz_iload_n hO dL_isStep_119 rfl 2 rfl ?_
      refine hz_imul hO dL_isStep_120 ?_
      refine hz_iadd hO dL_isStep_121 ?_
      refine hz_icmp_ne (tgt := 164) hO dL_isStep_122 (by decide) (fun hc16 => ?_) (fun hc16 => ?_)
      · rw [if_neg hc16] at h
        refine hz_iconst (v := (0 : Int32)) hO dL_isStep_164 (by decide) ?_
        exact hz_nameM (hz_some_e h).2.symm (hz_name (hz_some_e h).1.symm (hz_zret hO (by rw [← (hz_some_e h).1]; decide) dL_isStep_165))
      · rw [if_pos hc16] at h
        refine hz_aload_n hO dL_isStep_125 rfl 0 rfl ?_
        refine hz_iload_n hO dL_isStep_126 rfl 2 rfl ?_
        refine hz_iconst (v := (2 : Int32)) hO dL_isStep_127 (by decide) ?_
        obtain ⟨r17, M18, hq19, h⟩ := hz_ct_e h
        refine hz_callVi (as := [.int v2_2, .int (2 : Int32)]) (rest := []) hO (c_X10_step l w hN v2_2 (2 : Int32) hq19) hz_cal_X10_step hz_K_10 hz_sh_0 (hz_lt_0 hN) tw_4_189 (Nat.le_of_ble_eq_true rfl) rfl rfl (Nat.le_of_ble_eq_true rfl) dL_isStep_128 ?_
        refine hz_iconst (v := (5 : Int32)) hO dL_isStep_131 (by decide) ?_
        refine hz_iload_n hO dL_isStep_132 rfl 2 rfl ?_
        refine hz_imul hO dL_isStep_133 ?_
        refine hz_iconst (v := (5 : Int32)) hO dL_isStep_134 (by decide) ?_
        refine hz_isub hO dL_isStep_135 ?_
        refine hz_icmp_ne (tgt := 164) hO dL_isStep_136 (by decide) (fun hc20 => ?_) (fun hc20 => ?_)
        · rw [if_neg hc20] at h
          refine hz_iconst (v := (0 : Int32)) hO dL_isStep_164 (by decide) ?_
          exact hz_nameM (hz_some_e h).2.symm (hz_name (hz_some_e h).1.symm (hz_zret hO (by rw [← (hz_some_e h).1]; decide) dL_isStep_165))
        · rw [if_pos hc20] at h
          refine hz_aload_n hO dL_isStep_139 rfl 0 rfl ?_
          refine hz_iload_n hO dL_isStep_140 rfl 2 rfl ?_
          refine hz_iconst (v := (3 : Int32)) hO dL_isStep_141 (by decide) ?_
          obtain ⟨r21, M22, hq23, h⟩ := hz_ct_e h
          refine hz_callVi (as := [.int v2_2, .int (3 : Int32)]) (rest := []) hO (c_X10_step l w hN v2_2 (3 : Int32) hq23) hz_cal_X10_step hz_K_10 hz_sh_0 (hz_lt_0 hN) tw_4_189 (Nat.le_of_ble_eq_true rfl) rfl rfl (Nat.le_of_ble_eq_true rfl) dL_isStep_142 ?_
          refine hz_iload_n hO dL_isStep_145 rfl 3 rfl ?_
          refine hz_icmp_ne (tgt := 164) hO dL_isStep_146 (by decide) (fun hc24 => ?_) (fun hc24 => ?_)
          · rw [if_neg hc24] at h
            refine hz_iconst (v := (0 : Int32)) hO dL_isStep_164 (by decide) ?_
            exact hz_nameM (hz_some_e h).2.symm (hz_name (hz_some_e h).1.symm (hz_zret hO (by rw [← (hz_some_e h).1]; decide) dL_isStep_165))
          · rw [if_pos hc24] at h
            refine hz_aload_n hO dL_isStep_149 rfl 0 rfl ?_
            refine hz_iload_n hO dL_isStep_150 rfl 2 rfl ?_
            refine hz_iconst (v := (4 : Int32)) hO dL_isStep_151 (by decide) ?_
            obtain ⟨r25, M26, hq27, h⟩ := hz_ct_e h
            refine hz_callVi (as := [.int v2_2, .int (4 : Int32)]) (rest := []) hO (c_X10_step l w hN v2_2 (4 : Int32) hq27) hz_cal_X10_step hz_K_10 hz_sh_0 (hz_lt_0 hN) tw_4_189 (Nat.le_of_ble_eq_true rfl) rfl rfl (Nat.le_of_ble_eq_true rfl) dL_isStep_152 ?_
            refine hz_iload hO dL_isStep_155 4 rfl ?_
            refine hz_icmp_ne (tgt := 164) hO dL_isStep_157 (by decide) (fun hc28 => ?_) (fun hc28 => ?_)
            · rw [if_neg hc28] at h
              refine hz_iconst (v := (0 : Int32)) hO dL_isStep_164 (by decide) ?_
              exact hz_nameM (hz_some_e h).2.symm (hz_name (hz_some_e h).1.symm (hz_zret hO (by rw [← (hz_some_e h).1]; decide) dL_isStep_165))
            · rw [if_pos hc28] at h
              refine hz_iconst (v := (1 : Int32)) hO dL_isStep_160 (by decide) ?_
              refine hz_goto (tgt := 165) hO dL_isStep_161 (by decide) ?_
              exact hz_nameM (hz_some_e h).2.symm (hz_name (hz_some_e h).1.symm (hz_zret hO (by rw [← (hz_some_e h).1]; decide) dL_isStep_165))
  clear hk29
  exact hz_ls [3, 4, 5, 2, 1, 0] rfl (g_L_isStep_L13 hN hB hO _ gk29 _ a2 (-1 : Int32) (0 : Int32) x1 M h)
def f_L_isAs_L298 (b : Nat) (kk329 : Int32 → Int32 → Int32 → hz_M → hz_O) : Nat → Int32 → Int32 → Int32 → Int32 → hz_M → hz_O
  | 0, _, _, _, _, _ => none
  | n + 1, v2_157, v3_158, v4_159, v5_160, M161 =>
    if (9 : Int32) ≤ v5_160 then
      kk329 v2_157 v3_158 v4_159 M161
    else
      hz_ct (f_X10_account v5_160 M161) fun r163 M164 =>
      hz_gd (hz_in v5_160 9) <|
      if r163 = (M164 (b + 5) (Int32.toNatClampNeg v5_160)) then
        hz_lt (v5_160 + (1 : Int32)) fun x168 =>
        f_L_isAs_L298 b kk329 n v2_157 v3_158 v4_159 x168 M164
      else
        some ((0 : Int32), M164)
def f_L_isAs_L262 (b : Nat) (kk295 : Int32 → Int32 → Int32 → hz_M → hz_O) : Nat → Int32 → Int32 → Int32 → Int32 → hz_M → hz_O
  | 0, _, _, _, _, _ => none
  | n + 1, v2_170, v3_171, v4_172, v5_173, M174 =>
    if (M174 b 3) ≤ v5_173 then
      kk295 v2_170 v3_171 v4_172 M174
    else
      hz_ct (f_X10_opening v5_173 M174) fun r176 M177 =>
      hz_gd (hz_in v5_173 4) <|
      if r176 = (M177 (b + 1) (Int32.toNatClampNeg v5_173)) then
        hz_lt (v5_173 + (1 : Int32)) fun x181 =>
        f_L_isAs_L262 b kk295 n v2_170 v3_171 v4_172 x181 M177
      else
        some ((0 : Int32), M177)
def f_L_isAs_L226 (b : Nat) (kk259 : Int32 → Int32 → Int32 → hz_M → hz_O) : Nat → Int32 → Int32 → Int32 → Int32 → hz_M → hz_O
  | 0, _, _, _, _, _ => none
  | n + 1, v2_183, v3_184, v4_185, v5_186, M187 =>
    if (M187 b 0) ≤ v5_186 then
      kk259 v2_183 v3_184 v4_185 M187
    else
      hz_ct (f_X10_locker v5_186 M187) fun r189 M190 =>
      hz_gd (hz_in v5_186 12) <|
      if r189 = (M190 (b + 3) (Int32.toNatClampNeg v5_186)) then
        hz_lt (v5_186 + (1 : Int32)) fun x194 =>
        f_L_isAs_L226 b kk259 n v2_183 v3_184 v4_185 x194 M190
      else
        some ((0 : Int32), M190)
def f_L_isAs_L190 (b : Nat) (kk223 : Int32 → Int32 → Int32 → hz_M → hz_O) : Nat → Int32 → Int32 → Int32 → Int32 → hz_M → hz_O
  | 0, _, _, _, _, _ => none
  | n + 1, v2_196, v3_197, v4_198, v5_199, M200 =>
    if (M200 b 1) ≤ v5_199 then
      kk223 v2_196 v3_197 v4_198 M200
    else
      hz_ct (f_X10_peg v5_199 M200) fun r202 M203 =>
      hz_gd (hz_in v5_199 16) <|
      if r202 = (M203 (b + 2) (Int32.toNatClampNeg v5_199)) then
        hz_lt (v5_199 + (1 : Int32)) fun x207 =>
        f_L_isAs_L190 b kk223 n v2_196 v3_197 v4_198 x207 M203
      else
        some ((0 : Int32), M203)
def f_L_isAs_L68 (b : Nat) (kk187 : Int32 → Int32 → Int32 → hz_M → hz_O) : Nat → Int32 → Int32 → Int32 → Int32 → hz_M → hz_O
  | 0, _, _, _, _, _ => none
  | n + 1, v2_209, v3_210, v4_211, v5_212, M213 =>
    if (M213 b 2) ≤ v5_212 then
      kk187 v2_209 v3_210 v4_211 M213
    else
      hz_ct (f_X11_isBasket b v5_212 M213) fun r215 M216 =>
      hz_jn (fun (v2_218 : Int32) (v4_219 : Int32) (v5_220 : Int32) (q221 : Int32) (q222 : Int32) (M223 : hz_M) =>
        hz_lt ((q222 + q221)) fun x224 =>
        hz_gd (hz_in v5_220 16) <|
        hz_lt ((v4_219 + (M223 (b + 4) (Int32.toNatClampNeg v5_220)))) fun x226 =>
        hz_ct (f_X10_towel v5_220 (0 : Int32) M223) fun r227 M228 =>
        hz_gd (hz_in v5_220 16) <|
        if r227 = (M228 (b + 4) (Int32.toNatClampNeg v5_220)) then
          hz_ct (f_X10_towel v5_220 (1 : Int32) M228) fun r232 M233 =>
          hz_ct (f_X11_pegOf b v5_220 M233) fun r235 M236 =>
          if r232 = r235 then
            hz_ct (f_X10_towel v5_220 (2 : Int32) M236) fun r239 M240 =>
            hz_ct (f_X11_holder b v5_220 M240) fun r242 M243 =>
            if r239 = r242 then
              hz_ct (f_X10_towel v5_220 (3 : Int32) M243) fun r246 M247 =>
              hz_ct (f_X11_isBasket b v5_220 M247) fun r249 M250 =>
              hz_jn (fun (v2_252 : Int32) (v3_253 : Int32) (v4_254 : Int32) (v5_255 : Int32) (q256 : Int32) (q257 : Int32) (M258 : hz_M) =>
                if q257 = q256 then
                  hz_lt (v5_255 + (1 : Int32)) fun x260 =>
                  f_L_isAs_L68 b kk187 n v2_252 v3_253 v4_254 x260 M258
                else
                  some ((0 : Int32), M258)
                ) fun k261 =>
              if r249 = 0 then
                k261 v2_218 x224 x226 v5_220 (0 : Int32) r246 M250
              else
                k261 v2_218 x224 x226 v5_220 (1 : Int32) r246 M250
            else
              some ((0 : Int32), M243)
          else
            some ((0 : Int32), M236)
        else
          some ((0 : Int32), M228)
        ) fun k263 =>
      if r215 = 0 then
        k263 v2_209 v4_211 v5_212 (0 : Int32) v3_210 M216
      else
        k263 v2_209 v4_211 v5_212 (1 : Int32) v3_210 M216
def f_L_isAs_L38 (b : Nat) (kk65 : Int32 → Int32 → Int32 → hz_M → hz_O) : Nat → Int32 → Int32 → Int32 → Int32 → hz_M → hz_O
  | 0, _, _, _, _, _ => none
  | n + 1, v2_266, v3_267, v4_268, v5_269, M270 =>
    if (M270 b 4) < v5_269 then
      kk65 v2_266 v3_267 v4_268 M270
    else
      hz_ct (f_L_isStep b v5_269 M270) fun r272 M273 =>
      if r272 = 0 then
        some ((0 : Int32), M273)
      else
        hz_lt (v5_269 + (1 : Int32)) fun x276 =>
        f_L_isAs_L38 b kk65 n v2_266 v3_267 v4_268 x276 M273
def f_L_isAs_L8 (b : Nat) (kk35 : Int32 → Int32 → Int32 → hz_M → hz_O) : Nat → Int32 → Int32 → Int32 → Int32 → hz_M → hz_O
  | 0, _, _, _, _, _ => none
  | n + 1, v2_278, v3_279, v4_280, v5_281, M282 =>
    if (M282 b 10) ≤ v5_281 then
      kk35 v2_278 v3_279 v4_280 M282
    else
      hz_ct (f_L_isGuest b v5_281 M282) fun r284 M285 =>
      if r284 = 0 then
        some ((0 : Int32), M285)
      else
        hz_lt (v5_281 + (1 : Int32)) fun x288 =>
        f_L_isAs_L8 b kk35 n v2_278 v3_279 v4_280 x288 M285
def f_L_isAs (b : Nat) (a2 : Int32) (M : hz_M) : hz_O :=
  hz_jn (fun (v2_1 : Int32) (v3_2 : Int32) (v4_3 : Int32) (M4 : hz_M) =>
    hz_jn (fun (v2_5 : Int32) (v3_6 : Int32) (v4_7 : Int32) (M8 : hz_M) =>
      hz_jn (fun (v2_9 : Int32) (v3_10 : Int32) (v4_11 : Int32) (M12 : hz_M) =>
        hz_jn (fun (v2_13 : Int32) (v3_14 : Int32) (v4_15 : Int32) (M16 : hz_M) =>
          hz_jn (fun (v2_17 : Int32) (v3_18 : Int32) (v4_19 : Int32) (M20 : hz_M) =>
            hz_jn (fun (v2_21 : Int32) (v3_22 : Int32) (v4_23 : Int32) (M24 : hz_M) =>
              hz_jn (fun (v2_25 : Int32) (v3_26 : Int32) (v4_27 : Int32) (M28 : hz_M) =>
                hz_ct (f_X10_size (0 : Int32) M28) fun r29 M30 =>
                hz_jn (fun (v2_32 : Int32) (v4_33 : Int32) (q34 : Int32) (M35 : hz_M) =>
                  if q34 = 0 then
                    some ((0 : Int32), M35)
                  else
                    hz_ct (f_X10_driest M35) fun r37 M38 =>
                    hz_ct (f_X11_driest b M38) fun r40 M41 =>
                    if r37 = r40 then
                      hz_ct (f_X10_account (9 : Int32) M41) fun r44 M45 =>
                      if r44 = v2_32 then
                        hz_ct (f_X10_gap M45) fun r48 M49 =>
                        if r48 = 0 then
                          hz_ct (f_X10_meanWet M49) fun r52 M53 =>
                          hz_jn (fun (q55 : UInt64) (q56 : UInt64) (M57 : hz_M) =>
                            if (Op.cmpValue (FP.dcmp q56 q55) .l) = 0 then
                              hz_ct (f_X10_heatBits M57) fun r59 M60 =>
                              hz_gd (hz_n32 (FP.fdiv (FP.i2f (M60 b 9)) (1120403456 : UInt32))) <|
                              hz_gd (Op.cmpValue (FP.fcmp (FP.fdiv (FP.i2f (M60 b 9)) (1120403456 : UInt32)) (FP.fdiv (FP.i2f (M60 b 9)) (1120403456 : UInt32))) .l == 0) <|
                              if r59 = (UInt32.toInt32 (FP.fdiv (FP.i2f (M60 b 9)) (1120403456 : UInt32))) then
                                some ((1 : Int32), M60)
                              else
                                some ((0 : Int32), M60)
                            else
                              some ((0 : Int32), M57)
                            ) fun k65 =>
                          if (M53 b 2) = 0 then
                            k65 FP.dconst0 (hz_dd r52) M53
                          else
                            hz_gd (hz_n64 (FP.ddiv (FP.i2d v4_33) (FP.i2d (M53 b 2)))) <|
                            k65 (FP.ddiv (FP.i2d v4_33) (FP.i2d (M53 b 2))) (hz_dd r52) M53
                        else
                          some ((0 : Int32), M49)
                      else
                        some ((0 : Int32), M45)
                    else
                      some ((0 : Int32), M41)
                  ) fun k68 =>
                hz_jn (fun (v2_69 : Int32) (v4_70 : Int32) (M71 : hz_M) =>
                  k68 v2_69 v4_70 (0 : Int32) M71
                  ) fun k72 =>
                if r29 = (M30 b 10) then
                  hz_ct (f_X10_size (1 : Int32) M30) fun r74 M75 =>
                  if r74 = (M75 b 0) then
                    hz_ct (f_X10_size (2 : Int32) M75) fun r78 M79 =>
                    if r78 = (M79 b 1) then
                      hz_ct (f_X10_size (3 : Int32) M79) fun r82 M83 =>
                      if r82 = (M83 b 2) then
                        hz_ct (f_X10_size (4 : Int32) M83) fun r86 M87 =>
                        if r86 = (M87 b 3) then
                          hz_ct (f_X10_size (5 : Int32) M87) fun r90 M91 =>
                          if r90 = (M91 b 4) then
                            hz_ct (f_X10_size (6 : Int32) M91) fun r94 M95 =>
                            if r94 = (M95 b 5) then
                              hz_ct (f_X10_size (7 : Int32) M95) fun r98 M99 =>
                              if r98 = (M99 b 6) then
                                hz_ct (f_X10_size (8 : Int32) M99) fun r102 M103 =>
                                if r102 = (M103 b 7) then
                                  hz_ct (f_X10_size (9 : Int32) M103) fun r106 M107 =>
                                  if r106 = (M107 b 8) then
                                    hz_ct (f_X10_size (10 : Int32) M107) fun r110 M111 =>
                                    if r110 = (M111 b 9) then
                                      hz_ct (f_X10_size (11 : Int32) M111) fun r114 M115 =>
                                      hz_ct (f_X11_inside b M115) fun r117 M118 =>
                                      if r114 = r117 then
                                        hz_ct (f_X10_size (12 : Int32) M118) fun r121 M122 =>
                                        hz_ct (f_X11_inside b M122) fun r124 M125 =>
                                        hz_ct (f_X11_on b (0 : Int32) M125) fun r127 M128 =>
                                        if r121 = (r124 - r127) then
                                          hz_ct (f_X10_size (13 : Int32) M128) fun r131 M132 =>
                                          if r131 = v3_26 then
                                            hz_ct (f_X10_size (14 : Int32) M132) fun r135 M136 =>
                                            hz_ct (f_X11_inside b M136) fun r138 M139 =>
                                            if r135 = ((M136 b 0) - r138) then
                                              hz_ct (f_X10_size (15 : Int32) M139) fun r142 M143 =>
                                              hz_ct (f_X11_isSilent b M143) fun r145 M146 =>
                                              hz_jn (fun (v2_148 : Int32) (v4_149 : Int32) (q150 : Int32) (q151 : Int32) (M152 : hz_M) =>
                                                if q151 = q150 then
                                                  k68 v2_148 v4_149 (1 : Int32) M152
                                                else
                                                  k72 v2_148 v4_149 M152
                                                ) fun k154 =>
                                              if r145 = 0 then
                                                k154 v2_25 v4_27 (0 : Int32) r142 M146
                                              else
                                                k154 v2_25 v4_27 (1 : Int32) r142 M146
                                            else
                                              k72 v2_25 v4_27 M139
                                          else
                                            k72 v2_25 v4_27 M132
                                        else
                                          k72 v2_25 v4_27 M128
                                      else
                                        k72 v2_25 v4_27 M118
                                    else
                                      k72 v2_25 v4_27 M111
                                  else
                                    k72 v2_25 v4_27 M107
                                else
                                  k72 v2_25 v4_27 M103
                              else
                                k72 v2_25 v4_27 M99
                            else
                              k72 v2_25 v4_27 M95
                          else
                            k72 v2_25 v4_27 M91
                        else
                          k72 v2_25 v4_27 M87
                      else
                        k72 v2_25 v4_27 M83
                    else
                      k72 v2_25 v4_27 M79
                  else
                    k72 v2_25 v4_27 M75
                else
                  k72 v2_25 v4_27 M30
                ) fun k156 =>
              f_L_isAs_L298 b k156 hz_FU v2_21 v3_22 v4_23 (0 : Int32) M24
              ) fun k169 =>
            f_L_isAs_L262 b k169 hz_FU v2_17 v3_18 v4_19 (0 : Int32) M20
            ) fun k182 =>
          f_L_isAs_L226 b k182 hz_FU v2_13 v3_14 v4_15 (0 : Int32) M16
          ) fun k195 =>
        f_L_isAs_L190 b k195 hz_FU v2_9 v3_10 v4_11 (0 : Int32) M12
        ) fun k208 =>
      f_L_isAs_L68 b k208 hz_FU v2_5 v3_6 v4_7 (0 : Int32) M8
      ) fun k265 =>
    f_L_isAs_L38 b k265 hz_FU v2_1 v3_2 v4_3 (1 : Int32) M4
    ) fun k277 =>
  f_L_isAs_L8 b k277 hz_FU a2 (0 : Int32) (0 : Int32) (0 : Int32) M
set_option maxRecDepth 100000 in
set_option maxHeartbeats 4000000 in
theorem g_L_isAs_L298 {p : Program} {l : Launch} {e : Env} {s : State} {m : MethodId} {args : Array Value} {below : List Frame} {meth : Method} {c : Code} {w : hz_C} {N : Nat} (hN : 178 ≤ N) {b : Nat} (hB : hz_Own N b) {rE : Int32} {ME : hz_M} (hO : hz_Ok p s m args meth c w cL_isAs 6 RL (some .boolean)) (kk329 : Int32 → Int32 → Int32 → hz_M → hz_O) (gkk329 : ∀ (v2_25 : Int32) (v3_26 : Int32) (v4_27 : Int32) (M : hz_M), kk329 v2_25 v3_26 v4_27 M = some (rE, ME) → hz_G p l e 6 hz_z0 s m args below meth c w N 6 (MQ below (hz_Qi w N rE ME) args s 0 0 (hz_A w)) M 329 [(0, .ref (hz_ad w 0)), (1, .ref (hz_ad w b)), (2, .int v2_25), (3, .int v3_26), (4, .int v4_27)] []) : ∀ (n : Nat) (v2_157 : Int32) (v3_158 : Int32) (v4_159 : Int32) (v5_160 : Int32) (M161 : hz_M), f_L_isAs_L298 b kk329 n v2_157 v3_158 v4_159 v5_160 M161 = some (rE, ME) → hz_G p l e 6 hz_z0 s m args below meth c w N 6 (MQ below (hz_Qi w N rE ME) args s 0 0 (hz_A w)) M161 298 [(0, .ref (hz_ad w 0)), (1, .ref (hz_ad w b)), (2, .int v2_157), (3, .int v3_158), (4, .int v4_159), (5, .int v5_160)] [] := by
  intro n
  induction n with
  | zero =>
    intro v2_157 v3_158 v4_159 v5_160 M161 h
    rw [f_L_isAs_L298] at h
    cases h
  | succ n ih =>
    intro v2_157 v3_158 v4_159 v5_160 M161 h
    rw [f_L_isAs_L298] at h
    refine hz_iload hO dL_isAs_298 5 rfl ?_
    refine hz_bipush (v := (9 : Int32)) hO dL_isAs_300 (by decide) ?_
    refine hz_icmp_ge (tgt := 329) hO dL_isAs_302 (by decide) (fun hc162 => ?_) (fun hc162 => ?_)
    · rw [if_pos hc162] at h
      exact hz_ls [0, 1, 2, 3, 4] rfl (gkk329 v2_157 v3_158 v4_159 M161 h)
    · rw [if_neg hc162] at h
      refine hz_aload_n hO dL_isAs_305 rfl 0 rfl ?_
      refine hz_iload hO dL_isAs_306 5 rfl ?_
      obtain ⟨r163, M164, hq165, h⟩ := hz_ct_e h
      refine hz_callVi (as := [.int v5_160]) (rest := []) hO (c_X10_account l w hN v5_160 hq165) hz_cal_X10_account hz_K_10 hz_sh_0 (hz_lt_0 hN) tw_5_17 (Nat.le_of_ble_eq_true rfl) rfl rfl (Nat.le_of_ble_eq_true rfl) dL_isAs_308 ?_
      refine hz_aload_n hO dL_isAs_311 rfl 1 rfl ?_
      refine hz_getRN (k := 16) hO (b + 5) hz_K_11 hB.1 hB.2.1 rfl (Nat.le_of_ble_eq_true rfl) (List.mem_of_getElem? (i := 17) rfl) rfl dL_isAs_312 ?_
      refine hz_iload hO dL_isAs_315 5 rfl ?_
      obtain ⟨hg166, h⟩ := hz_gd_e h
      refine hz_iald hO hB.2.2.2.2.2.2.2.2.2.2.1 hB.2.2.2.2.2.2.2.2.2.2.2.1 hg166 dL_isAs_317 ?_
      refine hz_icmp_eq (tgt := 323) hO dL_isAs_318 (by decide) (fun hc167 => ?_) (fun hc167 => ?_)
      · rw [if_pos hc167] at h
        obtain ⟨x168, h_x168, h⟩ := hz_lt_e h
        refine hz_iinc (k := 5) (v := x168) (ls1 := [(5, .int x168), (0, .ref (hz_ad w 0)), (1, .ref (hz_ad w b)), (2, .int v2_157), (3, .int v3_158), (4, .int v4_159)]) hO dL_isAs_323 rfl (by rw [h_x168]; rfl) (Nat.le_of_ble_eq_true rfl) rfl ?_
        refine hz_goto (tgt := 298) hO dL_isAs_326 (by decide) ?_
        exact hz_ls [1, 2, 3, 4, 5, 0] rfl (ih v2_157 v3_158 v4_159 x168 M164 h)
      · rw [if_neg hc167] at h
        refine hz_iconst (v := (0 : Int32)) hO dL_isAs_321 (by decide) ?_
        exact hz_nameM (hz_some_e h).2.symm (hz_name (hz_some_e h).1.symm (hz_zret hO (by rw [← (hz_some_e h).1]; decide) dL_isAs_322))
set_option maxRecDepth 100000 in
set_option maxHeartbeats 4000000 in
theorem g_L_isAs_L262 {p : Program} {l : Launch} {e : Env} {s : State} {m : MethodId} {args : Array Value} {below : List Frame} {meth : Method} {c : Code} {w : hz_C} {N : Nat} (hN : 178 ≤ N) {b : Nat} (hB : hz_Own N b) {rE : Int32} {ME : hz_M} (hO : hz_Ok p s m args meth c w cL_isAs 6 RL (some .boolean)) (kk295 : Int32 → Int32 → Int32 → hz_M → hz_O) (gkk295 : ∀ (v2_21 : Int32) (v3_22 : Int32) (v4_23 : Int32) (M : hz_M), kk295 v2_21 v3_22 v4_23 M = some (rE, ME) → hz_G p l e 6 hz_z0 s m args below meth c w N 6 (MQ below (hz_Qi w N rE ME) args s 0 0 (hz_A w)) M 295 [(0, .ref (hz_ad w 0)), (1, .ref (hz_ad w b)), (2, .int v2_21), (3, .int v3_22), (4, .int v4_23)] []) : ∀ (n : Nat) (v2_170 : Int32) (v3_171 : Int32) (v4_172 : Int32) (v5_173 : Int32) (M174 : hz_M), f_L_isAs_L262 b kk295 n v2_170 v3_171 v4_172 v5_173 M174 = some (rE, ME) → hz_G p l e 6 hz_z0 s m args below meth c w N 6 (MQ below (hz_Qi w N rE ME) args s 0 0 (hz_A w)) M174 262 [(0, .ref (hz_ad w 0)), (1, .ref (hz_ad w b)), (2, .int v2_170), (3, .int v3_171), (4, .int v4_172), (5, .int v5_173)] [] := by
  intro n
  induction n with
  | zero =>
    intro v2_170 v3_171 v4_172 v5_173 M174 h
    rw [f_L_isAs_L262] at h
    cases h
  | succ n ih =>
    intro v2_170 v3_171 v4_172 v5_173 M174 h
    rw [f_L_isAs_L262] at h
    refine hz_iload hO dL_isAs_262 5 rfl ?_
    refine hz_aload_n hO dL_isAs_264 rfl 1 rfl ?_
    refine hz_getIN (k := 3) hO hz_K_11 hB.1 hB.2.1 rfl (Nat.le_of_ble_eq_true rfl) (List.mem_of_getElem? (i := 15) rfl) rfl dL_isAs_265 ?_
    refine hz_icmp_ge (tgt := 295) hO dL_isAs_268 (by decide) (fun hc175 => ?_) (fun hc175 => ?_)
    · rw [if_pos hc175] at h
      exact hz_ls [0, 1, 2, 3, 4] rfl (gkk295 v2_170 v3_171 v4_172 M174 h)
    · rw [if_neg hc175] at h
      refine hz_aload_n hO dL_isAs_271 rfl 0 rfl ?_
      refine hz_iload hO dL_isAs_272 5 rfl ?_
      obtain ⟨r176, M177, hq178, h⟩ := hz_ct_e h
      refine hz_callVi (as := [.int v5_173]) (rest := []) hO (c_X10_opening l w hN v5_173 hq178) hz_cal_X10_opening hz_K_10 hz_sh_0 (hz_lt_0 hN) tw_5_9 (Nat.le_of_ble_eq_true rfl) rfl rfl (Nat.le_of_ble_eq_true rfl) dL_isAs_274 ?_
      refine hz_aload_n hO dL_isAs_277 rfl 1 rfl ?_
      refine hz_getRN (k := 12) hO (b + 1) hz_K_11 hB.1 hB.2.1 rfl (Nat.le_of_ble_eq_true rfl) (List.mem_of_getElem? (i := 16) rfl) rfl dL_isAs_278 ?_
      refine hz_iload hO dL_isAs_281 5 rfl ?_
      obtain ⟨hg179, h⟩ := hz_gd_e h
      refine hz_iald hO hB.2.2.1 hB.2.2.2.1 hg179 dL_isAs_283 ?_
      refine hz_icmp_eq (tgt := 289) hO dL_isAs_284 (by decide) (fun hc180 => ?_) (fun hc180 => ?_)
      · rw [if_pos hc180] at h
        obtain ⟨x181, h_x181, h⟩ := hz_lt_e h
        refine hz_iinc (k := 5) (v := x181) (ls1 := [(5, .int x181), (0, .ref (hz_ad w 0)), (1, .ref (hz_ad w b)), (2, .int v2_170), (3, .int v3_171), (4, .int v4_172)]) hO dL_isAs_289 rfl (by rw [h_x181]; rfl) (Nat.le_of_ble_eq_true rfl) rfl ?_
        refine hz_goto (tgt := 262) hO dL_isAs_292 (by decide) ?_
        exact hz_ls [1, 2, 3, 4, 5, 0] rfl (ih v2_170 v3_171 v4_172 x181 M177 h)
      · rw [if_neg hc180] at h
        refine hz_iconst (v := (0 : Int32)) hO dL_isAs_287 (by decide) ?_
        exact hz_nameM (hz_some_e h).2.symm (hz_name (hz_some_e h).1.symm (hz_zret hO (by rw [← (hz_some_e h).1]; decide) dL_isAs_288))
set_option maxRecDepth 100000 in
set_option maxHeartbeats 4000000 in
theorem g_L_isAs_L226 {p : Program} {l : Launch} {e : Env} {s : State} {m : MethodId} {args : Array Value} {below : List Frame} {meth : Method} {c : Code} {w : hz_C} {N : Nat} (hN : 178 ≤ N) {b : Nat} (hB : hz_Own N b) {rE : Int32} {ME : hz_M} (hO : hz_Ok p s m args meth c w cL_isAs 6 RL (some .boolean)) (kk259 : Int32 → Int32 → Int32 → hz_M → hz_O) (gkk259 : ∀ (v2_17 : Int32) (v3_18 : Int32) (v4_19 : Int32) (M : hz_M), kk259 v2_17 v3_18 v4_19 M = some (rE, ME) → hz_G p l e 6 hz_z0 s m args below meth c w N 6 (MQ below (hz_Qi w N rE ME) args s 0 0 (hz_A w)) M 259 [(0, .ref (hz_ad w 0)), (1, .ref (hz_ad w b)), (2, .int v2_17), (3, .int v3_18), (4, .int v4_19)] []) : ∀ (n : Nat) (v2_183 : Int32) (v3_184 : Int32) (v4_185 : Int32) (v5_186 : Int32) (M187 : hz_M), f_L_isAs_L226 b kk259 n v2_183 v3_184 v4_185 v5_186 M187 = some (rE, ME) → hz_G p l e 6 hz_z0 s m args below meth c w N 6 (MQ below (hz_Qi w N rE ME) args s 0 0 (hz_A w)) M187 226 [(0, .ref (hz_ad w 0)), (1, .ref (hz_ad w b)), (2, .int v2_183), (3, .int v3_184), (4, .int v4_185), (5, .int v5_186)] [] := by
  intro n
  induction n with
  | zero =>
    intro v2_183 v3_184 v4_185 v5_186 M187 h
    rw [f_L_isAs_L226] at h
    cases h
  | succ n ih =>
    intro v2_183 v3_184 v4_185 v5_186 M187 h
    rw [f_L_isAs_L226] at h
    refine hz_iload hO dL_isAs_226 5 rfl ?_
    refine hz_aload_n hO dL_isAs_228 rfl 1 rfl ?_
    refine hz_getIN (k := 0) hO hz_K_11 hB.1 hB.2.1 rfl (Nat.le_of_ble_eq_true rfl) (List.mem_of_getElem? (i := 13) rfl) rfl dL_isAs_229 ?_
    refine hz_icmp_ge (tgt := 259) hO dL_isAs_232 (by decide) (fun hc188 => ?_) (fun hc188 => ?_)
    · rw [if_pos hc188] at h
      exact hz_ls [0, 1, 2, 3, 4] rfl (gkk259 v2_183 v3_184 v4_185 M187 h)
    · rw [if_neg hc188] at h
      refine hz_aload_n hO dL_isAs_235 rfl 0 rfl ?_
      refine hz_iload hO dL_isAs_236 5 rfl ?_
      obtain ⟨r189, M190, hq191, h⟩ := hz_ct_e h
      refine hz_callVi (as := [.int v5_186]) (rest := []) hO (c_X10_locker l w hN v5_186 hq191) hz_cal_X10_locker hz_K_10 hz_sh_0 (hz_lt_0 hN) tw_5_1 (Nat.le_of_ble_eq_true rfl) rfl rfl (Nat.le_of_ble_eq_true rfl) dL_isAs_238 ?_
      refine hz_aload_n hO dL_isAs_241 rfl 1 rfl ?_
      refine hz_getRN (k := 14) hO (b + 3) hz_K_11 hB.1 hB.2.1 rfl (Nat.le_of_ble_eq_true rfl) (List.mem_of_getElem? (i := 14) rfl) rfl dL_isAs_242 ?_
      refine hz_iload hO dL_isAs_245 5 rfl ?_
      obtain ⟨hg192, h⟩ := hz_gd_e h
      refine hz_iald hO hB.2.2.2.2.2.2.1 hB.2.2.2.2.2.2.2.1 hg192 dL_isAs_247 ?_
      refine hz_icmp_eq (tgt := 253) hO dL_isAs_248 (by decide) (fun hc193 => ?_) (fun hc193 => ?_)
      · rw [if_pos hc193] at h
        obtain ⟨x194, h_x194, h⟩ := hz_lt_e h
        refine hz_iinc (k := 5) (v := x194) (ls1 := [(5, .int x194), (0, .ref (hz_ad w 0)), (1, .ref (hz_ad w b)), (2, .int v2_183), (3, .int v3_184), (4, .int v4_185)]) hO dL_isAs_253 rfl (by rw [h_x194]; rfl) (Nat.le_of_ble_eq_true rfl) rfl ?_
        refine hz_goto (tgt := 226) hO dL_isAs_256 (by decide) ?_
        exact hz_ls [1, 2, 3, 4, 5, 0] rfl (ih v2_183 v3_184 v4_185 x194 M190 h)
      · rw [if_neg hc193] at h
        refine hz_iconst (v := (0 : Int32)) hO dL_isAs_251 (by decide) ?_
        exact hz_nameM (hz_some_e h).2.symm (hz_name (hz_some_e h).1.symm (hz_zret hO (by rw [← (hz_some_e h).1]; decide) dL_isAs_252))
set_option maxRecDepth 100000 in
set_option maxHeartbeats 4000000 in
theorem g_L_isAs_L190 {p : Program} {l : Launch} {e : Env} {s : State} {m : MethodId} {args : Array Value} {below : List Frame} {meth : Method} {c : Code} {w : hz_C} {N : Nat} (hN : 178 ≤ N) {b : Nat} (hB : hz_Own N b) {rE : Int32} {ME : hz_M} (hO : hz_Ok p s m args meth c w cL_isAs 6 RL (some .boolean)) (kk223 : Int32 → Int32 → Int32 → hz_M → hz_O) (gkk223 : ∀ (v2_13 : Int32) (v3_14 : Int32) (v4_15 : Int32) (M : hz_M), kk223 v2_13 v3_14 v4_15 M = some (rE, ME) → hz_G p l e 6 hz_z0 s m args below meth c w N 6 (MQ below (hz_Qi w N rE ME) args s 0 0 (hz_A w)) M 223 [(0, .ref (hz_ad w 0)), (1, .ref (hz_ad w b)), (2, .int v2_13), (3, .int v3_14), (4, .int v4_15)] []) : ∀ (n : Nat) (v2_196 : Int32) (v3_197 : Int32) (v4_198 : Int32) (v5_199 : Int32) (M200 : hz_M), f_L_isAs_L190 b kk223 n v2_196 v3_197 v4_198 v5_199 M200 = some (rE, ME) → hz_G p l e 6 hz_z0 s m args below meth c w N 6 (MQ below (hz_Qi w N rE ME) args s 0 0 (hz_A w)) M200 190 [(0, .ref (hz_ad w 0)), (1, .ref (hz_ad w b)), (2, .int v2_196), (3, .int v3_197), (4, .int v4_198), (5, .int v5_199)] [] := by
  intro n
  induction n with
  | zero =>
    intro v2_196 v3_197 v4_198 v5_199 M200 h
    rw [f_L_isAs_L190] at h
    cases h
  | succ n ih =>
    intro v2_196 v3_197 v4_198 v5_199 M200 h
    rw [f_L_isAs_L190] at h
    refine hz_iload hO dL_isAs_190 5 rfl ?_
    refine hz_aload_n hO dL_isAs_192 rfl 1 rfl ?_
    refine hz_getIN (k := 1) hO hz_K_11 hB.1 hB.2.1 rfl (Nat.le_of_ble_eq_true rfl) (List.mem_of_getElem? (i := 0) rfl) rfl dL_isAs_193 ?_
    refine hz_icmp_ge (tgt := 223) hO dL_isAs_196 (by decide) (fun hc201 => ?_) (fun hc201 => ?_)
    · rw [if_pos hc201] at h
      exact hz_ls [0, 1, 2, 3, 4] rfl (gkk223 v2_196 v3_197 v4_198 M200 h)
    · rw [if_neg hc201] at h
      refine hz_aload_n hO dL_isAs_199 rfl 0 rfl ?_
      refine hz_iload hO dL_isAs_200 5 rfl ?_
      obtain ⟨r202, M203, hq204, h⟩ := hz_ct_e h
      refine hz_callVi (as := [.int v5_199]) (rest := []) hO (c_X10_peg l w hN v5_199 hq204) hz_cal_X10_peg hz_K_10 hz_sh_0 (hz_lt_0 hN) tw_4_236 (Nat.le_of_ble_eq_true rfl) rfl rfl (Nat.le_of_ble_eq_true rfl) dL_isAs_202 ?_
      refine hz_aload_n hO dL_isAs_205 rfl 1 rfl ?_
      refine hz_getRN (k := 13) hO (b + 2) hz_K_11 hB.1 hB.2.1 rfl (Nat.le_of_ble_eq_true rfl) (List.mem_of_getElem? (i := 12) rfl) rfl dL_isAs_206 ?_
      refine hz_iload hO dL_isAs_209 5 rfl ?_
      obtain ⟨hg205, h⟩ := hz_gd_e h
      refine hz_iald hO hB.2.2.2.2.1 hB.2.2.2.2.2.1 hg205 dL_isAs_211 ?_
      refine hz_icmp_eq (tgt := 217) hO dL_isAs_212 (by decide) (fun hc206 => ?_) (fun hc206 => ?_)
      · rw [if_pos hc206] at h
        obtain ⟨x207, h_x207, h⟩ := hz_lt_e h
        refine hz_iinc (k := 5) (v := x207) (ls1 := [(5, .int x207), (0, .ref (hz_ad w 0)), (1, .ref (hz_ad w b)), (2, .int v2_196), (3, .int v3_197), (4, .int v4_198)]) hO dL_isAs_217 rfl (by rw [h_x207]; rfl) (Nat.le_of_ble_eq_true rfl) rfl ?_
        refine hz_goto (tgt := 190) hO dL_isAs_220 (by decide) ?_
        exact hz_ls [1, 2, 3, 4, 5, 0] rfl (ih v2_196 v3_197 v4_198 x207 M203 h)
      · rw [if_neg hc206] at h
        refine hz_iconst (v := (0 : Int32)) hO dL_isAs_215 (by decide) ?_
        exact hz_nameM (hz_some_e h).2.symm (hz_name (hz_some_e h).1.symm (hz_zret hO (by rw [← (hz_some_e h).1]; decide) dL_isAs_216))
set_option maxRecDepth 100000 in
set_option maxHeartbeats 4000000 in
theorem g_L_isAs_L68 {p : Program} {l : Launch} {e : Env} {s : State} {m : MethodId} {args : Array Value} {below : List Frame} {meth : Method} {c : Code} {w : hz_C} {N : Nat} (hN : 178 ≤ N) {b : Nat} (hB : hz_Own N b) {rE : Int32} {ME : hz_M} (hO : hz_Ok p s m args meth c w cL_isAs 6 RL (some .boolean)) (kk187 : Int32 → Int32 → Int32 → hz_M → hz_O) (gkk187 : ∀ (v2_9 : Int32) (v3_10 : Int32) (v4_11 : Int32) (M : hz_M), kk187 v2_9 v3_10 v4_11 M = some (rE, ME) → hz_G p l e 6 hz_z0 s m args below meth c w N 6 (MQ below (hz_Qi w N rE ME) args s 0 0 (hz_A w)) M 187 [(0, .ref (hz_ad w 0)), (1, .ref (hz_ad w b)), (2, .int v2_9), (3, .int v3_10), (4, .int v4_11)] []) : ∀ (n : Nat) (v2_209 : Int32) (v3_210 : Int32) (v4_211 : Int32) (v5_212 : Int32) (M213 : hz_M), f_L_isAs_L68 b kk187 n v2_209 v3_210 v4_211 v5_212 M213 = some (rE, ME) → hz_G p l e 6 hz_z0 s m args below meth c w N 6 (MQ below (hz_Qi w N rE ME) args s 0 0 (hz_A w)) M213 68 [(0, .ref (hz_ad w 0)), (1, .ref (hz_ad w b)), (2, .int v2_209), (3, .int v3_210), (4, .int v4_211), (5, .int v5_212)] [] := by
  intro n
  induction n with
  | zero =>
    intro v2_209 v3_210 v4_211 v5_212 M213 h
    rw [f_L_isAs_L68] at h
    cases h
  | succ n ih =>
    intro v2_209 v3_210 v4_211 v5_212 M213 h
    rw [f_L_isAs_L68] at h
    refine hz_iload hO dL_isAs_68 5 rfl ?_
    refine hz_aload_n hO dL_isAs_70 rfl 1 rfl ?_
    refine hz_getIN (k := 2) hO hz_K_11 hB.1 hB.2.1 rfl (Nat.le_of_ble_eq_true rfl) (List.mem_of_getElem? (i := 10) rfl) rfl dL_isAs_71 ?_
    refine hz_icmp_ge (tgt := 187) hO dL_isAs_74 (by decide) (fun hc214 => ?_) (fun hc214 => ?_)
    · rw [if_pos hc214] at h
      exact hz_ls [0, 1, 2, 3, 4] rfl (gkk187 v2_209 v3_210 v4_211 M213 h)
    · rw [if_neg hc214] at h
      refine hz_iload_n hO dL_isAs_77 rfl 3 rfl ?_
      refine hz_aload_n hO dL_isAs_78 rfl 1 rfl ?_
      refine hz_iload hO dL_isAs_79 5 rfl ?_
      obtain ⟨r215, M216, hq217, h⟩ := hz_ct_e h
      refine hz_callVi (as := [.int v5_212]) (rest := [.int v3_210]) hO (c_X11_isBasket l w hN hB v5_212 hq217) hz_cal_X11_isBasket hz_K_11 hB.1 hB.2.1 tw_4_212 (Nat.le_of_ble_eq_true rfl) rfl rfl (Nat.le_of_ble_eq_true rfl) dL_isAs_81 ?_
      obtain ⟨k263, hk263, h⟩ := hz_jn_e h
      have gk263 : ∀ (v2_218 : Int32) (v4_219 : Int32) (v5_220 : Int32) (q221 : Int32) (q222 : Int32) (M223 : hz_M), k263 v2_218 v4_219 v5_220 q221 q222 M223 = some (rE, ME) → hz_G p l e 6 hz_z0 s m args below meth c w N 6 (MQ below (hz_Qi w N rE ME) args s 0 0 (hz_A w)) M223 92 [(0, .ref (hz_ad w 0)), (1, .ref (hz_ad w b)), (2, .int v2_218), (4, .int v4_219), (5, .int v5_220)] [.int q221, .int q222] := by
        intro v2_218 v4_219 v5_220 q221 q222 M223 h
        rw [hk263] at h
        dsimp only at h
        refine hz_iadd hO dL_isAs_92 ?_
        obtain ⟨x224, h_x224, h⟩ := hz_lt_e h
        refine hz_name h_x224 ?_
        refine hz_istore_n (ls1 := [(3, .int x224), (0, .ref (hz_ad w 0)), (1, .ref (hz_ad w b)), (2, .int v2_218), (4, .int v4_219), (5, .int v5_220)]) hO dL_isAs_93 rfl (Nat.le_of_ble_eq_true rfl) rfl ?_
        refine hz_iload hO dL_isAs_94 4 rfl ?_
        refine hz_aload_n hO dL_isAs_96 rfl 2 rfl ?_
        refine hz_getRN (k := 15) hO (b + 4) hz_K_11 hB.1 hB.2.1 rfl (Nat.le_of_ble_eq_true rfl) (List.mem_of_getElem? (i := 11) rfl) rfl dL_isAs_97 ?_
        refine hz_iload hO dL_isAs_100 5 rfl ?_
        obtain ⟨hg225, h⟩ := hz_gd_e h
        refine hz_iald hO hB.2.2.2.2.2.2.2.2.1 hB.2.2.2.2.2.2.2.2.2.1 hg225 dL_isAs_102 ?_
        refine hz_iadd hO dL_isAs_103 ?_
        obtain ⟨x226, h_x226, h⟩ := hz_lt_e h
        refine hz_name h_x226 ?_
        refine hz_istore (ls1 := [(4, .int x226), (3, .int x224), (0, .ref (hz_ad w 0)), (1, .ref (hz_ad w b)), (2, .int v2_218), (5, .int v5_220)]) hO dL_isAs_104 (Nat.le_of_ble_eq_true rfl) rfl ?_
        refine hz_aload_n hO dL_isAs_106 rfl 2 rfl ?_
        refine hz_iload hO dL_isAs_107 5 rfl ?_
        refine hz_iconst (v := (0 : Int32)) hO dL_isAs_109 (by decide) ?_
        obtain ⟨r227, M228, hq229, h⟩ := hz_ct_e h
        refine hz_callVi (as := [.int v5_220, .int (0 : Int32)]) (rest := []) hO (c_X10_towel l w hN v5_220 (0 : Int32) hq229) hz_cal_X10_towel hz_K_10 hz_sh_0 (hz_lt_0 hN) tw_4_224 (Nat.le_of_ble_eq_true rfl) rfl rfl (Nat.le_of_ble_eq_true rfl) dL_isAs_110 ?_
        refine hz_aload_n hO dL_isAs_113 rfl 3 rfl ?_
        refine hz_getRN (k := 15) hO (b + 4) hz_K_11 hB.1 hB.2.1 rfl (Nat.le_of_ble_eq_true rfl) (List.mem_of_getElem? (i := 11) rfl) rfl dL_isAs_114 ?_
        refine hz_iload hO dL_isAs_117 5 rfl ?_
        obtain ⟨hg230, h⟩ := hz_gd_e h
        refine hz_iald hO hB.2.2.2.2.2.2.2.2.1 hB.2.2.2.2.2.2.2.2.2.1 hg230 dL_isAs_119 ?_
        refine hz_icmp_ne (tgt := 179) hO dL_isAs_120 (by decide) (fun hc231 => ?_) (fun hc231 => ?_)
        · rw [if_neg hc231] at h
          refine hz_iconst (v := (0 : Int32)) hO dL_isAs_179 (by decide) ?_
          exact hz_nameM (hz_some_e h).2.symm (hz_name (hz_some_e h).1.symm (hz_zret hO (by rw [← (hz_some_e h).1]; decide) dL_isAs_180))
        · rw [if_pos hc231] at h
          refine hz_aload_n hO dL_isAs_123 rfl 2 rfl ?_
          refine hz_iload hO dL_isAs_124 5 rfl ?_
          refine hz_iconst (v := (1 : Int32)) hO dL_isAs_126 (by decide) ?_
          obtain ⟨r232, M233, hq234, h⟩ := hz_ct_e h
          refine hz_callVi (as := [.int v5_220, .int (1 : Int32)]) (rest := []) hO (c_X10_towel l w hN v5_220 (1 : Int32) hq234) hz_cal_X10_towel hz_K_10 hz_sh_0 (hz_lt_0 hN) tw_4_224 (Nat.le_of_ble_eq_true rfl) rfl rfl (Nat.le_of_ble_eq_true rfl) dL_isAs_127 ?_
          refine hz_aload_n hO dL_isAs_130 rfl 3 rfl ?_
          refine hz_iload hO dL_isAs_131 5 rfl ?_
          obtain ⟨r235, M236, hq237, h⟩ := hz_ct_e h
          refine hz_callVi (as := [.int v5_220]) (rest := [.int r232]) hO (c_X11_pegOf l w hN hB v5_220 hq237) hz_cal_X11_pegOf hz_K_11 hB.1 hB.2.1 tw_4_234 (Nat.le_of_ble_eq_true rfl) rfl rfl (Nat.le_of_ble_eq_true rfl) dL_isAs_133 ?_
          refine hz_icmp_ne (tgt := 179) hO dL_isAs_136 (by decide) (fun hc238 => ?_) (fun hc238 => ?_)
          · rw [if_neg hc238] at h
            refine hz_iconst (v := (0 : Int32)) hO dL_isAs_179 (by decide) ?_
            exact hz_nameM (hz_some_e h).2.symm (hz_name (hz_some_e h).1.symm (hz_zret hO (by rw [← (hz_some_e h).1]; decide) dL_isAs_180))
          · rw [if_pos hc238] at h
            refine hz_aload_n hO dL_isAs_139 rfl 2 rfl ?_
            refine hz_iload hO dL_isAs_140 5 rfl ?_
            refine hz_iconst (v := (2 : Int32)) hO dL_isAs_142 (by decide) ?_
            obtain ⟨r239, M240, hq241, h⟩ := hz_ct_e h
            refine hz_callVi (as := [.int v5_220, .int (2 : Int32)]) (rest := []) hO (c_X10_towel l w hN v5_220 (2 : Int32) hq241) hz_cal_X10_towel hz_K_10 hz_sh_0 (hz_lt_0 hN) tw_4_224 (Nat.le_of_ble_eq_true rfl) rfl rfl (Nat.le_of_ble_eq_true rfl) dL_isAs_143 ?_
            refine hz_aload_n hO dL_isAs_146 rfl 3 rfl ?_
            refine hz_iload hO dL_isAs_147 5 rfl ?_
            obtain ⟨r242, M243, hq244, h⟩ := hz_ct_e h
            refine hz_callVi (as := [.int v5_220]) (rest := [.int r239]) hO (c_X11_holder l w hN hB v5_220 hq244) hz_cal_X11_holder hz_K_11 hB.1 hB.2.1 tw_4_235 (Nat.le_of_ble_eq_true rfl) rfl rfl (Nat.le_of_ble_eq_true rfl) dL_isAs_149 ?_
            refine hz_icmp_ne (tgt := 179) hO dL_isAs_152 (by decide) (fun hc245 => ?_) (fun hc245 => ?_)
            · rw [if_neg hc245] at h
              refine hz_iconst (v := (0 : Int32)) hO dL_isAs_179 (by decide) ?_
              exact hz_nameM (hz_some_e h).2.symm (hz_name (hz_some_e h).1.symm (hz_zret hO (by rw [← (hz_some_e h).1]; decide) dL_isAs_180))
            · rw [if_pos hc245] at h
              refine hz_aload_n hO dL_isAs_155 rfl 2 rfl ?_
              refine hz_iload hO dL_isAs_156 5 rfl ?_
              refine hz_iconst (v := (3 : Int32)) hO dL_isAs_158 (by decide) ?_
              obtain ⟨r246, M247, hq248, h⟩ := hz_ct_e h
              refine hz_callVi (as := [.int v5_220, .int (3 : Int32)]) (rest := []) hO (c_X10_towel l w hN v5_220 (3 : Int32) hq248) hz_cal_X10_towel hz_K_10 hz_sh_0 (hz_lt_0 hN) tw_4_224 (Nat.le_of_ble_eq_true rfl) rfl rfl (Nat.le_of_ble_eq_true rfl) dL_isAs_159 ?_
              refine hz_aload_n hO dL_isAs_162 rfl 3 rfl ?_
              refine hz_iload hO dL_isAs_163 5 rfl ?_
              obtain ⟨r249, M250, hq251, h⟩ := hz_ct_e h
              refine hz_callVi (as := [.int v5_220]) (rest := [.int r246]) hO (c_X11_isBasket l w hN hB v5_220 hq251) hz_cal_X11_isBasket hz_K_11 hB.1 hB.2.1 tw_4_212 (Nat.le_of_ble_eq_true rfl) rfl rfl (Nat.le_of_ble_eq_true rfl) dL_isAs_165 ?_
              obtain ⟨k261, hk261, h⟩ := hz_jn_e h
              have gk261 : ∀ (v2_252 : Int32) (v3_253 : Int32) (v4_254 : Int32) (v5_255 : Int32) (q256 : Int32) (q257 : Int32) (M258 : hz_M), k261 v2_252 v3_253 v4_254 v5_255 q256 q257 M258 = some (rE, ME) → hz_G p l e 6 hz_z0 s m args below meth c w N 6 (MQ below (hz_Qi w N rE ME) args s 0 0 (hz_A w)) M258 176 [(0, .ref (hz_ad w 0)), (1, .ref (hz_ad w b)), (2, .int v2_252), (3, .int v3_253), (4, .int v4_254), (5, .int v5_255)] [.int q256, .int q257] := by
                intro v2_252 v3_253 v4_254 v5_255 q256 q257 M258 h
                rw [hk261] at h
                dsimp only at h
                refine hz_icmp_eq (tgt := 181) hO dL_isAs_176 (by decide) (fun hc259 => ?_) (fun hc259 => ?_)
                · rw [if_pos hc259] at h
                  obtain ⟨x260, h_x260, h⟩ := hz_lt_e h
                  refine hz_iinc (k := 5) (v := x260) (ls1 := [(5, .int x260), (0, .ref (hz_ad w 0)), (1, .ref (hz_ad w b)), (2, .int v2_252), (3, .int v3_253), (4, .int v4_254)]) hO dL_isAs_181 rfl (by rw [h_x260]; rfl) (Nat.le_of_ble_eq_true rfl) rfl ?_
                  refine hz_goto (tgt := 68) hO dL_isAs_184 (by decide) ?_
                  exact hz_ls [1, 2, 3, 4, 5, 0] rfl (ih v2_252 v3_253 v4_254 x260 M258 h)
                · rw [if_neg hc259] at h
                  refine hz_iconst (v := (0 : Int32)) hO dL_isAs_179 (by decide) ?_
                  exact hz_nameM (hz_some_e h).2.symm (hz_name (hz_some_e h).1.symm (hz_zret hO (by rw [← (hz_some_e h).1]; decide) dL_isAs_180))
              clear hk261
              refine hz_if_eq (tgt := 175) hO dL_isAs_168 (by decide) (fun hc262 => ?_) (fun hc262 => ?_)
              · rw [if_pos hc262] at h
                refine hz_iconst (v := (0 : Int32)) hO dL_isAs_175 (by decide) ?_
                exact hz_ls [2, 3, 4, 1, 0, 5] rfl (gk261 v2_218 x224 x226 v5_220 (0 : Int32) r246 M250 h)
              · rw [if_neg hc262] at h
                refine hz_iconst (v := (1 : Int32)) hO dL_isAs_171 (by decide) ?_
                refine hz_goto (tgt := 176) hO dL_isAs_172 (by decide) ?_
                exact hz_ls [2, 3, 4, 1, 0, 5] rfl (gk261 v2_218 x224 x226 v5_220 (1 : Int32) r246 M250 h)
      clear hk263
      refine hz_if_eq (tgt := 91) hO dL_isAs_84 (by decide) (fun hc264 => ?_) (fun hc264 => ?_)
      · rw [if_pos hc264] at h
        refine hz_iconst (v := (0 : Int32)) hO dL_isAs_91 (by decide) ?_
        exact hz_ls [0, 1, 2, 4, 5] rfl (gk263 v2_209 v4_211 v5_212 (0 : Int32) v3_210 M216 h)
      · rw [if_neg hc264] at h
        refine hz_iconst (v := (1 : Int32)) hO dL_isAs_87 (by decide) ?_
        refine hz_goto (tgt := 92) hO dL_isAs_88 (by decide) ?_
        exact hz_ls [0, 1, 2, 4, 5] rfl (gk263 v2_209 v4_211 v5_212 (1 : Int32) v3_210 M216 h)
set_option maxRecDepth 100000 in
set_option maxHeartbeats 4000000 in
theorem g_L_isAs_L38 {p : Program} {l : Launch} {e : Env} {s : State} {m : MethodId} {args : Array Value} {below : List Frame} {meth : Method} {c : Code} {w : hz_C} {N : Nat} (hN : 178 ≤ N) {b : Nat} (hB : hz_Own N b) {rE : Int32} {ME : hz_M} (hO : hz_Ok p s m args meth c w cL_isAs 6 RL (some .boolean)) (kk65 : Int32 → Int32 → Int32 → hz_M → hz_O) (gkk65 : ∀ (v2_5 : Int32) (v3_6 : Int32) (v4_7 : Int32) (M : hz_M), kk65 v2_5 v3_6 v4_7 M = some (rE, ME) → hz_G p l e 6 hz_z0 s m args below meth c w N 6 (MQ below (hz_Qi w N rE ME) args s 0 0 (hz_A w)) M 65 [(0, .ref (hz_ad w 0)), (1, .ref (hz_ad w b)), (2, .int v2_5), (3, .int v3_6), (4, .int v4_7)] []) : ∀ (n : Nat) (v2_266 : Int32) (v3_267 : Int32) (v4_268 : Int32) (v5_269 : Int32) (M270 : hz_M), f_L_isAs_L38 b kk65 n v2_266 v3_267 v4_268 v5_269 M270 = some (rE, ME) → hz_G p l e 6 hz_z0 s m args below meth c w N 6 (MQ below (hz_Qi w N rE ME) args s 0 0 (hz_A w)) M270 38 [(0, .ref (hz_ad w 0)), (1, .ref (hz_ad w b)), (2, .int v2_266), (3, .int v3_267), (4, .int v4_268), (5, .int v5_269)] [] := by
  intro n
  induction n with
  | zero =>
    intro v2_266 v3_267 v4_268 v5_269 M270 h
    rw [f_L_isAs_L38] at h
    cases h
  | succ n ih =>
    intro v2_266 v3_267 v4_268 v5_269 M270 h
    rw [f_L_isAs_L38] at h
    refine hz_iload hO dL_isAs_38 5 rfl ?_
    refine hz_aload_n hO dL_isAs_40 rfl 1 rfl ?_
    refine hz_getIN (k := 4) hO hz_K_11 hB.1 hB.2.1 rfl (Nat.le_of_ble_eq_true rfl) (List.mem_of_getElem? (i := 1) rfl) rfl dL_isAs_41 ?_
    refine hz_icmp_gt (tgt := 65) hO dL_isAs_44 (by decide) (fun hc271 => ?_) (fun hc271 => ?_)
    · rw [if_pos hc271] at h
      exact hz_ls [0, 1, 2, 3, 4] rfl (gkk65 v2_266 v3_267 v4_268 M270 h)
    · rw [if_neg hc271] at h
      refine hz_aload_n hO dL_isAs_47 rfl 0 rfl ?_
      refine hz_aload_n hO dL_isAs_48 rfl 1 rfl ?_
      refine hz_iload hO dL_isAs_49 5 rfl ?_
      obtain ⟨r272, M273, hq274, h⟩ := hz_ct_e h
      refine hz_callSi (as := [.ref (hz_ad w 0), .ref (hz_ad w b), .int v5_269]) (rest := []) hO (c_L_isStep l w hN hB v5_269 hq274) hz_cal_L_isStep tw_4_186 (Nat.le_of_ble_eq_true rfl) rfl rfl (Nat.le_of_ble_eq_true rfl) dL_isAs_51 ?_
      refine hz_if_ne (tgt := 59) hO dL_isAs_54 (by decide) (fun hc275 => ?_) (fun hc275 => ?_)
      · rw [if_neg hc275] at h
        obtain ⟨x276, h_x276, h⟩ := hz_lt_e h
        refine hz_iinc (k := 5) (v := x276) (ls1 := [(5, .int x276), (0, .ref (hz_ad w 0)), (1, .ref (hz_ad w b)), (2, .int v2_266), (3, .int v3_267), (4, .int v4_268)]) hO dL_isAs_59 rfl (by rw [h_x276]; rfl) (Nat.le_of_ble_eq_true rfl) rfl ?_
        refine hz_goto (tgt := 38) hO dL_isAs_62 (by decide) ?_
        exact hz_ls [1, 2, 3, 4, 5, 0] rfl (ih v2_266 v3_267 v4_268 x276 M273 h)
      · rw [if_pos hc275] at h
        refine hz_iconst (v := (0 : Int32)) hO dL_isAs_57 (by decide) ?_
        exact hz_nameM (hz_some_e h).2.symm (hz_name (hz_some_e h).1.symm (hz_zret hO (by rw [← (hz_some_e h).1]; decide) dL_isAs_58))
set_option maxRecDepth 100000 in
set_option maxHeartbeats 4000000 in
theorem g_L_isAs_L8 {p : Program} {l : Launch} {e : Env} {s : State} {m : MethodId} {args : Array Value} {below : List Frame} {meth : Method} {c : Code} {w : hz_C} {N : Nat} (hN : 178 ≤ N) {b : Nat} (hB : hz_Own N b) {rE : Int32} {ME : hz_M} (hO : hz_Ok p s m args meth c w cL_isAs 6 RL (some .boolean)) (kk35 : Int32 → Int32 → Int32 → hz_M → hz_O) (gkk35 : ∀ (v2_1 : Int32) (v3_2 : Int32) (v4_3 : Int32) (M : hz_M), kk35 v2_1 v3_2 v4_3 M = some (rE, ME) → hz_G p l e 6 hz_z0 s m args below meth c w N 6 (MQ below (hz_Qi w N rE ME) args s 0 0 (hz_A w)) M 35 [(0, .ref (hz_ad w 0)), (1, .ref (hz_ad w b)), (2, .int v2_1), (3, .int v3_2), (4, .int v4_3)] []) : ∀ (n : Nat) (v2_278 : Int32) (v3_279 : Int32) (v4_280 : Int32) (v5_281 : Int32) (M282 : hz_M), f_L_isAs_L8 b kk35 n v2_278 v3_279 v4_280 v5_281 M282 = some (rE, ME) → hz_G p l e 6 hz_z0 s m args below meth c w N 6 (MQ below (hz_Qi w N rE ME) args s 0 0 (hz_A w)) M282 8 [(0, .ref (hz_ad w 0)), (1, .ref (hz_ad w b)), (2, .int v2_278), (3, .int v3_279), (4, .int v4_280), (5, .int v5_281)] [] := by
  intro n
  induction n with
  | zero =>
    intro v2_278 v3_279 v4_280 v5_281 M282 h
    rw [f_L_isAs_L8] at h
    cases h
  | succ n ih =>
    intro v2_278 v3_279 v4_280 v5_281 M282 h
    rw [f_L_isAs_L8] at h
    refine hz_iload hO dL_isAs_8 5 rfl ?_
    refine hz_aload_n hO dL_isAs_10 rfl 1 rfl ?_
    refine hz_getIN (k := 10) hO hz_K_11 hB.1 hB.2.1 rfl (Nat.le_of_ble_eq_true rfl) (List.mem_of_getElem? (i := 8) rfl) rfl dL_isAs_11 ?_
    refine hz_icmp_ge (tgt := 35) hO dL_isAs_14 (by decide) (fun hc283 => ?_) (fun hc283 => ?_)
    · rw [if_pos hc283] at h
      exact hz_ls [0, 1, 2, 3, 4] rfl (gkk35 v2_278 v3_279 v4_280 M282 h)
    · rw [if_neg hc283] at h
      refine hz_aload_n hO dL_isAs_17 rfl 0 rfl ?_
      refine hz_aload_n hO dL_isAs_18 rfl 1 rfl ?_
      refine hz_iload hO dL_isAs_19 5 rfl ?_
      obtain ⟨r284, M285, hq286, h⟩ := hz_ct_e h
      refine hz_callSi (as := [.ref (hz_ad w 0), .ref (hz_ad w b), .int v5_281]) (rest := []) hO (c_L_isGuest l w hN hB v5_281 hq286) hz_cal_L_isGuest tw_4_50 (Nat.le_of_ble_eq_true rfl) rfl rfl (Nat.le_of_ble_eq_true rfl) dL_isAs_21 ?_
      refine hz_if_ne (tgt := 29) hO dL_isAs_24 (by decide) (fun hc287 => ?_) (fun hc287 => ?_)
      · rw [if_neg hc287] at h
        obtain ⟨x288, h_x288, h⟩ := hz_lt_e h
        refine hz_iinc (k := 5) (v := x288) (ls1 := [(5, .int x288), (0, .ref (hz_ad w 0)), (1, .ref (hz_ad w b)), (2, .int v2_278), (3, .int v3_279), (4, .int v4_280)]) hO dL_isAs_29 rfl (by rw [h_x288]; rfl) (Nat.le_of_ble_eq_true rfl) rfl ?_
        refine hz_goto (tgt := 8) hO dL_isAs_32 (by decide) ?_
        exact hz_ls [1, 2, 3, 4, 5, 0] rfl (ih v2_278 v3_279 v4_280 x288 M285 h)
      · rw [if_pos hc287] at h
        refine hz_iconst (v := (0 : Int32)) hO dL_isAs_27 (by decide) ?_
        exact hz_nameM (hz_some_e h).2.symm (hz_name (hz_some_e h).1.symm (hz_zret hO (by rw [← (hz_some_e h).1]; decide) dL_isAs_28))
set_option maxRecDepth 100000 in
set_option maxHeartbeats 4000000 in
theorem c_L_isAs (l : Launch) (w : hz_C) {N : Nat} (hN : 178 ≤ N) {b : Nat} (hB : hz_Own N b) (a2 : Int32) {M : hz_M} {rE : Int32} {ME : hz_M} (h : f_L_isAs b a2 M = some (rE, ME)) : hz_Ct l yL_isAs cL_isAs 6 (some .boolean) 6 w N [.ref (hz_ad w 0), .ref (hz_ad w b), .int a2] M (hz_Qi w N rE ME) := by
  refine hz_ofW (by decide) rfl (Nat.le_of_ble_eq_true rfl) tw_4_49 ?_
  intro p e s m args below meth c hO
  show hz_G p l e 6 hz_z0 s m args below meth c w N 6 _ M 0 [(0, .ref (hz_ad w 0)), (1, .ref (hz_ad w b)), (2, .int a2)] []
  unfold f_L_isAs at h
  refine hz_iconst (v := (0 : Int32)) hO dL_isAs_0 (by decide) ?_
  refine hz_istore_n (ls1 := [(3, .int (0 : Int32)), (0, .ref (hz_ad w 0)), (1, .ref (hz_ad w b)), (2, .int a2)]) hO dL_isAs_1 rfl (Nat.le_of_ble_eq_true rfl) rfl ?_
  refine hz_iconst (v := (0 : Int32)) hO dL_isAs_2 (by decide) ?_
  refine hz_istore (ls1 := [(4, .int (0 : Int32)), (3, .int (0 : Int32)), (0, .ref (hz_ad w 0)), (1, .ref (hz_ad w b)), (2, .int a2)]) hO dL_isAs_3 (Nat.le_of_ble_eq_true rfl) rfl ?_
  refine hz_iconst (v := (0 : Int32)) hO dL_isAs_5 (by decide) ?_
  refine hz_istore (ls1 := [(5, .int (0 : Int32)), (4, .int (0 : Int32)), (3, .int (0 : Int32)), (0, .ref (hz_ad w 0)), (1, .ref (hz_ad w b)), (2, .int a2)]) hO dL_isAs_6 (Nat.le_of_ble_eq_true rfl) rfl ?_
  obtain ⟨k277, hk277, h⟩ := hz_jn_e h
  have gk277 : ∀ (v2_1 : Int32) (v3_2 : Int32) (v4_3 : Int32) (M4 : hz_M), k277 v2_1 v3_2 v4_3 M4 = some (rE, ME) → hz_G p l e 6 hz_z0 s m args below meth c w N 6 (MQ below (hz_Qi w N rE ME) args s 0 0 (hz_A w)) M4 35 [(0, .ref (hz_ad w 0)), (1, .ref (hz_ad w b)), (2, .int v2_1), (3, .int v3_2), (4, .int v4_3)] [] := by
    intro v2_1 v3_2 v4_3 M4 h
    rw [hk277] at h
    dsimp only at h
    refine hz_iconst (v := (1 : Int32)) hO dL_isAs_35 (by decide) ?_
    refine hz_istore (ls1 := [(5, .int (1 : Int32)), (0, .ref (hz_ad w 0)), (1, .ref (hz_ad w b)), (2, .int v2_1), (3, .int v3_2), (4, .int v4_3)]) hO dL_isAs_36 (Nat.le_of_ble_eq_true rfl) rfl ?_
    obtain ⟨k265, hk265, h⟩ := hz_jn_e h
    have gk265 : ∀ (v2_5 : Int32) (v3_6 : Int32) (v4_7 : Int32) (M8 : hz_M), k265 v2_5 v3_6 v4_7 M8 = some (rE, ME) → hz_G p l e 6 hz_z0 s m args below meth c w N 6 (MQ below (hz_Qi w N rE ME) args s 0 0 (hz_A w)) M8 65 [(0, .ref (hz_ad w 0)), (1, .ref (hz_ad w b)), (2, .int v2_5), (3, .int v3_6), (4, .int v4_7)] [] := by
      intro v2_5 v3_6 v4_7 M8 h
      rw [hk265] at h
      dsimp only at h
      refine hz_iconst (v := (0 : Int32)) hO dL_isAs_65 (by decide) ?_
      refine hz_istore (ls1 := [(5, .int (0 : Int32)), (0, .ref (hz_ad w 0)), (1, .ref (hz_ad w b)), (2, .int v2_5), (3, .int v3_6), (4, .int v4_7)]) hO dL_isAs_66 (Nat.le_of_ble_eq_true rfl) rfl ?_
      obtain ⟨k208, hk208, h⟩ := hz_jn_e h
      have gk208 : ∀ (v2_9 : Int32) (v3_10 : Int32) (v4_11 : Int32) (M12 : hz_M), k208 v2_9 v3_10 v4_11 M12 = some (rE, ME) → hz_G p l e 6 hz_z0 s m args below meth c w N 6 (MQ below (hz_Qi w N rE ME) args s 0 0 (hz_A w)) M12 187 [(0, .ref (hz_ad w 0)), (1, .ref (hz_ad w b)), (2, .int v2_9), (3, .int v3_10), (4, .int v4_11)] [] := by
        intro v2_9 v3_10 v4_11 M12 h
        rw [hk208] at h
        dsimp only at h
        refine hz_iconst (v := (0 : Int32)) hO dL_isAs_187 (by decide) ?_
        refine hz_istore (ls1 := [(5, .int (0 : Int32)), (0, .ref (hz_ad w 0)), (1, .ref (hz_ad w b)), (2, .int v2_9), (3, .int v3_10), (4, .int v4_11)]) hO dL_isAs_188 (Nat.le_of_ble_eq_true rfl) rfl ?_
        obtain ⟨k195, hk195, h⟩ := hz_jn_e h
        have gk195 : ∀ (v2_13 : Int32) (v3_14 : Int32) (v4_15 : Int32) (M16 : hz_M), k195 v2_13 v3_14 v4_15 M16 = some (rE, ME) → hz_G p l e 6 hz_z0 s m args below meth c w N 6 (MQ below (hz_Qi w N rE ME) args s 0 0 (hz_A w)) M16 223 [(0, .ref (hz_ad w 0)), (1, .ref (hz_ad w b)), (2, .int v2_13), (3, .int v3_14), (4, .int v4_15)] [] := by
          intro v2_13 v3_14 v4_15 M16 h
          rw [hk195] at h
          dsimp only at h
          refine hz_iconst (v := (0 : Int32)) hO dL_isAs_223 (by decide) ?_
          refine hz_istore (ls1 := [(5, .int (0 : Int32)), (0, .ref (hz_ad w 0)), (1, .ref (hz_ad w b)), (2, .int v2_13), (3, .int v3_14), (4, .int v4_15)]) hO dL_isAs_224 (Nat.le_of_ble_eq_true rfl) rfl ?_
          obtain ⟨k182, hk182, h⟩ := hz_jn_e h
          have gk182 : ∀ (v2_17 : Int32) (v3_18 : Int32) (v4_19 : Int32) (M20 : hz_M), k182 v2_17 v3_18 v4_19 M20 = some (rE, ME) → hz_G p l e 6 hz_z0 s m args below meth c w N 6 (MQ below (hz_Qi w N rE ME) args s 0 0 (hz_A w)) M20 259 [(0, .ref (hz_ad w 0)), (1, .ref (hz_ad w b)), (2, .int v2_17), (3, .int v3_18), (4, .int v4_19)] [] := by
            intro v2_17 v3_18 v4_19 M20 h
            rw [hk182] at h
            dsimp only at h
            refine hz_iconst (v := (0 : Int32)) hO dL_isAs_259 (by decide) ?_
            refine hz_istore (ls1 := [(5, .int (0 : Int32)), (0, .ref (hz_ad w 0)), (1, .ref (hz_ad w b)), (2, .int v2_17), (3, .int v3_18), (4, .int v4_19)]) hO dL_isAs_260 (Nat.le_of_ble_eq_true rfl) rfl ?_
            obtain ⟨k169, hk169, h⟩ := hz_jn_e h
            have gk169 : ∀ (v2_21 : Int32) (v3_22 : Int32) (v4_23 : Int32) (M24 : hz_M), k169 v2_21 v3_22 v4_23 M24 = some (rE, ME) → hz_G p l e 6 hz_z0 s m args below meth c w N 6 (MQ below (hz_Qi w N rE ME) args s 0 0 (hz_A w)) M24 295 [(0, .ref (hz_ad w 0)), (1, .ref (hz_ad w b)), (2, .int v2_21), (3, .int v3_22), (4, .int v4_23)] [] := by
              intro v2_21 v3_22 v4_23 M24 h
              rw [hk169] at h
              dsimp only at h
              refine hz_iconst (v := (0 : Int32)) hO dL_isAs_295 (by decide) ?_
              refine hz_istore (ls1 := [(5, .int (0 : Int32)), (0, .ref (hz_ad w 0)), (1, .ref (hz_ad w b)), (2, .int v2_21), (3, .int v3_22), (4, .int v4_23)]) hO dL_isAs_296 (Nat.le_of_ble_eq_true rfl) rfl ?_
              obtain ⟨k156, hk156, h⟩ := hz_jn_e h
              have gk156 : ∀ (v2_25 : Int32) (v3_26 : Int32) (v4_27 : Int32) (M28 : hz_M), k156 v2_25 v3_26 v4_27 M28 = some (rE, ME) → hz_G p l e 6 hz_z0 s m args below meth c w N 6 (MQ below (hz_Qi w N rE ME) args s 0 0 (hz_A w)) M28 329 [(0, .ref (hz_ad w 0)), (1, .ref (hz_ad w b)), (2, .int v2_25), (3, .int v3_26), (4, .int v4_27)] [] := by
                intro v2_25 v3_26 v4_27 M28 h
                rw [hk156] at h
                dsimp only at h
                refine hz_aload_n hO dL_isAs_329 rfl 0 rfl ?_
                refine hz_iconst (v := (0 : Int32)) hO dL_isAs_330 (by decide) ?_
                obtain ⟨r29, M30, hq31, h⟩ := hz_ct_e h
                refine hz_callVi (as := [.int (0 : Int32)]) (rest := []) hO (c_X10_size l w hN (0 : Int32) hq31) hz_cal_X10_size hz_K_10 hz_sh_0 (hz_lt_0 hN) tw_3_60 (Nat.le_of_ble_eq_true rfl) rfl rfl (Nat.le_of_ble_eq_true rfl) dL_isAs_331 ?_
                refine hz_aload_n hO dL_isAs_334 rfl 1 rfl ?_
                refine hz_getIN (k := 10) hO hz_K_11 hB.1 hB.2.1 rfl (Nat.le_of_ble_eq_true rfl) (List.mem_of_getElem? (i := 8) rfl) rfl dL_isAs_335 ?_
                obtain ⟨k68, hk68, h⟩ := hz_jn_e h
                have gk68 : ∀ (v2_32 : Int32) (v4_33 : Int32) (q34 : Int32) (M35 : hz_M), k68 v2_32 v4_33 q34 M35 = some (rE, ME) → hz_G p l e 6 hz_z0 s m args below meth c w N 6 (MQ below (hz_Qi w N rE ME) args s 0 0 (hz_A w)) M35 552 [(0, .ref (hz_ad w 0)), (1, .ref (hz_ad w b)), (2, .int v2_32), (4, .int v4_33)] [.int q34] := by
                  intro v2_32 v4_33 q34 M35 h
                  rw [hk68] at h
                  dsimp only at h
                  refine hz_istore (ls1 := [(5, .int q34), (0, .ref (hz_ad w 0)), (1, .ref (hz_ad w b)), (2, .int v2_32), (4, .int v4_33)]) hO dL_isAs_552 (Nat.le_of_ble_eq_true rfl) rfl ?_
                  refine hz_iload hO dL_isAs_554 0 rfl ?_
                  refine hz_if_eq (tgt := 637) hO dL_isAs_556 (by decide) (fun hc36 => ?_) (fun hc36 => ?_)
                  · rw [if_pos hc36] at h
                    refine hz_iconst (v := (0 : Int32)) hO dL_isAs_637 (by decide) ?_
                    exact hz_nameM (hz_some_e h).2.symm (hz_name (hz_some_e h).1.symm (hz_zret hO (by rw [← (hz_some_e h).1]; decide) dL_isAs_638))
                  · rw [if_neg hc36] at h
                    refine hz_aload_n hO dL_isAs_559 rfl 1 rfl ?_
                    obtain ⟨r37, M38, hq39, h⟩ := hz_ct_e h
                    refine hz_callVi (as := []) (rest := []) hO (c_X10_driest l w hN hq39) hz_cal_X10_driest hz_K_10 hz_sh_0 (hz_lt_0 hN) tw_5_26 (Nat.le_of_ble_eq_true rfl) rfl rfl (Nat.le_of_ble_eq_true rfl) dL_isAs_560 ?_
                    refine hz_aload_n hO dL_isAs_563 rfl 2 rfl ?_
                    obtain ⟨r40, M41, hq42, h⟩ := hz_ct_e h
                    refine hz_callVi (as := []) (rest := [.int r37]) hO (c_X11_driest l w hN hB hq42) hz_cal_X11_driest hz_K_11 hB.1 hB.2.1 tw_5_31 (Nat.le_of_ble_eq_true rfl) rfl rfl (Nat.le_of_ble_eq_true rfl) dL_isAs_564 ?_
                    refine hz_icmp_ne (tgt := 637) hO dL_isAs_567 (by decide) (fun hc43 => ?_) (fun hc43 => ?_)
                    · rw [if_neg hc43] at h
                      refine hz_iconst (v := (0 : Int32)) hO dL_isAs_637 (by decide) ?_
                      exact hz_nameM (hz_some_e h).2.symm (hz_name (hz_some_e h).1.symm (hz_zret hO (by rw [← (hz_some_e h).1]; decide) dL_isAs_638))
                    · rw [if_pos hc43] at h
                      refine hz_aload_n hO dL_isAs_570 rfl 1 rfl ?_
                      refine hz_bipush (v := (9 : Int32)) hO dL_isAs_571 (by decide) ?_
                      obtain ⟨r44, M45, hq46, h⟩ := hz_ct_e h
                      refine hz_callVi (as := [.int (9 : Int32)]) (rest := []) hO (c_X10_account l w hN (9 : Int32) hq46) hz_cal_X10_account hz_K_10 hz_sh_0 (hz_lt_0 hN) tw_5_17 (Nat.le_of_ble_eq_true rfl) rfl rfl (Nat.le_of_ble_eq_true rfl) dL_isAs_573 ?_
                      refine hz_iload_n hO dL_isAs_576 rfl 3 rfl ?_
                      refine hz_icmp_ne (tgt := 637) hO dL_isAs_577 (by decide) (fun hc47 => ?_) (fun hc47 => ?_)
                      · rw [if_neg hc47] at h
                        refine hz_iconst (v := (0 : Int32)) hO dL_isAs_637 (by decide) ?_
                        exact hz_nameM (hz_some_e h).2.symm (hz_name (hz_some_e h).1.symm (hz_zret hO (by rw [← (hz_some_e h).1]; decide) dL_isAs_638))
                      · rw [if_pos hc47] at h
                        refine hz_aload_n hO dL_isAs_580 rfl 1 rfl ?_
                        obtain ⟨r48, M49, hq50, h⟩ := hz_ct_e h
                        refine hz_callVi (as := []) (rest := []) hO (c_X10_gap l w hN hq50) hz_cal_X10_gap hz_K_10 hz_sh_0 (hz_lt_0 hN) tw_5_32 (Nat.le_of_ble_eq_true rfl) rfl rfl (Nat.le_of_ble_eq_true rfl) dL_isAs_581 ?_
                        refine hz_if_ne (tgt := 637) hO dL_isAs_584 (by decide) (fun hc51 => ?_) (fun hc51 => ?_)
                        · rw [if_neg hc51] at h
                          refine hz_iconst (v := (0 : Int32)) hO dL_isAs_637 (by decide) ?_
                          exact hz_nameM (hz_some_e h).2.symm (hz_name (hz_some_e h).1.symm (hz_zret hO (by rw [← (hz_some_e h).1]; decide) dL_isAs_638))
                        · rw [if_pos hc51] at h
                          refine hz_aload_n hO dL_isAs_587 rfl 1 rfl ?_
                          obtain ⟨r52, M53, hq54, h⟩ := hz_ct_e h
                          refine hz_callVd (as := []) (rest := []) hO (c_X10_meanWet l w hN hq54) hz_cal_X10_meanWet hz_K_10 hz_sh_0 (hz_lt_0 hN) tw_5_52 (Nat.le_of_ble_eq_true rfl) rfl rfl (Nat.le_of_ble_eq_true rfl) dL_isAs_588 ?_
                          refine hz_aload_n hO dL_isAs_591 rfl 2 rfl ?_
                          refine hz_getIN (k := 2) hO hz_K_11 hB.1 hB.2.1 rfl (Nat.le_of_ble_eq_true rfl) (List.mem_of_getElem? (i := 10) rfl) rfl dL_isAs_592 ?_
                          obtain ⟨k65, hk65, h⟩ := hz_jn_e h
                          have gk65 : ∀ (q55 : UInt64) (q56 : UInt64) (M57 : hz_M), k65 q55 q56 M57 = some (rE, ME) → hz_G p l e 6 hz_z0 s m args below meth c w N 6 (MQ below (hz_Qi w N rE ME) args s 0 0 (hz_A w)) M57 611 [(0, .ref (hz_ad w 0)), (1, .ref (hz_ad w b))] [.double q55, .double q56] := by
                            intro q55 q56 M57 h
                            rw [hk65] at h
                            dsimp only at h
                            refine hz_dcmp hO dL_isAs_611 ?_
                            refine hz_if_ne (tgt := 637) hO dL_isAs_612 (by decide) (fun hc58 => ?_) (fun hc58 => ?_)
                            · rw [if_neg hc58] at h
                              refine hz_iconst (v := (0 : Int32)) hO dL_isAs_637 (by decide) ?_
                              exact hz_nameM (hz_some_e h).2.symm (hz_name (hz_some_e h).1.symm (hz_zret hO (by rw [← (hz_some_e h).1]; decide) dL_isAs_638))
                            · rw [if_pos hc58] at h
                              refine hz_aload_n hO dL_isAs_615 rfl 0 rfl ?_
                              obtain ⟨r59, M60, hq61, h⟩ := hz_ct_e h
                              refine hz_callVi (as := []) (rest := []) hO (c_X10_heatBits l w hN hq61) hz_cal_X10_heatBits hz_K_10 hz_sh_0 (hz_lt_0 hN) tw_5_60 (Nat.le_of_ble_eq_true rfl) rfl rfl (Nat.le_of_ble_eq_true rfl) dL_isAs_616 ?_
                              refine hz_aload_n hO dL_isAs_619 rfl 1 rfl ?_
                              refine hz_getIN (k := 9) hO hz_K_11 hB.1 hB.2.1 rfl (Nat.le_of_ble_eq_true rfl) (List.mem_of_getElem? (i := 9) rfl) rfl dL_isAs_620 ?_
                              refine hz_i2f hO dL_isAs_623 ?_
                              refine hz_ldcF hO tw_5_69 dL_isAs_624 ?_
                              obtain ⟨hg62, h⟩ := hz_gd_e h
                              refine hz_fdiv hO dL_isAs_626 hg62 ?_
                              obtain ⟨hg63, h⟩ := hz_gd_e h
                              refine hz_callSi (as := [.float (FP.fdiv (FP.i2f (M60 b 9)) (1120403456 : UInt32))]) (rest := [.int r59]) hO (c_f2ib l w hg63) hz_cal_f2ib tw_5_70 (Nat.le_of_ble_eq_true rfl) rfl rfl (Nat.le_of_ble_eq_true rfl) dL_isAs_627 ?_
                              refine hz_icmp_ne (tgt := 637) hO dL_isAs_630 (by decide) (fun hc64 => ?_) (fun hc64 => ?_)
                              · rw [if_neg hc64] at h
                                refine hz_iconst (v := (0 : Int32)) hO dL_isAs_637 (by decide) ?_
                                exact hz_nameM (hz_some_e h).2.symm (hz_name (hz_some_e h).1.symm (hz_zret hO (by rw [← (hz_some_e h).1]; decide) dL_isAs_638))
                              · rw [if_pos hc64] at h
                                refine hz_iconst (v := (1 : Int32)) hO dL_isAs_633 (by decide) ?_
                                refine hz_goto (tgt := 638) hO dL_isAs_634 (by decide) ?_
                                exact hz_nameM (hz_some_e h).2.symm (hz_name (hz_some_e h).1.symm (hz_zret hO (by rw [← (hz_some_e h).1]; decide) dL_isAs_638))
                          clear hk65
                          refine hz_if_ne (tgt := 602) hO dL_isAs_595 (by decide) (fun hc66 => ?_) (fun hc66 => ?_)
                          · rw [if_neg hc66] at h
                            refine hz_iload hO dL_isAs_602 4 rfl ?_
                            refine hz_i2d hO dL_isAs_604 ?_
                            refine hz_aload_n hO dL_isAs_605 rfl 2 rfl ?_
                            refine hz_getIN (k := 2) hO hz_K_11 hB.1 hB.2.1 rfl (Nat.le_of_ble_eq_true rfl) (List.mem_of_getElem? (i := 10) rfl) rfl dL_isAs_606 ?_
                            refine hz_i2d hO dL_isAs_609 ?_
                            obtain ⟨hg67, h⟩ := hz_gd_e h
                            refine hz_ddiv hO dL_isAs_610 hg67 ?_
                            exact hz_ls [1, 2] rfl (gk65 (FP.ddiv (FP.i2d v4_33) (FP.i2d (M53 b 2))) (hz_dd r52) M53 h)
                          · rw [if_pos hc66] at h
                            refine hz_dconst0 hO dL_isAs_598 ?_
                            refine hz_goto (tgt := 611) hO dL_isAs_599 (by decide) ?_
                            exact hz_ls [1, 2] rfl (gk65 FP.dconst0 (hz_dd r52) M53 h)
                clear hk68
                obtain ⟨k72, hk72, h⟩ := hz_jn_e h
                have gk72 : ∀ (v2_69 : Int32) (v4_70 : Int32) (M71 : hz_M), k72 v2_69 v4_70 M71 = some (rE, ME) → hz_G p l e 6 hz_z0 s m args below meth c w N 6 (MQ below (hz_Qi w N rE ME) args s 0 0 (hz_A w)) M71 551 [(0, .ref (hz_ad w 0)), (1, .ref (hz_ad w b)), (2, .int v2_69), (4, .int v4_70)] [] := by
                  intro v2_69 v4_70 M71 h
                  rw [hk72] at h
                  dsimp only at h
                  refine hz_iconst (v := (0 : Int32)) hO dL_isAs_551 (by decide) ?_
                  exact hz_ls [0, 1, 2, 3] rfl (gk68 v2_69 v4_70 (0 : Int32) M71 h)
                clear hk72
                refine hz_icmp_ne (tgt := 551) hO dL_isAs_338 (by decide) (fun hc73 => ?_) (fun hc73 => ?_)
                · rw [if_neg hc73] at h
                  exact hz_ls [0, 1, 2, 4] rfl (gk72 v2_25 v4_27 M30 h)
                · rw [if_pos hc73] at h
                  refine hz_aload_n hO dL_isAs_341 rfl 0 rfl ?_
                  refine hz_iconst (v := (1 : Int32)) hO dL_isAs_342 (by decide) ?_
                  obtain ⟨r74, M75, hq76, h⟩ := hz_ct_e h
                  refine hz_callVi (as := [.int (1 : Int32)]) (rest := []) hO (c_X10_size l w hN (1 : Int32) hq76) hz_cal_X10_size hz_K_10 hz_sh_0 (hz_lt_0 hN) tw_3_60 (Nat.le_of_ble_eq_true rfl) rfl rfl (Nat.le_of_ble_eq_true rfl) dL_isAs_343 ?_
                  refine hz_aload_n hO dL_isAs_346 rfl 1 rfl ?_
                  refine hz_getIN (k := 0) hO hz_K_11 hB.1 hB.2.1 rfl (Nat.le_of_ble_eq_true rfl) (List.mem_of_getElem? (i := 13) rfl) rfl dL_isAs_347 ?_
                  refine hz_icmp_ne (tgt := 551) hO dL_isAs_350 (by decide) (fun hc77 => ?_) (fun hc77 => ?_)
                  · rw [if_neg hc77] at h
                    exact hz_ls [0, 1, 2, 4] rfl (gk72 v2_25 v4_27 M75 h)
                  · rw [if_pos hc77] at h
                    refine hz_aload_n hO dL_isAs_353 rfl 0 rfl ?_
                    refine hz_iconst (v := (2 : Int32)) hO dL_isAs_354 (by decide) ?_
                    obtain ⟨r78, M79, hq80, h⟩ := hz_ct_e h
                    refine hz_callVi (as := [.int (2 : Int32)]) (rest := []) hO (c_X10_size l w hN (2 : Int32) hq80) hz_cal_X10_size hz_K_10 hz_sh_0 (hz_lt_0 hN) tw_3_60 (Nat.le_of_ble_eq_true rfl) rfl rfl (Nat.le_of_ble_eq_true rfl) dL_isAs_355 ?_
                    refine hz_aload_n hO dL_isAs_358 rfl 1 rfl ?_
                    refine hz_getIN (k := 1) hO hz_K_11 hB.1 hB.2.1 rfl (Nat.le_of_ble_eq_true rfl) (List.mem_of_getElem? (i := 0) rfl) rfl dL_isAs_359 ?_
                    refine hz_icmp_ne (tgt := 551) hO dL_isAs_362 (by decide) (fun hc81 => ?_) (fun hc81 => ?_)
                    · rw [if_neg hc81] at h
                      exact hz_ls [0, 1, 2, 4] rfl (gk72 v2_25 v4_27 M79 h)
                    · rw [if_pos hc81] at h
                      refine hz_aload_n hO dL_isAs_365 rfl 0 rfl ?_
                      refine hz_iconst (v := (3 : Int32)) hO dL_isAs_366 (by decide) ?_
                      obtain ⟨r82, M83, hq84, h⟩ := hz_ct_e h
                      refine hz_callVi (as := [.int (3 : Int32)]) (rest := []) hO (c_X10_size l w hN (3 : Int32) hq84) hz_cal_X10_size hz_K_10 hz_sh_0 (hz_lt_0 hN) tw_3_60 (Nat.le_of_ble_eq_true rfl) rfl rfl (Nat.le_of_ble_eq_true rfl) dL_isAs_367 ?_
                      refine hz_aload_n hO dL_isAs_370 rfl 1 rfl ?_
                      refine hz_getIN (k := 2) hO hz_K_11 hB.1 hB.2.1 rfl (Nat.le_of_ble_eq_true rfl) (List.mem_of_getElem? (i := 10) rfl) rfl dL_isAs_371 ?_
                      refine hz_icmp_ne (tgt := 551) hO dL_isAs_374 (by decide) (fun hc85 => ?_) (fun hc85 => ?_)
                      · rw [if_neg hc85] at h
                        exact hz_ls [0, 1, 2, 4] rfl (gk72 v2_25 v4_27 M83 h)
                      · rw [if_pos hc85] at h
                        refine hz_aload_n hO dL_isAs_377 rfl 0 rfl ?_
                        refine hz_iconst (v := (4 : Int32)) hO dL_isAs_378 (by decide) ?_
                        obtain ⟨r86, M87, hq88, h⟩ := hz_ct_e h
                        refine hz_callVi (as := [.int (4 : Int32)]) (rest := []) hO (c_X10_size l w hN (4 : Int32) hq88) hz_cal_X10_size hz_K_10 hz_sh_0 (hz_lt_0 hN) tw_3_60 (Nat.le_of_ble_eq_true rfl) rfl rfl (Nat.le_of_ble_eq_true rfl) dL_isAs_379 ?_
                        refine hz_aload_n hO dL_isAs_382 rfl 1 rfl ?_
                        refine hz_getIN (k := 3) hO hz_K_11 hB.1 hB.2.1 rfl (Nat.le_of_ble_eq_true rfl) (List.mem_of_getElem? (i := 15) rfl) rfl dL_isAs_383 ?_
                        refine hz_icmp_ne (tgt := 551) hO dL_isAs_386 (by decide) (fun hc89 => ?_) (fun hc89 => ?_)
                        · rw [if_neg hc89] at h
                          exact hz_ls [0, 1, 2, 4] rfl (gk72 v2_25 v4_27 M87 h)
                        · rw [if_pos hc89] at h
                          refine hz_aload_n hO dL_isAs_389 rfl 0 rfl ?_
                          refine hz_iconst (v := (5 : Int32)) hO dL_isAs_390 (by decide) ?_
                          obtain ⟨r90, M91, hq92, h⟩ := hz_ct_e h
                          refine hz_callVi (as := [.int (5 : Int32)]) (rest := []) hO (c_X10_size l w hN (5 : Int32) hq92) hz_cal_X10_size hz_K_10 hz_sh_0 (hz_lt_0 hN) tw_3_60 (Nat.le_of_ble_eq_true rfl) rfl rfl (Nat.le_of_ble_eq_true rfl) dL_isAs_391 ?_
                          refine hz_aload_n hO dL_isAs_394 rfl 1 rfl ?_
                          refine hz_getIN (k := 4) hO hz_K_11 hB.1 hB.2.1 rfl (Nat.le_of_ble_eq_true rfl) (List.mem_of_getElem? (i := 1) rfl) rfl dL_isAs_395 ?_
                          refine hz_icmp_ne (tgt := 551) hO dL_isAs_398 (by decide) (fun hc93 => ?_) (fun hc93 => ?_)
                          · rw [if_neg hc93] at h
                            exact hz_ls [0, 1, 2, 4] rfl (gk72 v2_25 v4_27 M91 h)
                          · rw [if_pos hc93] at h
                            refine hz_aload_n hO dL_isAs_401 rfl 0 rfl ?_
                            refine hz_bipush (v := (6 : Int32)) hO dL_isAs_402 (by decide) ?_
                            obtain ⟨r94, M95, hq96, h⟩ := hz_ct_e h
                            refine hz_callVi (as := [.int (6 : Int32)]) (rest := []) hO (c_X10_size l w hN (6 : Int32) hq96) hz_cal_X10_size hz_K_10 hz_sh_0 (hz_lt_0 hN) tw_3_60 (Nat.le_of_ble_eq_true rfl) rfl rfl (Nat.le_of_ble_eq_true rfl) dL_isAs_404 ?_
                            refine hz_aload_n hO dL_isAs_407 rfl 1 rfl ?_
                            refine hz_getIN (k := 5) hO hz_K_11 hB.1 hB.2.1 rfl (Nat.le_of_ble_eq_true rfl) (List.mem_of_getElem? (i := 18) rfl) rfl dL_isAs_408 ?_
                            refine hz_icmp_ne (tgt := 551) hO dL_isAs_411 (by decide) (fun hc97 => ?_) (fun hc97 => ?_)
                            · rw [if_neg hc97] at h
                              exact hz_ls [0, 1, 2, 4] rfl (gk72 v2_25 v4_27 M95 h)
                            · rw [if_pos hc97] at h
                              refine hz_aload_n hO dL_isAs_414 rfl 0 rfl ?_
                              refine hz_bipush (v := (7 : Int32)) hO dL_isAs_415 (by decide) ?_
                              obtain ⟨r98, M99, hq100, h⟩ := hz_ct_e h
                              refine hz_callVi (as := [.int (7 : Int32)]) (rest := []) hO (c_X10_size l w hN (7 : Int32) hq100) hz_cal_X10_size hz_K_10 hz_sh_0 (hz_lt_0 hN) tw_3_60 (Nat.le_of_ble_eq_true rfl) rfl rfl (Nat.le_of_ble_eq_true rfl) dL_isAs_417 ?_
                              refine hz_aload_n hO dL_isAs_420 rfl 1 rfl ?_
                              refine hz_getIN (k := 6) hO hz_K_11 hB.1 hB.2.1 rfl (Nat.le_of_ble_eq_true rfl) (List.mem_of_getElem? (i := 19) rfl) rfl dL_isAs_421 ?_
                              refine hz_icmp_ne (tgt := 551) hO dL_isAs_424 (by decide) (fun hc101 => ?_) (fun hc101 => ?_)
                              · rw [if_neg hc101] at h
                                exact hz_ls [0, 1, 2, 4] rfl (gk72 v2_25 v4_27 M99 h)
                              · rw [if_pos hc101] at h
                                refine hz_aload_n hO dL_isAs_427 rfl 0 rfl ?_
                                refine hz_bipush (v := (8 : Int32)) hO dL_isAs_428 (by decide) ?_
                                obtain ⟨r102, M103, hq104, h⟩ := hz_ct_e h
                                refine hz_callVi (as := [.int (8 : Int32)]) (rest := []) hO (c_X10_size l w hN (8 : Int32) hq104) hz_cal_X10_size hz_K_10 hz_sh_0 (hz_lt_0 hN) tw_3_60 (Nat.le_of_ble_eq_true rfl) rfl rfl (Nat.le_of_ble_eq_true rfl) dL_isAs_430 ?_
                                refine hz_aload_n hO dL_isAs_433 rfl 1 rfl ?_
                                refine hz_getIN (k := 7) hO hz_K_11 hB.1 hB.2.1 rfl (Nat.le_of_ble_eq_true rfl) (List.mem_of_getElem? (i := 20) rfl) rfl dL_isAs_434 ?_
                                refine hz_icmp_ne (tgt := 551) hO dL_isAs_437 (by decide) (fun hc105 => ?_) (fun hc105 => ?_)
                                · rw [if_neg hc105] at h
                                  exact hz_ls [0, 1, 2, 4] rfl (gk72 v2_25 v4_27 M103 h)
                                · rw [if_pos hc105] at h
                                  refine hz_aload_n hO dL_isAs_440 rfl 0 rfl ?_
                                  refine hz_bipush (v := (9 : Int32)) hO dL_isAs_441 (by decide) ?_
                                  obtain ⟨r106, M107, hq108, h⟩ := hz_ct_e h
                                  refine hz_callVi (as := [.int (9 : Int32)]) (rest := []) hO (c_X10_size l w hN (9 : Int32) hq108) hz_cal_X10_size hz_K_10 hz_sh_0 (hz_lt_0 hN) tw_3_60 (Nat.le_of_ble_eq_true rfl) rfl rfl (Nat.le_of_ble_eq_true rfl) dL_isAs_443 ?_
                                  refine hz_aload_n hO dL_isAs_446 rfl 1 rfl ?_
                                  refine hz_getIN (k := 8) hO hz_K_11 hB.1 hB.2.1 rfl (Nat.le_of_ble_eq_true rfl) (List.mem_of_getElem? (i := 21) rfl) rfl dL_isAs_447 ?_
                                  refine hz_icmp_ne (tgt := 551) hO dL_isAs_450 (by decide) (fun hc109 => ?_) (fun hc109 => ?_)
                                  · rw [if_neg hc109] at h
                                    exact hz_ls [0, 1, 2, 4] rfl (gk72 v2_25 v4_27 M107 h)
                                  · rw [if_pos hc109] at h
                                    refine hz_aload_n hO dL_isAs_453 rfl 0 rfl ?_
                                    refine hz_bipush (v := (10 : Int32)) hO dL_isAs_454 (by decide) ?_
                                    obtain ⟨r110, M111, hq112, h⟩ := hz_ct_e h
                                    refine hz_callVi (as := [.int (10 : Int32)]) (rest := []) hO (c_X10_size l w hN (10 : Int32) hq112) hz_cal_X10_size hz_K_10 hz_sh_0 (hz_lt_0 hN) tw_3_60 (Nat.le_of_ble_eq_true rfl) rfl rfl (Nat.le_of_ble_eq_true rfl) dL_isAs_456 ?_
                                    refine hz_aload_n hO dL_isAs_459 rfl 1 rfl ?_
                                    refine hz_getIN (k := 9) hO hz_K_11 hB.1 hB.2.1 rfl (Nat.le_of_ble_eq_true rfl) (List.mem_of_getElem? (i := 9) rfl) rfl dL_isAs_460 ?_
                                    refine hz_icmp_ne (tgt := 551) hO dL_isAs_463 (by decide) (fun hc113 => ?_) (fun hc113 => ?_)
                                    · rw [if_neg hc113] at h
                                      exact hz_ls [0, 1, 2, 4] rfl (gk72 v2_25 v4_27 M111 h)
                                    · rw [if_pos hc113] at h
                                      refine hz_aload_n hO dL_isAs_466 rfl 0 rfl ?_
                                      refine hz_bipush (v := (11 : Int32)) hO dL_isAs_467 (by decide) ?_
                                      obtain ⟨r114, M115, hq116, h⟩ := hz_ct_e h
                                      refine hz_callVi (as := [.int (11 : Int32)]) (rest := []) hO (c_X10_size l w hN (11 : Int32) hq116) hz_cal_X10_size hz_K_10 hz_sh_0 (hz_lt_0 hN) tw_3_60 (Nat.le_of_ble_eq_true rfl) rfl rfl (Nat.le_of_ble_eq_true rfl) dL_isAs_469 ?_
                                      refine hz_aload_n hO dL_isAs_472 rfl 1 rfl ?_
                                      obtain ⟨r117, M118, hq119, h⟩ := hz_ct_e h
                                      refine hz_callVi (as := []) (rest := [.int r114]) hO (c_X11_inside l w hN hB hq119) hz_cal_X11_inside hz_K_11 hB.1 hB.2.1 tw_5_21 (Nat.le_of_ble_eq_true rfl) rfl rfl (Nat.le_of_ble_eq_true rfl) dL_isAs_473 ?_
                                      refine hz_icmp_ne (tgt := 551) hO dL_isAs_476 (by decide) (fun hc120 => ?_) (fun hc120 => ?_)
                                      · rw [if_neg hc120] at h
                                        exact hz_ls [0, 1, 2, 4] rfl (gk72 v2_25 v4_27 M118 h)
                                      · rw [if_pos hc120] at h
                                        refine hz_aload_n hO dL_isAs_479 rfl 0 rfl ?_
                                        refine hz_bipush (v := (12 : Int32)) hO dL_isAs_480 (by decide) ?_
                                        obtain ⟨r121, M122, hq123, h⟩ := hz_ct_e h
                                        refine hz_callVi (as := [.int (12 : Int32)]) (rest := []) hO (c_X10_size l w hN (12 : Int32) hq123) hz_cal_X10_size hz_K_10 hz_sh_0 (hz_lt_0 hN) tw_3_60 (Nat.le_of_ble_eq_true rfl) rfl rfl (Nat.le_of_ble_eq_true rfl) dL_isAs_482 ?_
                                        refine hz_aload_n hO dL_isAs_485 rfl 1 rfl ?_
                                        obtain ⟨r124, M125, hq126, h⟩ := hz_ct_e h
                                        refine hz_callVi (as := []) (rest := [.int r121]) hO (c_X11_inside l w hN hB hq126) hz_cal_X11_inside hz_K_11 hB.1 hB.2.1 tw_5_21 (Nat.le_of_ble_eq_true rfl) rfl rfl (Nat.le_of_ble_eq_true rfl) dL_isAs_486 ?_
                                        refine hz_aload_n hO dL_isAs_489 rfl 1 rfl ?_
                                        refine hz_iconst (v := (0 : Int32)) hO dL_isAs_490 (by decide) ?_
                                        obtain ⟨r127, M128, hq129, h⟩ := hz_ct_e h
                                        refine hz_callVi (as := [.int (0 : Int32)]) (rest := [.int r124, .int r121]) hO (c_X11_on l w hN hB (0 : Int32) hq129) hz_cal_X11_on hz_K_11 hB.1 hB.2.1 tw_4_211 (Nat.le_of_ble_eq_true rfl) rfl rfl (Nat.le_of_ble_eq_true rfl) dL_isAs_491 ?_
                                        refine hz_isub hO dL_isAs_494 ?_
                                        refine hz_icmp_ne (tgt := 551) hO dL_isAs_495 (by decide) (fun hc130 => ?_) (fun hc130 => ?_)
                                        · rw [if_neg hc130] at h
                                          exact hz_ls [0, 1, 2, 4] rfl (gk72 v2_25 v4_27 M128 h)
                                        · rw [if_pos hc130] at h
                                          refine hz_aload_n hO dL_isAs_498 rfl 0 rfl ?_
                                          refine hz_bipush (v := (13 : Int32)) hO dL_isAs_499 (by decide) ?_
                                          obtain ⟨r131, M132, hq133, h⟩ := hz_ct_e h
                                          refine hz_callVi (as := [.int (13 : Int32)]) (rest := []) hO (c_X10_size l w hN (13 : Int32) hq133) hz_cal_X10_size hz_K_10 hz_sh_0 (hz_lt_0 hN) tw_3_60 (Nat.le_of_ble_eq_true rfl) rfl rfl (Nat.le_of_ble_eq_true rfl) dL_isAs_501 ?_
                                          refine hz_iload_n hO dL_isAs_504 rfl 3 rfl ?_
                                          refine hz_icmp_ne (tgt := 551) hO dL_isAs_505 (by decide) (fun hc134 => ?_) (fun hc134 => ?_)
                                          · rw [if_neg hc134] at h
                                            exact hz_ls [0, 1, 2, 4] rfl (gk72 v2_25 v4_27 M132 h)
                                          · rw [if_pos hc134] at h
                                            refine hz_aload_n hO dL_isAs_508 rfl 0 rfl ?_
                                            refine hz_bipush (v := (14 : Int32)) hO dL_isAs_509 (by decide) ?_
                                            obtain ⟨r135, M136, hq137, h⟩ := hz_ct_e h
                                            refine hz_callVi (as := [.int (14 : Int32)]) (rest := []) hO (c_X10_size l w hN (14 : Int32) hq137) hz_cal_X10_size hz_K_10 hz_sh_0 (hz_lt_0 hN) tw_3_60 (Nat.le_of_ble_eq_true rfl) rfl rfl (Nat.le_of_ble_eq_true rfl) dL_isAs_511 ?_
                                            refine hz_aload_n hO dL_isAs_514 rfl 1 rfl ?_
                                            refine hz_getIN (k := 0) hO hz_K_11 hB.1 hB.2.1 rfl (Nat.le_of_ble_eq_true rfl) (List.mem_of_getElem? (i := 13) rfl) rfl dL_isAs_515 ?_
                                            refine hz_aload_n hO dL_isAs_518 rfl 1 rfl ?_
                                            obtain ⟨r138, M139, hq140, h⟩ := hz_ct_e h
                                            refine hz_callVi (as := []) (rest := [.int (M136 b 0), .int r135]) hO (c_X11_inside l w hN hB hq140) hz_cal_X11_inside hz_K_11 hB.1 hB.2.1 tw_5_21 (Nat.le_of_ble_eq_true rfl) rfl rfl (Nat.le_of_ble_eq_true rfl) dL_isAs_519 ?_
                                            refine hz_isub hO dL_isAs_522 ?_
                                            refine hz_icmp_ne (tgt := 551) hO dL_isAs_523 (by decide) (fun hc141 => ?_) (fun hc141 => ?_)
                                            · rw [if_neg hc141] at h
                                              exact hz_ls [0, 1, 2, 4] rfl (gk72 v2_25 v4_27 M139 h)
                                            · rw [if_pos hc141] at h
                                              refine hz_aload_n hO dL_isAs_526 rfl 0 rfl ?_
                                              refine hz_bipush (v := (15 : Int32)) hO dL_isAs_527 (by decide) ?_
                                              obtain ⟨r142, M143, hq144, h⟩ := hz_ct_e h
                                              refine hz_callVi (as := [.int (15 : Int32)]) (rest := []) hO (c_X10_size l w hN (15 : Int32) hq144) hz_cal_X10_size hz_K_10 hz_sh_0 (hz_lt_0 hN) tw_3_60 (Nat.le_of_ble_eq_true rfl) rfl rfl (Nat.le_of_ble_eq_true rfl) dL_isAs_529 ?_
                                              refine hz_aload_n hO dL_isAs_532 rfl 1 rfl ?_
                                              obtain ⟨r145, M146, hq147, h⟩ := hz_ct_e h
                                              refine hz_callVi (as := []) (rest := [.int r142]) hO (c_X11_isSilent l w hN hB hq147) hz_cal_X11_isSilent hz_K_11 hB.1 hB.2.1 tw_5_22 (Nat.le_of_ble_eq_true rfl) rfl rfl (Nat.le_of_ble_eq_true rfl) dL_isAs_533 ?_
                                              obtain ⟨k154, hk154, h⟩ := hz_jn_e h
                                              have gk154 : ∀ (v2_148 : Int32) (v4_149 : Int32) (q150 : Int32) (q151 : Int32) (M152 : hz_M), k154 v2_148 v4_149 q150 q151 M152 = some (rE, ME) → hz_G p l e 6 hz_z0 s m args below meth c w N 6 (MQ below (hz_Qi w N rE ME) args s 0 0 (hz_A w)) M152 544 [(0, .ref (hz_ad w 0)), (1, .ref (hz_ad w b)), (2, .int v2_148), (4, .int v4_149)] [.int q150, .int q151] := by
                                                intro v2_148 v4_149 q150 q151 M152 h
                                                rw [hk154] at h
                                                dsimp only at h
                                                refine hz_icmp_ne (tgt := 551) hO dL_isAs_544 (by decide) (fun hc153 => ?_) (fun hc153 => ?_)
                                                · rw [if_neg hc153] at h
                                                  exact hz_ls [0, 1, 2, 3] rfl (gk72 v2_148 v4_149 M152 h)
                                                · rw [if_pos hc153] at h
                                                  refine hz_iconst (v := (1 : Int32)) hO dL_isAs_547 (by decide) ?_
                                                  refine hz_goto (tgt := 552) hO dL_isAs_548 (by decide) ?_
                                                  exact hz_ls [0, 1, 2, 3] rfl (gk68 v2_148 v4_149 (1 : Int32) M152 h)
                                              clear hk154
                                              refine hz_if_eq (tgt := 543) hO dL_isAs_536 (by decide) (fun hc155 => ?_) (fun hc155 => ?_)
                                              · rw [if_pos hc155] at h
                                                refine hz_iconst (v := (0 : Int32)) hO dL_isAs_543 (by decide) ?_
                                                exact hz_ls [0, 1, 2, 4] rfl (gk154 v2_25 v4_27 (0 : Int32) r142 M146 h)
                                              · rw [if_neg hc155] at h
                                                refine hz_iconst (v := (1 : Int32)) hO dL_isAs_539 (by decide) ?_
                                                refine hz_goto (tgt := 544) hO dL_isAs_540 (by decide) ?_
                                                exact hz_ls [0, 1, 2, 4] rfl (gk154 v2_25 v4_27 (1 : Int32) r142 M146 h)
              clear hk156
              exact hz_ls [1, 2, 3, 4, 5, 0] rfl (g_L_isAs_L298 hN hB hO _ gk156 _ v2_21 v3_22 v4_23 (0 : Int32) M24 h)
            clear hk169
            exact hz_ls [1, 2, 3, 4, 5, 0] rfl (g_L_isAs_L262 hN hB hO _ gk169 _ v2_17 v3_18 v4_19 (0 : Int32) M20 h)
          clear hk182
          exact hz_ls [1, 2, 3, 4, 5, 0] rfl (g_L_isAs_L226 hN hB hO _ gk182 _ v2_13 v3_14 v4_15 (0 : Int32) M16 h)
        clear hk195
        exact hz_ls [1, 2, 3, 4, 5, 0] rfl (g_L_isAs_L190 hN hB hO _ gk195 _ v2_9 v3_10 v4_11 (0 : Int32) M12 h)
      clear hk208
      exact hz_ls [1, 2, 3, 4, 5, 0] rfl (g_L_isAs_L68 hN hB hO _ gk208 _ v2_5 v3_6 v4_7 (0 : Int32) M8 h)
    clear hk265
    exact hz_ls [1, 2, 3, 4, 5, 0] rfl (g_L_isAs_L38 hN hB hO _ gk265 _ v2_1 v3_2 v4_3 (1 : Int32) M4 h)
  clear hk277
  exact hz_ls [3, 4, 5, 2, 1, 0] rfl (g_L_isAs_L8 hN hB hO _ gk277 _ a2 (0 : Int32) (0 : Int32) (0 : Int32) M h)
