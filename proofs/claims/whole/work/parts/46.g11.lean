-- X11_isWord X11_readsGuest X11_readsSetup X11_load X11_orderHere X11_readsAgain X11_readsOrder X11_readsOrders X11_takesText X11_doesAll X11_play
def f_X11_isWord_L35 : Nat → Nat → Int32 → hz_M → hz_O
  | 0, _, _, _ => none
  | n + 1, v1_5, v2_6, M7 =>
    hz_gd (hz_sok v1_5) <|
    if (hz_sl v1_5) ≤ v2_6 then
      some ((1 : Int32), M7)
    else
      hz_gd (hz_in ((M7 178 14) + v2_6) 600) <|
      hz_gd (hz_sok v1_5) <|
      hz_gd (hz_in v2_6 (hz_len.getD v1_5 0)) <|
      if (M7 186 (Int32.toNatClampNeg ((M7 178 14) + v2_6))) = (hz_cc v1_5 v2_6) then
        hz_lt (v2_6 + (1 : Int32)) fun x14 =>
        f_X11_isWord_L35 n v1_5 x14 M7
      else
        some ((0 : Int32), M7)
def f_X11_isWord (a1 : Nat) (M : hz_M) : hz_O :=
  if (M 178 17) = 0 then
    if (M 178 15) = (1 : Int32) then
      hz_gd (hz_sok a1) <|
      if ((M 178 13) - (M 178 14)) = (hz_sl a1) then
        f_X11_isWord_L35 hz_FU a1 (0 : Int32) M
      else
        some ((0 : Int32), M)
    else
      some ((0 : Int32), M)
  else
    some ((0 : Int32), M)
set_option maxRecDepth 100000 in
set_option maxHeartbeats 4000000 in
theorem g_X11_isWord_L35 {p : Program} {l : Launch} {e : Env} {s : State} {m : MethodId} {args : Array Value} {below : List Frame} {meth : Method} {c : Code} {w : hz_C} {N : Nat} (hN : 193 ≤ N) {rE : Int32} {ME : hz_M} (hO : hz_Ok p s m args meth c w cX11_isWord 3 RX11 (some .boolean)) : ∀ (n : Nat) (v1_5 : Nat) (v2_6 : Int32) (M7 : hz_M), f_X11_isWord_L35 n v1_5 v2_6 M7 = some (rE, ME) → hz_G p l e 8 hz_z0 s m args below meth c w N 3 (MQ below (hz_Qi w N rE ME) args s 0 0 (hz_A w)) M7 35 [(0, .ref (hz_ad w 178)), (1, .ref (hz_sa w v1_5)), (2, .int v2_6)] [] := by
  intro n
  induction n with
  | zero =>
    intro v1_5 v2_6 M7 h
    rw [f_X11_isWord_L35] at h
    cases h
  | succ n ih =>
    intro v1_5 v2_6 M7 h
    rw [f_X11_isWord_L35] at h
    refine hz_iload_n hO dX11_isWord_35 rfl 2 rfl ?_
    refine hz_aload_n hO dX11_isWord_36 rfl 1 rfl ?_
    obtain ⟨hg8, h⟩ := hz_gd_e h
    refine hz_callTi (as := []) (rest := [.int v2_6]) hO (c_J0_length_8abf5 l w (hz_sok_e hg8)) hz_cal_J0_length_8abf5 (hz_sok_e hg8) tw_6_157 (Nat.le_of_ble_eq_true rfl) rfl rfl (Nat.le_of_ble_eq_true rfl) dX11_isWord_37 ?_
    refine hz_icmp_ge (tgt := 70) hO dX11_isWord_40 (by decide) (fun hc9 => ?_) (fun hc9 => ?_)
    · rw [if_pos hc9] at h
      refine hz_iconst (v := (1 : Int32)) hO dX11_isWord_70 (by decide) ?_
      exact hz_nameM (hz_some_e h).2.symm (hz_name (hz_some_e h).1.symm (hz_zret hO (by rw [← (hz_some_e h).1]; decide) dX11_isWord_71))
    · rw [if_neg hc9] at h
      refine hz_aload_n hO dX11_isWord_43 rfl 0 rfl ?_
      refine hz_getR (k := 10) hO 186 hz_K_9 hz_sh_178 (hz_lt_178 hN) rfl (Nat.le_of_ble_eq_true rfl) tw_6_239 rfl dX11_isWord_44 ?_
      refine hz_aload_n hO dX11_isWord_47 rfl 0 rfl ?_
      refine hz_getI (k := 14) hO hz_K_9 hz_sh_178 (hz_lt_178 hN) rfl (Nat.le_of_ble_eq_true rfl) tw_7_3 rfl dX11_isWord_48 ?_
      refine hz_iload_n hO dX11_isWord_51 rfl 2 rfl ?_
      refine hz_iadd hO dX11_isWord_52 ?_
      obtain ⟨hg10, h⟩ := hz_gd_e h
      refine hz_iald hO hz_sh_186 (hz_lt_186 hN) hg10 dX11_isWord_53 ?_
      refine hz_aload_n hO dX11_isWord_54 rfl 1 rfl ?_
      refine hz_iload_n hO dX11_isWord_55 rfl 2 rfl ?_
      obtain ⟨hg11, h⟩ := hz_gd_e h
      obtain ⟨hg12, h⟩ := hz_gd_e h
      refine hz_callTi (as := [.int v2_6]) (rest := [.int (M7 186 (Int32.toNatClampNeg ((M7 178 14) + v2_6)))]) hO (c_J0_charAt_5068e l w (hz_sok_e hg11) hg12) hz_cal_J0_charAt_5068e (hz_sok_e hg11) tw_6_158 (Nat.le_of_ble_eq_true rfl) rfl rfl (Nat.le_of_ble_eq_true rfl) dX11_isWord_56 ?_
      refine hz_icmp_eq (tgt := 64) hO dX11_isWord_59 (by decide) (fun hc13 => ?_) (fun hc13 => ?_)
      · rw [if_pos hc13] at h
        obtain ⟨x14, h_x14, h⟩ := hz_lt_e h
        refine hz_iinc (k := 2) (v := x14) (ls1 := [(2, .int x14), (0, .ref (hz_ad w 178)), (1, .ref (hz_sa w v1_5))]) hO dX11_isWord_64 rfl (by rw [h_x14]; rfl) (Nat.le_of_ble_eq_true rfl) rfl ?_
        refine hz_goto (tgt := 35) hO dX11_isWord_67 (by decide) ?_
        exact hz_ls [1, 2, 0] rfl (ih v1_5 x14 M7 h)
      · rw [if_neg hc13] at h
        refine hz_iconst (v := (0 : Int32)) hO dX11_isWord_62 (by decide) ?_
        exact hz_nameM (hz_some_e h).2.symm (hz_name (hz_some_e h).1.symm (hz_zret hO (by rw [← (hz_some_e h).1]; decide) dX11_isWord_63))
set_option maxRecDepth 100000 in
set_option maxHeartbeats 4000000 in
theorem c_X11_isWord (l : Launch) (w : hz_C) {N : Nat} (hN : 193 ≤ N) (a1 : Nat) {M : hz_M} {rE : Int32} {ME : hz_M} (h : f_X11_isWord a1 M = some (rE, ME)) : hz_Ct l yX11_isWord cX11_isWord 3 (some .boolean) 8 w N [.ref (hz_ad w 178), .ref (hz_sa w a1)] M (hz_Qi w N rE ME) := by
  refine hz_ofW (by decide) rfl (Nat.le_of_ble_eq_true rfl) tw_6_183 ?_
  intro p e s m args below meth c hO
  show hz_G p l e 8 hz_z0 s m args below meth c w N 3 _ M 0 [(0, .ref (hz_ad w 178)), (1, .ref (hz_sa w a1))] []
  unfold f_X11_isWord at h
  refine hz_aload_n hO dX11_isWord_0 rfl 0 rfl ?_
  refine hz_getI (k := 17) hO hz_K_9 hz_sh_178 (hz_lt_178 hN) rfl (Nat.le_of_ble_eq_true rfl) tw_7_6 rfl dX11_isWord_1 ?_
  refine hz_if_ne (tgt := 31) hO dX11_isWord_4 (by decide) (fun hc1 => ?_) (fun hc1 => ?_)
  · rw [if_neg hc1] at h
    refine hz_iconst (v := (0 : Int32)) hO dX11_isWord_31 (by decide) ?_
    exact hz_nameM (hz_some_e h).2.symm (hz_name (hz_some_e h).1.symm (hz_zret hO (by rw [← (hz_some_e h).1]; decide) dX11_isWord_32))
  · rw [if_pos hc1] at h
    refine hz_aload_n hO dX11_isWord_7 rfl 0 rfl ?_
    refine hz_getI (k := 15) hO hz_K_9 hz_sh_178 (hz_lt_178 hN) rfl (Nat.le_of_ble_eq_true rfl) tw_7_4 rfl dX11_isWord_8 ?_
    refine hz_iconst (v := (1 : Int32)) hO dX11_isWord_11 (by decide) ?_
    refine hz_icmp_ne (tgt := 31) hO dX11_isWord_12 (by decide) (fun hc2 => ?_) (fun hc2 => ?_)
    · rw [if_neg hc2] at h
      refine hz_iconst (v := (0 : Int32)) hO dX11_isWord_31 (by decide) ?_
      exact hz_nameM (hz_some_e h).2.symm (hz_name (hz_some_e h).1.symm (hz_zret hO (by rw [← (hz_some_e h).1]; decide) dX11_isWord_32))
    · rw [if_pos hc2] at h
      refine hz_aload_n hO dX11_isWord_15 rfl 0 rfl ?_
      refine hz_getI (k := 13) hO hz_K_9 hz_sh_178 (hz_lt_178 hN) rfl (Nat.le_of_ble_eq_true rfl) tw_7_2 rfl dX11_isWord_16 ?_
      refine hz_aload_n hO dX11_isWord_19 rfl 0 rfl ?_
      refine hz_getI (k := 14) hO hz_K_9 hz_sh_178 (hz_lt_178 hN) rfl (Nat.le_of_ble_eq_true rfl) tw_7_3 rfl dX11_isWord_20 ?_
      refine hz_isub hO dX11_isWord_23 ?_
      refine hz_aload_n hO dX11_isWord_24 rfl 1 rfl ?_
      obtain ⟨hg3, h⟩ := hz_gd_e h
      refine hz_callTi (as := []) (rest := [.int ((M 178 13) - (M 178 14))]) hO (c_J0_length_8abf5 l w (hz_sok_e hg3)) hz_cal_J0_length_8abf5 (hz_sok_e hg3) tw_6_157 (Nat.le_of_ble_eq_true rfl) rfl rfl (Nat.le_of_ble_eq_true rfl) dX11_isWord_25 ?_
      refine hz_icmp_eq (tgt := 33) hO dX11_isWord_28 (by decide) (fun hc4 => ?_) (fun hc4 => ?_)
      · rw [if_pos hc4] at h
        refine hz_iconst (v := (0 : Int32)) hO dX11_isWord_33 (by decide) ?_
        refine hz_istore_n (ls1 := [(2, .int (0 : Int32)), (0, .ref (hz_ad w 178)), (1, .ref (hz_sa w a1))]) hO dX11_isWord_34 rfl (Nat.le_of_ble_eq_true rfl) rfl ?_
        exact hz_ls [1, 2, 0] rfl (g_X11_isWord_L35 hN hO _ a1 (0 : Int32) M h)
      · rw [if_neg hc4] at h
        refine hz_iconst (v := (0 : Int32)) hO dX11_isWord_31 (by decide) ?_
        exact hz_nameM (hz_some_e h).2.symm (hz_name (hz_some_e h).1.symm (hz_zret hO (by rw [← (hz_some_e h).1]; decide) dX11_isWord_32))
def f_X11_readsGuest (M : hz_M) : hz_O :=
  hz_ct (f_X11_isWord 2 M) fun r1 M2 =>
  hz_ct (f_X11_must r1 (1 : Int32) M2) fun r4 M5 =>
  hz_jn (fun (q7 : Int32) (M8 : hz_M) =>
    hz_ct (f_X11_must q7 (4 : Int32) M8) fun r9 M10 =>
    hz_ct (f_X11_passes M10) fun r12 M13 =>
    hz_ct (f_X11_looksAtName M13) fun r15 M16 =>
    hz_jn (fun (v1_18 : Int32) (q19 : Int32) (M20 : hz_M) =>
      hz_ct (f_X11_must q19 (3 : Int32) M20) fun r21 M22 =>
      hz_ct (f_X11_passes M22) fun r24 M25 =>
      hz_ct (f_X11_number (0 : Int32) (99 : Int32) M25) fun r27 M28 =>
      if (M28 178 17) = 0 then
        hz_lt ((M28 179 (Int32.toNatClampNeg (11 : Int32)))) fun x31 =>
        hz_ct (f_X11_puts x31 (0 : Int32) v1_18 M28) fun r32 M33 =>
        hz_ct (f_X11_puts x31 (1 : Int32) r27 M33) fun r35 M36 =>
        hz_ct (f_X11_puts x31 (2 : Int32) (-1 : Int32) M36) fun r38 M39 =>
        hz_ct (f_X11_puts x31 (3 : Int32) (-1 : Int32) M39) fun r41 M42 =>
        hz_ct (f_X11_puts x31 (4 : Int32) (-1 : Int32) M42) fun r44 M45 =>
        hz_ct (f_X11_puts x31 (7 : Int32) (-1 : Int32) M45) fun r47 M48 =>
        hz_lm (hz_set M48 179 (Int32.toNatClampNeg (11 : Int32)) ((M48 179 (Int32.toNatClampNeg (11 : Int32))) + (1 : Int32))) fun M50 =>
        some (0, M50)
      else
        some (0, M28)
      ) fun k51 =>
    hz_jn (fun (v1_52 : Int32) (M53 : hz_M) =>
      k51 v1_52 (1 : Int32) M53
      ) fun k54 =>
    if (M16 178 17) = 0 then
      hz_ct (f_X11_named r15 M16) fun r56 M57 =>
      if r56 = (-1 : Int32) then
        k54 r15 M57
      else
        k51 r15 (0 : Int32) M57
    else
      k54 r15 M16
    ) fun k60 =>
  if (16 : Int32) ≤ (M5 179 (Int32.toNatClampNeg (11 : Int32))) then
    k60 (0 : Int32) M5
  else
    k60 (1 : Int32) M5
set_option maxRecDepth 100000 in
set_option maxHeartbeats 4000000 in
theorem c_X11_readsGuest (l : Launch) (w : hz_C) {N : Nat} (hN : 193 ≤ N) {M : hz_M} {rE : Int32} {ME : hz_M} (h : f_X11_readsGuest M = some (rE, ME)) : hz_Ct l yX11_readsGuest cX11_readsGuest 4 none 9 w N [.ref (hz_ad w 178)] M (hz_Qv w N ME) := by
  refine hz_ofW (by decide) rfl (Nat.le_of_ble_eq_true rfl) tw_6_203 ?_
  intro p e s m args below meth c hO
  show hz_G p l e 9 hz_z0 s m args below meth c w N 4 _ M 0 [(0, .ref (hz_ad w 178))] []
  unfold f_X11_readsGuest at h
  refine hz_aload_n hO dX11_readsGuest_0 rfl 0 rfl ?_
  refine hz_aload_n hO dX11_readsGuest_1 rfl 0 rfl ?_
  refine hz_ldcS (i := 2) hO (List.mem_of_getElem? (i := 20) rfl) dX11_readsGuest_2 ?_
  obtain ⟨r1, M2, hq3, h⟩ := hz_ct_e h
  refine hz_callVi (as := [.ref (hz_sa w 2)]) (rest := [.ref (hz_ad w 178)]) hO (c_X11_isWord l w hN 2 hq3) hz_cal_X11_isWord hz_K_9 hz_sh_178 (hz_lt_178 hN) tw_6_180 (Nat.le_of_ble_eq_true rfl) rfl rfl (Nat.le_of_ble_eq_true rfl) dX11_readsGuest_4 ?_
  refine hz_iconst (v := (1 : Int32)) hO dX11_readsGuest_7 (by decide) ?_
  obtain ⟨r4, M5, hq6, h⟩ := hz_ct_e h
  refine hz_callVi (as := [.int r1, .int (1 : Int32)]) (rest := []) hO (c_X11_must l w hN r1 (1 : Int32) hq6) hz_cal_X11_must hz_K_9 hz_sh_178 (hz_lt_178 hN) tw_6_184 (Nat.le_of_ble_eq_true rfl) rfl rfl (Nat.le_of_ble_eq_true rfl) dX11_readsGuest_8 ?_
  refine hz_pop hO dX11_readsGuest_11 rfl ?_
  refine hz_aload_n hO dX11_readsGuest_12 rfl 0 rfl ?_
  refine hz_aload_n hO dX11_readsGuest_13 rfl 0 rfl ?_
  refine hz_getR (k := 0) hO 179 hz_K_9 hz_sh_178 (hz_lt_178 hN) rfl (Nat.le_of_ble_eq_true rfl) tw_6_229 rfl dX11_readsGuest_14 ?_
  refine hz_bipush (v := (11 : Int32)) hO dX11_readsGuest_17 (by decide) ?_
  refine hz_iald hO hz_sh_179 (hz_lt_179 hN) (by decide) dX11_readsGuest_19 ?_
  refine hz_bipush (v := (16 : Int32)) hO dX11_readsGuest_20 (by decide) ?_
  obtain ⟨k60, hk60, h⟩ := hz_jn_e h
  have gk60 : ∀ (q7 : Int32) (M8 : hz_M), k60 q7 M8 = some (rE, ME) → hz_G p l e 9 hz_z0 s m args below meth c w N 4 (MQ below (hz_Qv w N ME) args s 0 0 (hz_A w)) M8 30 [(0, .ref (hz_ad w 178))] [.int q7, .ref (hz_ad w 178)] := by
    intro q7 M8 h
    rw [hk60] at h
    dsimp only at h
    refine hz_iconst (v := (4 : Int32)) hO dX11_readsGuest_30 (by decide) ?_
    obtain ⟨r9, M10, hq11, h⟩ := hz_ct_e h
    refine hz_callVi (as := [.int q7, .int (4 : Int32)]) (rest := []) hO (c_X11_must l w hN q7 (4 : Int32) hq11) hz_cal_X11_must hz_K_9 hz_sh_178 (hz_lt_178 hN) tw_6_184 (Nat.le_of_ble_eq_true rfl) rfl rfl (Nat.le_of_ble_eq_true rfl) dX11_readsGuest_31 ?_
    refine hz_pop hO dX11_readsGuest_34 rfl ?_
    refine hz_aload_n hO dX11_readsGuest_35 rfl 0 rfl ?_
    obtain ⟨r12, M13, hq14, h⟩ := hz_ct_e h
    refine hz_callVv (as := []) (rest := []) hO (c_X11_passes l w hN hq14) hz_cal_X11_passes hz_K_9 hz_sh_178 (hz_lt_178 hN) tw_6_188 (Nat.le_of_ble_eq_true rfl) rfl rfl (Nat.le_of_ble_eq_true rfl) dX11_readsGuest_36 ?_
    refine hz_aload_n hO dX11_readsGuest_39 rfl 0 rfl ?_
    obtain ⟨r15, M16, hq17, h⟩ := hz_ct_e h
    refine hz_callVi (as := []) (rest := []) hO (c_X11_looksAtName l w hN hq17) hz_cal_X11_looksAtName hz_K_9 hz_sh_178 (hz_lt_178 hN) tw_6_205 (Nat.le_of_ble_eq_true rfl) rfl rfl (Nat.le_of_ble_eq_true rfl) dX11_readsGuest_40 ?_
    refine hz_istore_n (ls1 := [(1, .int r15), (0, .ref (hz_ad w 178))]) hO dX11_readsGuest_43 rfl (Nat.le_of_ble_eq_true rfl) rfl ?_
    refine hz_aload_n hO dX11_readsGuest_44 rfl 1 rfl ?_
    refine hz_aload_n hO dX11_readsGuest_45 rfl 1 rfl ?_
    refine hz_getI (k := 17) hO hz_K_9 hz_sh_178 (hz_lt_178 hN) rfl (Nat.le_of_ble_eq_true rfl) tw_7_6 rfl dX11_readsGuest_46 ?_
    obtain ⟨k51, hk51, h⟩ := hz_jn_e h
    have gk51 : ∀ (v1_18 : Int32) (q19 : Int32) (M20 : hz_M), k51 v1_18 q19 M20 = some (rE, ME) → hz_G p l e 9 hz_z0 s m args below meth c w N 4 (MQ below (hz_Qv w N ME) args s 0 0 (hz_A w)) M20 66 [(0, .ref (hz_ad w 178)), (1, .int v1_18)] [.int q19, .ref (hz_ad w 178)] := by
      intro v1_18 q19 M20 h
      rw [hk51] at h
      dsimp only at h
      refine hz_iconst (v := (3 : Int32)) hO dX11_readsGuest_66 (by decide) ?_
      obtain ⟨r21, M22, hq23, h⟩ := hz_ct_e h
      refine hz_callVi (as := [.int q19, .int (3 : Int32)]) (rest := []) hO (c_X11_must l w hN q19 (3 : Int32) hq23) hz_cal_X11_must hz_K_9 hz_sh_178 (hz_lt_178 hN) tw_6_184 (Nat.le_of_ble_eq_true rfl) rfl rfl (Nat.le_of_ble_eq_true rfl) dX11_readsGuest_67 ?_
      refine hz_pop hO dX11_readsGuest_70 rfl ?_
      refine hz_aload_n hO dX11_readsGuest_71 rfl 0 rfl ?_
      obtain ⟨r24, M25, hq26, h⟩ := hz_ct_e h
      refine hz_callVv (as := []) (rest := []) hO (c_X11_passes l w hN hq26) hz_cal_X11_passes hz_K_9 hz_sh_178 (hz_lt_178 hN) tw_6_188 (Nat.le_of_ble_eq_true rfl) rfl rfl (Nat.le_of_ble_eq_true rfl) dX11_readsGuest_72 ?_
      refine hz_aload_n hO dX11_readsGuest_75 rfl 0 rfl ?_
      refine hz_iconst (v := (0 : Int32)) hO dX11_readsGuest_76 (by decide) ?_
      refine hz_bipush (v := (99 : Int32)) hO dX11_readsGuest_77 (by decide) ?_
      obtain ⟨r27, M28, hq29, h⟩ := hz_ct_e h
      refine hz_callVi (as := [.int (0 : Int32), .int (99 : Int32)]) (rest := []) hO (c_X11_number l w hN (0 : Int32) (99 : Int32) hq29) hz_cal_X11_number hz_K_9 hz_sh_178 (hz_lt_178 hN) tw_6_192 (Nat.le_of_ble_eq_true rfl) rfl rfl (Nat.le_of_ble_eq_true rfl) dX11_readsGuest_79 ?_
      refine hz_istore_n (ls1 := [(2, .int r27), (0, .ref (hz_ad w 178)), (1, .int v1_18)]) hO dX11_readsGuest_82 rfl (Nat.le_of_ble_eq_true rfl) rfl ?_
      refine hz_aload_n hO dX11_readsGuest_83 rfl 1 rfl ?_
      refine hz_getI (k := 17) hO hz_K_9 hz_sh_178 (hz_lt_178 hN) rfl (Nat.le_of_ble_eq_true rfl) tw_7_6 rfl dX11_readsGuest_84 ?_
      refine hz_if_eq (tgt := 91) hO dX11_readsGuest_87 (by decide) (fun hc30 => ?_) (fun hc30 => ?_)
      · rw [if_pos hc30] at h
        refine hz_aload_n hO dX11_readsGuest_91 rfl 1 rfl ?_
        refine hz_getR (k := 0) hO 179 hz_K_9 hz_sh_178 (hz_lt_178 hN) rfl (Nat.le_of_ble_eq_true rfl) tw_6_229 rfl dX11_readsGuest_92 ?_
        refine hz_bipush (v := (11 : Int32)) hO dX11_readsGuest_95 (by decide) ?_
        refine hz_iald hO hz_sh_179 (hz_lt_179 hN) (by decide) dX11_readsGuest_97 ?_
        obtain ⟨x31, h_x31, h⟩ := hz_lt_e h
        refine hz_name h_x31 ?_
        refine hz_istore_n (ls1 := [(3, .int x31), (2, .int r27), (0, .ref (hz_ad w 178)), (1, .int v1_18)]) hO dX11_readsGuest_98 rfl (Nat.le_of_ble_eq_true rfl) rfl ?_
        refine hz_aload_n hO dX11_readsGuest_99 rfl 2 rfl ?_
        refine hz_iload_n hO dX11_readsGuest_100 rfl 0 rfl ?_
        refine hz_iconst (v := (0 : Int32)) hO dX11_readsGuest_101 (by decide) ?_
        refine hz_iload_n hO dX11_readsGuest_102 rfl 3 rfl ?_
        obtain ⟨r32, M33, hq34, h⟩ := hz_ct_e h
        refine hz_callVv (as := [.int x31, .int (0 : Int32), .int v1_18]) (rest := []) hO (c_X11_puts l w hN x31 (0 : Int32) v1_18 hq34) hz_cal_X11_puts hz_K_9 hz_sh_178 (hz_lt_178 hN) tw_6_221 (Nat.le_of_ble_eq_true rfl) rfl rfl (Nat.le_of_ble_eq_true rfl) dX11_readsGuest_103 ?_
        refine hz_aload_n hO dX11_readsGuest_106 rfl 2 rfl ?_
        refine hz_iload_n hO dX11_readsGuest_107 rfl 0 rfl ?_
        refine hz_iconst (v := (1 : Int32)) hO dX11_readsGuest_108 (by decide) ?_
        refine hz_iload_n hO dX11_readsGuest_109 rfl 1 rfl ?_
        obtain ⟨r35, M36, hq37, h⟩ := hz_ct_e h
        refine hz_callVv (as := [.int x31, .int (1 : Int32), .int r27]) (rest := []) hO (c_X11_puts l w hN x31 (1 : Int32) r27 hq37) hz_cal_X11_puts hz_K_9 hz_sh_178 (hz_lt_178 hN) tw_6_221 (Nat.le_of_ble_eq_true rfl) rfl rfl (Nat.le_of_ble_eq_true rfl) dX11_readsGuest_110 ?_
        refine hz_aload_n hO dX11_readsGuest_113 rfl 2 rfl ?_
        refine hz_iload_n hO dX11_readsGuest_114 rfl 0 rfl ?_
        refine hz_iconst (v := (2 : Int32)) hO dX11_readsGuest_115 (by decide) ?_
        refine hz_iconst (v := (-1 : Int32)) hO dX11_readsGuest_116 (by decide) ?_
        obtain ⟨r38, M39, hq40, h⟩ := hz_ct_e h
        refine hz_callVv (as := [.int x31, .int (2 : Int32), .int (-1 : Int32)]) (rest := []) hO (c_X11_puts l w hN x31 (2 : Int32) (-1 : Int32) hq40) hz_cal_X11_puts hz_K_9 hz_sh_178 (hz_lt_178 hN) tw_6_221 (Nat.le_of_ble_eq_true rfl) rfl rfl (Nat.le_of_ble_eq_true rfl) dX11_readsGuest_117 ?_
        refine hz_aload_n hO dX11_readsGuest_120 rfl 2 rfl ?_
        refine hz_iload_n hO dX11_readsGuest_121 rfl 0 rfl ?_
        refine hz_iconst (v := (3 : Int32)) hO dX11_readsGuest_122 (by decide) ?_
        refine hz_iconst (v := (-1 : Int32)) hO dX11_readsGuest_123 (by decide) ?_
        obtain ⟨r41, M42, hq43, h⟩ := hz_ct_e h
        refine hz_callVv (as := [.int x31, .int (3 : Int32), .int (-1 : Int32)]) (rest := []) hO (c_X11_puts l w hN x31 (3 : Int32) (-1 : Int32) hq43) hz_cal_X11_puts hz_K_9 hz_sh_178 (hz_lt_178 hN) tw_6_221 (Nat.le_of_ble_eq_true rfl) rfl rfl (Nat.le_of_ble_eq_true rfl) dX11_readsGuest_124 ?_
        refine hz_aload_n hO dX11_readsGuest_127 rfl 2 rfl ?_
        refine hz_iload_n hO dX11_readsGuest_128 rfl 0 rfl ?_
        refine hz_iconst (v := (4 : Int32)) hO dX11_readsGuest_129 (by decide) ?_
        refine hz_iconst (v := (-1 : Int32)) hO dX11_readsGuest_130 (by decide) ?_
        obtain ⟨r44, M45, hq46, h⟩ := hz_ct_e h
        refine hz_callVv (as := [.int x31, .int (4 : Int32), .int (-1 : Int32)]) (rest := []) hO (c_X11_puts l w hN x31 (4 : Int32) (-1 : Int32) hq46) hz_cal_X11_puts hz_K_9 hz_sh_178 (hz_lt_178 hN) tw_6_221 (Nat.le_of_ble_eq_true rfl) rfl rfl (Nat.le_of_ble_eq_true rfl) dX11_readsGuest_131 ?_
        refine hz_aload_n hO dX11_readsGuest_134 rfl 2 rfl ?_
        refine hz_iload_n hO dX11_readsGuest_135 rfl 0 rfl ?_
        refine hz_bipush (v := (7 : Int32)) hO dX11_readsGuest_136 (by decide) ?_
        refine hz_iconst (v := (-1 : Int32)) hO dX11_readsGuest_138 (by decide) ?_
        obtain ⟨r47, M48, hq49, h⟩ := hz_ct_e h
        refine hz_callVv (as := [.int x31, .int (7 : Int32), .int (-1 : Int32)]) (rest := []) hO (c_X11_puts l w hN x31 (7 : Int32) (-1 : Int32) hq49) hz_cal_X11_puts hz_K_9 hz_sh_178 (hz_lt_178 hN) tw_6_221 (Nat.le_of_ble_eq_true rfl) rfl rfl (Nat.le_of_ble_eq_true rfl) dX11_readsGuest_139 ?_
        refine hz_aload_n hO dX11_readsGuest_142 rfl 2 rfl ?_
        refine hz_getR (k := 0) hO 179 hz_K_9 hz_sh_178 (hz_lt_178 hN) rfl (Nat.le_of_ble_eq_true rfl) tw_6_229 rfl dX11_readsGuest_143 ?_
        refine hz_bipush (v := (11 : Int32)) hO dX11_readsGuest_146 (by decide) ?_
        refine hz_dup2 hO dX11_readsGuest_148 rfl rfl ?_
        refine hz_iald hO hz_sh_179 (hz_lt_179 hN) (by decide) dX11_readsGuest_149 ?_
        refine hz_iconst (v := (1 : Int32)) hO dX11_readsGuest_150 (by decide) ?_
        refine hz_iadd hO dX11_readsGuest_151 ?_
        obtain ⟨M50, h_M50, h⟩ := hz_lm_e h
        refine hz_iast hO hz_sh_179 (hz_lt_179 hN) (by decide) dX11_readsGuest_152 ?_
        refine hz_nameM h_M50 ?_
        exact hz_nameM (hz_some_e h).2.symm (hz_vret hO dX11_readsGuest_153)
      · rw [if_neg hc30] at h
        exact hz_nameM (hz_some_e h).2.symm (hz_vret hO dX11_readsGuest_90)
    clear hk51
    obtain ⟨k54, hk54, h⟩ := hz_jn_e h
    have gk54 : ∀ (v1_52 : Int32) (M53 : hz_M), k54 v1_52 M53 = some (rE, ME) → hz_G p l e 9 hz_z0 s m args below meth c w N 4 (MQ below (hz_Qv w N ME) args s 0 0 (hz_A w)) M53 61 [(0, .ref (hz_ad w 178)), (1, .int v1_52)] [.ref (hz_ad w 178)] := by
      intro v1_52 M53 h
      rw [hk54] at h
      dsimp only at h
      refine hz_iconst (v := (1 : Int32)) hO dX11_readsGuest_61 (by decide) ?_
      refine hz_goto (tgt := 66) hO dX11_readsGuest_62 (by decide) ?_
      exact hz_ls [0, 1] rfl (gk51 v1_52 (1 : Int32) M53 h)
    clear hk54
    refine hz_if_ne (tgt := 61) hO dX11_readsGuest_49 (by decide) (fun hc55 => ?_) (fun hc55 => ?_)
    · rw [if_neg hc55] at h
      exact hz_ls [1, 0] rfl (gk54 r15 M16 h)
    · rw [if_pos hc55] at h
      refine hz_aload_n hO dX11_readsGuest_52 rfl 1 rfl ?_
      refine hz_iload_n hO dX11_readsGuest_53 rfl 0 rfl ?_
      obtain ⟨r56, M57, hq58, h⟩ := hz_ct_e h
      refine hz_callVi (as := [.int r15]) (rest := [.ref (hz_ad w 178)]) hO (c_X11_named l w hN r15 hq58) hz_cal_X11_named hz_K_9 hz_sh_178 (hz_lt_178 hN) tw_6_213 (Nat.le_of_ble_eq_true rfl) rfl rfl (Nat.le_of_ble_eq_true rfl) dX11_readsGuest_54 ?_
      refine hz_iconst (v := (-1 : Int32)) hO dX11_readsGuest_57 (by decide) ?_
      refine hz_icmp_ne (tgt := 65) hO dX11_readsGuest_58 (by decide) (fun hc59 => ?_) (fun hc59 => ?_)
      · rw [if_neg hc59] at h
        refine hz_iconst (v := (0 : Int32)) hO dX11_readsGuest_65 (by decide) ?_
        exact hz_ls [1, 0] rfl (gk51 r15 (0 : Int32) M57 h)
      · rw [if_pos hc59] at h
        exact hz_ls [1, 0] rfl (gk54 r15 M57 h)
  clear hk60
  refine hz_icmp_ge (tgt := 29) hO dX11_readsGuest_22 (by decide) (fun hc61 => ?_) (fun hc61 => ?_)
  · rw [if_pos hc61] at h
    refine hz_iconst (v := (0 : Int32)) hO dX11_readsGuest_29 (by decide) ?_
    exact hz_ls [0] rfl (gk60 (0 : Int32) M5 h)
  · rw [if_neg hc61] at h
    refine hz_iconst (v := (1 : Int32)) hO dX11_readsGuest_25 (by decide) ?_
    refine hz_goto (tgt := 30) hO dX11_readsGuest_26 (by decide) ?_
    exact hz_ls [0] rfl (gk60 (1 : Int32) M5 h)
def f_X11_readsSetup_L190 : Nat → Int32 → hz_M → hz_O
  | 0, _, _ => none
  | n + 1, v1_51, M52 =>
    if (M52 179 (Int32.toNatClampNeg (2 : Int32))) ≤ v1_51 then
      some (0, M52)
    else
      hz_ct (f_X11_putT v1_51 (1 : Int32) v1_51 M52) fun r54 M55 =>
      hz_lt (v1_51 + (1 : Int32)) fun x57 =>
      f_X11_readsSetup_L190 n x57 M55
def f_X11_readsSetup_L142 (kk162 : hz_M → hz_O) : Nat → hz_M → hz_O
  | 0, _ => none
  | n + 1, M61 =>
    hz_ct (f_X11_isSign (59 : Int32) M61) fun r62 M63 =>
    if r62 = 0 then
      kk162 M63
    else
      hz_ct (f_X11_goesOn M63) fun r66 M67 =>
      hz_ct (f_X11_readsGuest M67) fun r69 M70 =>
      f_X11_readsSetup_L142 kk162 n M70
def f_X11_readsSetup (M : hz_M) : hz_O :=
  hz_ct (f_X11_isWord 1 M) fun r1 M2 =>
  hz_ct (f_X11_must r1 (1 : Int32) M2) fun r4 M5 =>
  hz_ct (f_X11_passes M5) fun r7 M8 =>
  hz_ct (f_X11_number (1 : Int32) (12 : Int32) M8) fun r10 M11 =>
  hz_lm (hz_set M11 179 (Int32.toNatClampNeg (0 : Int32)) r10) fun M13 =>
  hz_ct (f_X11_number (1 : Int32) (16 : Int32) M13) fun r14 M15 =>
  hz_lm (hz_set M15 179 (Int32.toNatClampNeg (1 : Int32)) r14) fun M17 =>
  hz_ct (f_X11_number (0 : Int32) (M17 179 (Int32.toNatClampNeg (1 : Int32))) M17) fun r18 M19 =>
  hz_lm (hz_set M19 179 (Int32.toNatClampNeg (2 : Int32)) r18) fun M21 =>
  hz_ct (f_X11_number (1 : Int32) (4 : Int32) M21) fun r22 M23 =>
  hz_lm (hz_set M23 179 (Int32.toNatClampNeg (3 : Int32)) r22) fun M25 =>
  hz_ct (f_X11_number (1 : Int32) (6 : Int32) M25) fun r26 M27 =>
  hz_lm (hz_set M27 179 (Int32.toNatClampNeg (4 : Int32)) r26) fun M29 =>
  hz_ct (f_X11_number (1 : Int32) (9 : Int32) M29) fun r30 M31 =>
  hz_lm (hz_set M31 179 (Int32.toNatClampNeg (5 : Int32)) r30) fun M33 =>
  hz_ct (f_X11_number (2 : Int32) (60 : Int32) M33) fun r34 M35 =>
  hz_lm (hz_set M35 179 (Int32.toNatClampNeg (6 : Int32)) r34) fun M37 =>
  hz_ct (f_X11_number (0 : Int32) (30 : Int32) M37) fun r38 M39 =>
  hz_lm (hz_set M39 179 (Int32.toNatClampNeg (7 : Int32)) r38) fun M41 =>
  hz_lm (hz_set M41 179 (Int32.toNatClampNeg (9 : Int32)) (30 : Int32)) fun M42 =>
  hz_lm (hz_set M42 179 (Int32.toNatClampNeg (10 : Int32)) (-1 : Int32)) fun M43 =>
  hz_jn (fun  (M44 : hz_M) =>
    hz_jn (fun (q45 : Int32) (M46 : hz_M) =>
      hz_ct (f_X11_must q45 (1 : Int32) M46) fun r47 M48 =>
      if (M48 178 17) = 0 then
        f_X11_readsSetup_L190 hz_FU (0 : Int32) M48
      else
        some (0, M48)
      ) fun k58 =>
    if (M44 178 15) = 0 then
      k58 (1 : Int32) M44
    else
      k58 (0 : Int32) M44
    ) fun k60 =>
  f_X11_readsSetup_L142 k60 hz_FU M43
set_option maxRecDepth 100000 in
set_option maxHeartbeats 4000000 in
theorem g_X11_readsSetup_L190 {p : Program} {l : Launch} {e : Env} {s : State} {m : MethodId} {args : Array Value} {below : List Frame} {meth : Method} {c : Code} {w : hz_C} {N : Nat} (hN : 193 ≤ N) {rE : Int32} {ME : hz_M} (hO : hz_Ok p s m args meth c w cX11_readsSetup 2 RX11 none) : ∀ (n : Nat) (v1_51 : Int32) (M52 : hz_M), f_X11_readsSetup_L190 n v1_51 M52 = some (rE, ME) → hz_G p l e 10 hz_z0 s m args below meth c w N 2 (MQ below (hz_Qv w N ME) args s 0 0 (hz_A w)) M52 190 [(0, .ref (hz_ad w 178)), (1, .int v1_51)] [] := by
  intro n
  induction n with
  | zero =>
    intro v1_51 M52 h
    rw [f_X11_readsSetup_L190] at h
    cases h
  | succ n ih =>
    intro v1_51 M52 h
    rw [f_X11_readsSetup_L190] at h
    refine hz_iload_n hO dX11_readsSetup_190 rfl 1 rfl ?_
    refine hz_aload_n hO dX11_readsSetup_191 rfl 0 rfl ?_
    refine hz_getR (k := 0) hO 179 hz_K_9 hz_sh_178 (hz_lt_178 hN) rfl (Nat.le_of_ble_eq_true rfl) tw_6_229 rfl dX11_readsSetup_192 ?_
    refine hz_iconst (v := (2 : Int32)) hO dX11_readsSetup_195 (by decide) ?_
    refine hz_iald hO hz_sh_179 (hz_lt_179 hN) (by decide) dX11_readsSetup_196 ?_
    refine hz_icmp_ge (tgt := 213) hO dX11_readsSetup_197 (by decide) (fun hc53 => ?_) (fun hc53 => ?_)
    · rw [if_pos hc53] at h
      exact hz_nameM (hz_some_e h).2.symm (hz_vret hO dX11_readsSetup_213)
    · rw [if_neg hc53] at h
      refine hz_aload_n hO dX11_readsSetup_200 rfl 0 rfl ?_
      refine hz_iload_n hO dX11_readsSetup_201 rfl 1 rfl ?_
      refine hz_iconst (v := (1 : Int32)) hO dX11_readsSetup_202 (by decide) ?_
      refine hz_iload_n hO dX11_readsSetup_203 rfl 1 rfl ?_
      obtain ⟨r54, M55, hq56, h⟩ := hz_ct_e h
      refine hz_callVv (as := [.int v1_51, .int (1 : Int32), .int v1_51]) (rest := []) hO (c_X11_putT l w hN v1_51 (1 : Int32) v1_51 hq56) hz_cal_X11_putT hz_K_9 hz_sh_178 (hz_lt_178 hN) tw_6_225 (Nat.le_of_ble_eq_true rfl) rfl rfl (Nat.le_of_ble_eq_true rfl) dX11_readsSetup_204 ?_
      obtain ⟨x57, h_x57, h⟩ := hz_lt_e h
      refine hz_iinc (k := 1) (v := x57) (ls1 := [(1, .int x57), (0, .ref (hz_ad w 178))]) hO dX11_readsSetup_207 rfl (by rw [h_x57]; rfl) (Nat.le_of_ble_eq_true rfl) rfl ?_
      refine hz_goto (tgt := 190) hO dX11_readsSetup_210 (by decide) ?_
      exact hz_ls [1, 0] rfl (ih x57 M55 h)
set_option maxRecDepth 100000 in
set_option maxHeartbeats 4000000 in
theorem g_X11_readsSetup_L142 {p : Program} {l : Launch} {e : Env} {s : State} {m : MethodId} {args : Array Value} {below : List Frame} {meth : Method} {c : Code} {w : hz_C} {N : Nat} (hN : 193 ≤ N) {rE : Int32} {ME : hz_M} (hO : hz_Ok p s m args meth c w cX11_readsSetup 2 RX11 none) (kk162 : hz_M → hz_O) (gkk162 : ∀  (M : hz_M), kk162 M = some (rE, ME) → hz_G p l e 10 hz_z0 s m args below meth c w N 2 (MQ below (hz_Qv w N ME) args s 0 0 (hz_A w)) M 162 [(0, .ref (hz_ad w 178))] []) : ∀ (n : Nat)  (M61 : hz_M), f_X11_readsSetup_L142 kk162 n M61 = some (rE, ME) → hz_G p l e 10 hz_z0 s m args below meth c w N 2 (MQ below (hz_Qv w N ME) args s 0 0 (hz_A w)) M61 142 [(0, .ref (hz_ad w 178))] [] := by
  intro n
  induction n with
  | zero =>
    intro M61 h
    rw [f_X11_readsSetup_L142] at h
    cases h
  | succ n ih =>
    intro M61 h
    rw [f_X11_readsSetup_L142] at h
    refine hz_aload_n hO dX11_readsSetup_142 rfl 0 rfl ?_
    refine hz_bipush (v := (59 : Int32)) hO dX11_readsSetup_143 (by decide) ?_
    obtain ⟨r62, M63, hq64, h⟩ := hz_ct_e h
    refine hz_callVi (as := [.int (59 : Int32)]) (rest := []) hO (c_X11_isSign l w hN (59 : Int32) hq64) hz_cal_X11_isSign hz_K_9 hz_sh_178 (hz_lt_178 hN) tw_6_196 (Nat.le_of_ble_eq_true rfl) rfl rfl (Nat.le_of_ble_eq_true rfl) dX11_readsSetup_145 ?_
    refine hz_if_eq (tgt := 162) hO dX11_readsSetup_148 (by decide) (fun hc65 => ?_) (fun hc65 => ?_)
    · rw [if_pos hc65] at h
      exact hz_ls [0] rfl (gkk162 M63 h)
    · rw [if_neg hc65] at h
      refine hz_aload_n hO dX11_readsSetup_151 rfl 0 rfl ?_
      obtain ⟨r66, M67, hq68, h⟩ := hz_ct_e h
      refine hz_callVv (as := []) (rest := []) hO (c_X11_goesOn l w hN hq68) hz_cal_X11_goesOn hz_K_9 hz_sh_178 (hz_lt_178 hN) tw_6_163 (Nat.le_of_ble_eq_true rfl) rfl rfl (Nat.le_of_ble_eq_true rfl) dX11_readsSetup_152 ?_
      refine hz_aload_n hO dX11_readsSetup_155 rfl 0 rfl ?_
      obtain ⟨r69, M70, hq71, h⟩ := hz_ct_e h
      refine hz_callVv (as := []) (rest := []) hO (c_X11_readsGuest l w hN hq71) hz_cal_X11_readsGuest hz_K_9 hz_sh_178 (hz_lt_178 hN) tw_6_200 (Nat.le_of_ble_eq_true rfl) rfl rfl (Nat.le_of_ble_eq_true rfl) dX11_readsSetup_156 ?_
      refine hz_goto (tgt := 142) hO dX11_readsSetup_159 (by decide) ?_
      exact hz_ls [0] rfl (ih M70 h)
set_option maxRecDepth 100000 in
set_option maxHeartbeats 4000000 in
theorem c_X11_readsSetup (l : Launch) (w : hz_C) {N : Nat} (hN : 193 ≤ N) {M : hz_M} {rE : Int32} {ME : hz_M} (h : f_X11_readsSetup M = some (rE, ME)) : hz_Ct l yX11_readsSetup cX11_readsSetup 2 none 10 w N [.ref (hz_ad w 178)] M (hz_Qv w N ME) := by
  refine hz_ofW (by decide) rfl (Nat.le_of_ble_eq_true rfl) tw_6_178 ?_
  intro p e s m args below meth c hO
  show hz_G p l e 10 hz_z0 s m args below meth c w N 2 _ M 0 [(0, .ref (hz_ad w 178))] []
  unfold f_X11_readsSetup at h
  refine hz_aload_n hO dX11_readsSetup_0 rfl 0 rfl ?_
  refine hz_aload_n hO dX11_readsSetup_1 rfl 0 rfl ?_
  refine hz_ldcS (i := 1) hO (List.mem_of_getElem? (i := 21) rfl) dX11_readsSetup_2 ?_
  obtain ⟨r1, M2, hq3, h⟩ := hz_ct_e h
  refine hz_callVi (as := [.ref (hz_sa w 1)]) (rest := [.ref (hz_ad w 178)]) hO (c_X11_isWord l w hN 1 hq3) hz_cal_X11_isWord hz_K_9 hz_sh_178 (hz_lt_178 hN) tw_6_180 (Nat.le_of_ble_eq_true rfl) rfl rfl (Nat.le_of_ble_eq_true rfl) dX11_readsSetup_4 ?_
  refine hz_iconst (v := (1 : Int32)) hO dX11_readsSetup_7 (by decide) ?_
  obtain ⟨r4, M5, hq6, h⟩ := hz_ct_e h
  refine hz_callVi (as := [.int r1, .int (1 : Int32)]) (rest := []) hO (c_X11_must l w hN r1 (1 : Int32) hq6) hz_cal_X11_must hz_K_9 hz_sh_178 (hz_lt_178 hN) tw_6_184 (Nat.le_of_ble_eq_true rfl) rfl rfl (Nat.le_of_ble_eq_true rfl) dX11_readsSetup_8 ?_
  refine hz_pop hO dX11_readsSetup_11 rfl ?_
  refine hz_aload_n hO dX11_readsSetup_12 rfl 0 rfl ?_
  obtain ⟨r7, M8, hq9, h⟩ := hz_ct_e h
  refine hz_callVv (as := []) (rest := []) hO (c_X11_passes l w hN hq9) hz_cal_X11_passes hz_K_9 hz_sh_178 (hz_lt_178 hN) tw_6_188 (Nat.le_of_ble_eq_true rfl) rfl rfl (Nat.le_of_ble_eq_true rfl) dX11_readsSetup_13 ?_
  refine hz_aload_n hO dX11_readsSetup_16 rfl 0 rfl ?_
  refine hz_getR (k := 0) hO 179 hz_K_9 hz_sh_178 (hz_lt_178 hN) rfl (Nat.le_of_ble_eq_true rfl) tw_6_229 rfl dX11_readsSetup_17 ?_
  refine hz_iconst (v := (0 : Int32)) hO dX11_readsSetup_20 (by decide) ?_
  refine hz_aload_n hO dX11_readsSetup_21 rfl 0 rfl ?_
  refine hz_iconst (v := (1 : Int32)) hO dX11_readsSetup_22 (by decide) ?_
  refine hz_bipush (v := (12 : Int32)) hO dX11_readsSetup_23 (by decide) ?_
  obtain ⟨r10, M11, hq12, h⟩ := hz_ct_e h
  refine hz_callVi (as := [.int (1 : Int32), .int (12 : Int32)]) (rest := [.int (0 : Int32), .ref (hz_ad w 179)]) hO (c_X11_number l w hN (1 : Int32) (12 : Int32) hq12) hz_cal_X11_number hz_K_9 hz_sh_178 (hz_lt_178 hN) tw_6_192 (Nat.le_of_ble_eq_true rfl) rfl rfl (Nat.le_of_ble_eq_true rfl) dX11_readsSetup_25 ?_
  obtain ⟨M13, h_M13, h⟩ := hz_lm_e h
  refine hz_iast hO hz_sh_179 (hz_lt_179 hN) (by decide) dX11_readsSetup_28 ?_
  refine hz_nameM h_M13 ?_
  refine hz_aload_n hO dX11_readsSetup_29 rfl 0 rfl ?_
  refine hz_getR (k := 0) hO 179 hz_K_9 hz_sh_178 (hz_lt_178 hN) rfl (Nat.le_of_ble_eq_true rfl) tw_6_229 rfl dX11_readsSetup_30 ?_
  refine hz_iconst (v := (1 : Int32)) hO dX11_readsSetup_33 (by decide) ?_
  refine hz_aload_n hO dX11_readsSetup_34 rfl 0 rfl ?_
  refine hz_iconst (v := (1 : Int32)) hO dX11_readsSetup_35 (by decide) ?_
  refine hz_bipush (v := (16 : Int32)) hO dX11_readsSetup_36 (by decide) ?_
  obtain ⟨r14, M15, hq16, h⟩ := hz_ct_e h
  refine hz_callVi (as := [.int (1 : Int32), .int (16 : Int32)]) (rest := [.int (1 : Int32), .ref (hz_ad w 179)]) hO (c_X11_number l w hN (1 : Int32) (16 : Int32) hq16) hz_cal_X11_number hz_K_9 hz_sh_178 (hz_lt_178 hN) tw_6_192 (Nat.le_of_ble_eq_true rfl) rfl rfl (Nat.le_of_ble_eq_true rfl) dX11_readsSetup_38 ?_
  obtain ⟨M17, h_M17, h⟩ := hz_lm_e h
  refine hz_iast hO hz_sh_179 (hz_lt_179 hN) (by decide) dX11_readsSetup_41 ?_
  refine hz_nameM h_M17 ?_
  refine hz_aload_n hO dX11_readsSetup_42 rfl 0 rfl ?_
  refine hz_getR (k := 0) hO 179 hz_K_9 hz_sh_178 (hz_lt_178 hN) rfl (Nat.le_of_ble_eq_true rfl) tw_6_229 rfl dX11_readsSetup_43 ?_
  refine hz_iconst (v := (2 : Int32)) hO dX11_readsSetup_46 (by decide) ?_
  refine hz_aload_n hO dX11_readsSetup_47 rfl 0 rfl ?_
  refine hz_iconst (v := (0 : Int32)) hO dX11_readsSetup_48 (by decide) ?_
  refine hz_aload_n hO dX11_readsSetup_49 rfl 0 rfl ?_
  refine hz_getR (k := 0) hO 179 hz_K_9 hz_sh_178 (hz_lt_178 hN) rfl (Nat.le_of_ble_eq_true rfl) tw_6_229 rfl dX11_readsSetup_50 ?_
  refine hz_iconst (v := (1 : Int32)) hO dX11_readsSetup_53 (by decide) ?_
  refine hz_iald hO hz_sh_179 (hz_lt_179 hN) (by decide) dX11_readsSetup_54 ?_
  obtain ⟨r18, M19, hq20, h⟩ := hz_ct_e h
  refine hz_callVi (as := [.int (0 : Int32), .int (M17 179 (Int32.toNatClampNeg (1 : Int32)))]) (rest := [.int (2 : Int32), .ref (hz_ad w 179)]) hO (c_X11_number l w hN (0 : Int32) (M17 179 (Int32.toNatClampNeg (1 : Int32))) hq20) hz_cal_X11_number hz_K_9 hz_sh_178 (hz_lt_178 hN) tw_6_192 (Nat.le_of_ble_eq_true rfl) rfl rfl (Nat.le_of_ble_eq_true rfl) dX11_readsSetup_55 ?_
  obtain ⟨M21, h_M21, h⟩ := hz_lm_e h
  refine hz_iast hO hz_sh_179 (hz_lt_179 hN) (by decide) dX11_readsSetup_58 ?_
  refine hz_nameM h_M21 ?_
  refine hz_aload_n hO dX11_readsSetup_59 rfl 0 rfl ?_
  refine hz_getR (k := 0) hO 179 hz_K_9 hz_sh_178 (hz_lt_178 hN) rfl (Nat.le_of_ble_eq_true rfl) tw_6_229 rfl dX11_readsSetup_60 ?_
  refine hz_iconst (v := (3 : Int32)) hO dX11_readsSetup_63 (by decide) ?_
  refine hz_aload_n hO dX11_readsSetup_64 rfl 0 rfl ?_
  refine hz_iconst (v := (1 : Int32)) hO dX11_readsSetup_65 (by decide) ?_
  refine hz_iconst (v := (4 : Int32)) hO dX11_readsSetup_66 (by decide) ?_
  obtain ⟨r22, M23, hq24, h⟩ := hz_ct_e h
  refine hz_callVi (as := [.int (1 : Int32), .int (4 : Int32)]) (rest := [.int (3 : Int32), .ref (hz_ad w 179)]) hO (c_X11_number l w hN (1 : Int32) (4 : Int32) hq24) hz_cal_X11_number hz_K_9 hz_sh_178 (hz_lt_178 hN) tw_6_192 (Nat.le_of_ble_eq_true rfl) rfl rfl (Nat.le_of_ble_eq_true rfl) dX11_readsSetup_67 ?_
  obtain ⟨M25, h_M25, h⟩ := hz_lm_e h
  refine hz_iast hO hz_sh_179 (hz_lt_179 hN) (by decide) dX11_readsSetup_70 ?_
  refine hz_nameM h_M25 ?_
  refine hz_aload_n hO dX11_readsSetup_71 rfl 0 rfl ?_
  refine hz_getR (k := 0) hO 179 hz_K_9 hz_sh_178 (hz_lt_178 hN) rfl (Nat.le_of_ble_eq_true rfl) tw_6_229 rfl dX11_readsSetup_72 ?_
  refine hz_iconst (v := (4 : Int32)) hO dX11_readsSetup_75 (by decide) ?_
  refine hz_aload_n hO dX11_readsSetup_76 rfl 0 rfl ?_
  refine hz_iconst (v := (1 : Int32)) hO dX11_readsSetup_77 (by decide) ?_
  refine hz_bipush (v := (6 : Int32)) hO dX11_readsSetup_78 (by decide) ?_
  obtain ⟨r26, M27, hq28, h⟩ := hz_ct_e h
  refine hz_callVi (as := [.int (1 : Int32), .int (6 : Int32)]) (rest := [.int (4 : Int32), .ref (hz_ad w 179)]) hO (c_X11_number l w hN (1 : Int32) (6 : Int32) hq28) hz_cal_X11_number hz_K_9 hz_sh_178 (hz_lt_178 hN) tw_6_192 (Nat.le_of_ble_eq_true rfl) rfl rfl (Nat.le_of_ble_eq_true rfl) dX11_readsSetup_80 ?_
  obtain ⟨M29, h_M29, h⟩ := hz_lm_e h
  refine hz_iast hO hz_sh_179 (hz_lt_179 hN) (by decide) dX11_readsSetup_83 ?_
  refine hz_nameM h_M29 ?_
  refine hz_aload_n hO dX11_readsSetup_84 rfl 0 rfl ?_
  refine hz_getR (k := 0) hO 179 hz_K_9 hz_sh_178 (hz_lt_178 hN) rfl (Nat.le_of_ble_eq_true rfl) tw_6_229 rfl dX11_readsSetup_85 ?_
  refine hz_iconst (v := (5 : Int32)) hO dX11_readsSetup_88 (by decide) ?_
  refine hz_aload_n hO dX11_readsSetup_89 rfl 0 rfl ?_
  refine hz_iconst (v := (1 : Int32)) hO dX11_readsSetup_90 (by decide) ?_
  refine hz_bipush (v := (9 : Int32)) hO dX11_readsSetup_91 (by decide) ?_
  obtain ⟨r30, M31, hq32, h⟩ := hz_ct_e h
  refine hz_callVi (as := [.int (1 : Int32), .int (9 : Int32)]) (rest := [.int (5 : Int32), .ref (hz_ad w 179)]) hO (c_X11_number l w hN (1 : Int32) (9 : Int32) hq32) hz_cal_X11_number hz_K_9 hz_sh_178 (hz_lt_178 hN) tw_6_192 (Nat.le_of_ble_eq_true rfl) rfl rfl (Nat.le_of_ble_eq_true rfl) dX11_readsSetup_93 ?_
  obtain ⟨M33, h_M33, h⟩ := hz_lm_e h
  refine hz_iast hO hz_sh_179 (hz_lt_179 hN) (by decide) dX11_readsSetup_96 ?_
  refine hz_nameM h_M33 ?_
  refine hz_aload_n hO dX11_readsSetup_97 rfl 0 rfl ?_
  refine hz_getR (k := 0) hO 179 hz_K_9 hz_sh_178 (hz_lt_178 hN) rfl (Nat.le_of_ble_eq_true rfl) tw_6_229 rfl dX11_readsSetup_98 ?_
  refine hz_bipush (v := (6 : Int32)) hO dX11_readsSetup_101 (by decide) ?_
  refine hz_aload_n hO dX11_readsSetup_103 rfl 0 rfl ?_
  refine hz_iconst (v := (2 : Int32)) hO dX11_readsSetup_104 (by decide) ?_
  refine hz_bipush (v := (60 : Int32)) hO dX11_readsSetup_105 (by decide) ?_
  obtain ⟨r34, M35, hq36, h⟩ := hz_ct_e h
  refine hz_callVi (as := [.int (2 : Int32), .int (60 : Int32)]) (rest := [.int (6 : Int32), .ref (hz_ad w 179)]) hO (c_X11_number l w hN (2 : Int32) (60 : Int32) hq36) hz_cal_X11_number hz_K_9 hz_sh_178 (hz_lt_178 hN) tw_6_192 (Nat.le_of_ble_eq_true rfl) rfl rfl (Nat.le_of_ble_eq_true rfl) dX11_readsSetup_107 ?_
  obtain ⟨M37, h_M37, h⟩ := hz_lm_e h
  refine hz_iast hO hz_sh_179 (hz_lt_179 hN) (by decide) dX11_readsSetup_110 ?_
  refine hz_nameM h_M37 ?_
  refine hz_aload_n hO dX11_readsSetup_111 rfl 0 rfl ?_
  refine hz_getR (k := 0) hO 179 hz_K_9 hz_sh_178 (hz_lt_178 hN) rfl (Nat.le_of_ble_eq_true rfl) tw_6_229 rfl dX11_readsSetup_112 ?_
  refine hz_bipush (v := (7 : Int32)) hO dX11_readsSetup_115 (by decide) ?_
  refine hz_aload_n hO dX11_readsSetup_117 rfl 0 rfl ?_
  refine hz_iconst (v := (0 : Int32)) hO dX11_readsSetup_118 (by decide) ?_
  refine hz_bipush (v := (30 : Int32)) hO dX11_readsSetup_119 (by decide) ?_
  obtain ⟨r38, M39, hq40, h⟩ := hz_ct_e h
  refine hz_callVi (as := [.int (0 : Int32), .int (30 : Int32)]) (rest := [.int (7 : Int32), .ref (hz_ad w 179)]) hO (c_X11_number l w hN (0 : Int32) (30 : Int32) hq40) hz_cal_X11_number hz_K_9 hz_sh_178 (hz_lt_178 hN) tw_6_192 (Nat.le_of_ble_eq_true rfl) rfl rfl (Nat.le_of_ble_eq_true rfl) dX11_readsSetup_121 ?_
  obtain ⟨M41, h_M41, h⟩ := hz_lm_e h
  refine hz_iast hO hz_sh_179 (hz_lt_179 hN) (by decide) dX11_readsSetup_124 ?_
  refine hz_nameM h_M41 ?_
  refine hz_aload_n hO dX11_readsSetup_125 rfl 0 rfl ?_
  refine hz_getR (k := 0) hO 179 hz_K_9 hz_sh_178 (hz_lt_178 hN) rfl (Nat.le_of_ble_eq_true rfl) tw_6_229 rfl dX11_readsSetup_126 ?_
  refine hz_bipush (v := (9 : Int32)) hO dX11_readsSetup_129 (by decide) ?_
  refine hz_bipush (v := (30 : Int32)) hO dX11_readsSetup_131 (by decide) ?_
  obtain ⟨M42, h_M42, h⟩ := hz_lm_e h
  refine hz_iast hO hz_sh_179 (hz_lt_179 hN) (by decide) dX11_readsSetup_133 ?_
  refine hz_nameM h_M42 ?_
  refine hz_aload_n hO dX11_readsSetup_134 rfl 0 rfl ?_
  refine hz_getR (k := 0) hO 179 hz_K_9 hz_sh_178 (hz_lt_178 hN) rfl (Nat.le_of_ble_eq_true rfl) tw_6_229 rfl dX11_readsSetup_135 ?_
  refine hz_bipush (v := (10 : Int32)) hO dX11_readsSetup_138 (by decide) ?_
  refine hz_iconst (v := (-1 : Int32)) hO dX11_readsSetup_140 (by decide) ?_
  obtain ⟨M43, h_M43, h⟩ := hz_lm_e h
  refine hz_iast hO hz_sh_179 (hz_lt_179 hN) (by decide) dX11_readsSetup_141 ?_
  refine hz_nameM h_M43 ?_
  obtain ⟨k60, hk60, h⟩ := hz_jn_e h
  have gk60 : ∀  (M44 : hz_M), k60 M44 = some (rE, ME) → hz_G p l e 10 hz_z0 s m args below meth c w N 2 (MQ below (hz_Qv w N ME) args s 0 0 (hz_A w)) M44 162 [(0, .ref (hz_ad w 178))] [] := by
    intro M44 h
    rw [hk60] at h
    dsimp only at h
    refine hz_aload_n hO dX11_readsSetup_162 rfl 0 rfl ?_
    refine hz_aload_n hO dX11_readsSetup_163 rfl 0 rfl ?_
    refine hz_getI (k := 15) hO hz_K_9 hz_sh_178 (hz_lt_178 hN) rfl (Nat.le_of_ble_eq_true rfl) tw_7_4 rfl dX11_readsSetup_164 ?_
    obtain ⟨k58, hk58, h⟩ := hz_jn_e h
    have gk58 : ∀ (q45 : Int32) (M46 : hz_M), k58 q45 M46 = some (rE, ME) → hz_G p l e 10 hz_z0 s m args below meth c w N 2 (MQ below (hz_Qv w N ME) args s 0 0 (hz_A w)) M46 175 [(0, .ref (hz_ad w 178))] [.int q45, .ref (hz_ad w 178)] := by
      intro q45 M46 h
      rw [hk58] at h
      dsimp only at h
      refine hz_iconst (v := (1 : Int32)) hO dX11_readsSetup_175 (by decide) ?_
      obtain ⟨r47, M48, hq49, h⟩ := hz_ct_e h
      refine hz_callVi (as := [.int q45, .int (1 : Int32)]) (rest := []) hO (c_X11_must l w hN q45 (1 : Int32) hq49) hz_cal_X11_must hz_K_9 hz_sh_178 (hz_lt_178 hN) tw_6_184 (Nat.le_of_ble_eq_true rfl) rfl rfl (Nat.le_of_ble_eq_true rfl) dX11_readsSetup_176 ?_
      refine hz_pop hO dX11_readsSetup_179 rfl ?_
      refine hz_aload_n hO dX11_readsSetup_180 rfl 0 rfl ?_
      refine hz_getI (k := 17) hO hz_K_9 hz_sh_178 (hz_lt_178 hN) rfl (Nat.le_of_ble_eq_true rfl) tw_7_6 rfl dX11_readsSetup_181 ?_
      refine hz_if_eq (tgt := 188) hO dX11_readsSetup_184 (by decide) (fun hc50 => ?_) (fun hc50 => ?_)
      · rw [if_pos hc50] at h
        refine hz_iconst (v := (0 : Int32)) hO dX11_readsSetup_188 (by decide) ?_
        refine hz_istore_n (ls1 := [(1, .int (0 : Int32)), (0, .ref (hz_ad w 178))]) hO dX11_readsSetup_189 rfl (Nat.le_of_ble_eq_true rfl) rfl ?_
        exact hz_ls [1, 0] rfl (g_X11_readsSetup_L190 hN hO _ (0 : Int32) M48 h)
      · rw [if_neg hc50] at h
        exact hz_nameM (hz_some_e h).2.symm (hz_vret hO dX11_readsSetup_187)
    clear hk58
    refine hz_if_ne (tgt := 174) hO dX11_readsSetup_167 (by decide) (fun hc59 => ?_) (fun hc59 => ?_)
    · rw [if_neg hc59] at h
      refine hz_iconst (v := (0 : Int32)) hO dX11_readsSetup_174 (by decide) ?_
      exact hz_ls [0] rfl (gk58 (0 : Int32) M44 h)
    · rw [if_pos hc59] at h
      refine hz_iconst (v := (1 : Int32)) hO dX11_readsSetup_170 (by decide) ?_
      refine hz_goto (tgt := 175) hO dX11_readsSetup_171 (by decide) ?_
      exact hz_ls [0] rfl (gk58 (1 : Int32) M44 h)
  clear hk60
  exact hz_ls [0] rfl (g_X11_readsSetup_L142 hN hO _ gk60 _ M43 h)
def f_X11_load_L61 (kk86 : hz_M → hz_O) : Nat → Int32 → hz_M → hz_O
  | 0, _, _ => none
  | n + 1, v1_17, M18 =>
    if (185 : Int32) ≤ v1_17 then
      kk86 M18
    else
      hz_gd (hz_in v1_17 185) <|
      hz_gd (hz_in v1_17 185) <|
      hz_lm (hz_set M18 179 (Int32.toNatClampNeg v1_17) (M18 181 (Int32.toNatClampNeg v1_17))) fun M22 =>
      hz_lt (v1_17 + (1 : Int32)) fun x23 =>
      f_X11_load_L61 kk86 n x23 M22
def f_X11_load_L7 (kk39 : hz_M → hz_O) : Nat → Int32 → hz_M → hz_O
  | 0, _, _ => none
  | n + 1, v1_25, M26 =>
    if (185 : Int32) ≤ v1_25 then
      kk39 M26
    else
      hz_gd (hz_in v1_25 185) <|
      hz_gd (hz_in v1_25 185) <|
      hz_lm (hz_set M26 181 (Int32.toNatClampNeg v1_25) (M26 179 (Int32.toNatClampNeg v1_25))) fun M30 =>
      hz_gd (hz_in v1_25 185) <|
      hz_lm (hz_set M30 179 (Int32.toNatClampNeg v1_25) (0 : Int32)) fun M32 =>
      hz_lt (v1_25 + (1 : Int32)) fun x33 =>
      f_X11_load_L7 kk39 n x33 M32
def f_X11_load (M : hz_M) : hz_O :=
  hz_lm (hz_set M 178 8 (0 : Int32)) fun M1 =>
  hz_jn (fun  (M2 : hz_M) =>
    hz_ct (f_X11_starts M2) fun r3 M4 =>
    hz_ct (f_X11_readsSetup M4) fun r6 M7 =>
    hz_lm (hz_set M7 178 11 (0 : Int32)) fun M9 =>
    if (M9 178 17) = 0 then
      hz_lm (hz_set M9 178 6 (0 : Int32)) fun M11 =>
      hz_lm (hz_set M11 178 7 (0 : Int32)) fun M12 =>
      hz_lm (hz_set M12 184 (Int32.toNatClampNeg (0 : Int32)) (0 : Int32)) fun M13 =>
      hz_lm (hz_set M13 184 (Int32.toNatClampNeg (1 : Int32)) (0 : Int32)) fun M14 =>
      some ((M14 179 (Int32.toNatClampNeg (11 : Int32))), M14)
    else
      hz_jn (fun  (M15 : hz_M) =>
        some (((-20 : Int32) - (M15 178 17)), M15)
        ) fun k16 =>
      f_X11_load_L61 k16 hz_FU (0 : Int32) M9
    ) fun k24 =>
  f_X11_load_L7 k24 hz_FU (0 : Int32) M1
set_option maxRecDepth 100000 in
set_option maxHeartbeats 4000000 in
theorem g_X11_load_L61 {p : Program} {l : Launch} {e : Env} {s : State} {m : MethodId} {args : Array Value} {below : List Frame} {meth : Method} {c : Code} {w : hz_C} {N : Nat} (hN : 193 ≤ N) {rE : Int32} {ME : hz_M} (hO : hz_Ok p s m args meth c w cX11_load 2 RX11 (some .int)) (kk86 : hz_M → hz_O) (gkk86 : ∀  (M : hz_M), kk86 M = some (rE, ME) → hz_G p l e 11 hz_z0 s m args below meth c w N 2 (MQ below (hz_Qi w N rE ME) args s 0 0 (hz_A w)) M 86 [(0, .ref (hz_ad w 178))] []) : ∀ (n : Nat) (v1_17 : Int32) (M18 : hz_M), f_X11_load_L61 kk86 n v1_17 M18 = some (rE, ME) → hz_G p l e 11 hz_z0 s m args below meth c w N 2 (MQ below (hz_Qi w N rE ME) args s 0 0 (hz_A w)) M18 61 [(0, .ref (hz_ad w 178)), (1, .int v1_17)] [] := by
  intro n
  induction n with
  | zero =>
    intro v1_17 M18 h
    rw [f_X11_load_L61] at h
    cases h
  | succ n ih =>
    intro v1_17 M18 h
    rw [f_X11_load_L61] at h
    refine hz_iload_n hO dX11_load_61 rfl 1 rfl ?_
    refine hz_sipush (v := (185 : Int32)) hO dX11_load_62 (by decide) ?_
    refine hz_icmp_ge (tgt := 86) hO dX11_load_65 (by decide) (fun hc19 => ?_) (fun hc19 => ?_)
    · rw [if_pos hc19] at h
      exact hz_ls [0] rfl (gkk86 M18 h)
    · rw [if_neg hc19] at h
      refine hz_aload_n hO dX11_load_68 rfl 0 rfl ?_
      refine hz_getR (k := 0) hO 179 hz_K_9 hz_sh_178 (hz_lt_178 hN) rfl (Nat.le_of_ble_eq_true rfl) tw_6_229 rfl dX11_load_69 ?_
      refine hz_iload_n hO dX11_load_72 rfl 1 rfl ?_
      refine hz_aload_n hO dX11_load_73 rfl 0 rfl ?_
      refine hz_getR (k := 2) hO 181 hz_K_9 hz_sh_178 (hz_lt_178 hN) rfl (Nat.le_of_ble_eq_true rfl) tw_6_231 rfl dX11_load_74 ?_
      refine hz_iload_n hO dX11_load_77 rfl 1 rfl ?_
      obtain ⟨hg20, h⟩ := hz_gd_e h
      refine hz_iald hO hz_sh_181 (hz_lt_181 hN) hg20 dX11_load_78 ?_
      obtain ⟨hg21, h⟩ := hz_gd_e h
      obtain ⟨M22, h_M22, h⟩ := hz_lm_e h
      refine hz_iast hO hz_sh_179 (hz_lt_179 hN) hg21 dX11_load_79 ?_
      refine hz_nameM h_M22 ?_
      obtain ⟨x23, h_x23, h⟩ := hz_lt_e h
      refine hz_iinc (k := 1) (v := x23) (ls1 := [(1, .int x23), (0, .ref (hz_ad w 178))]) hO dX11_load_80 rfl (by rw [h_x23]; rfl) (Nat.le_of_ble_eq_true rfl) rfl ?_
      refine hz_goto (tgt := 61) hO dX11_load_83 (by decide) ?_
      exact hz_ls [1, 0] rfl (ih x23 M22 h)
set_option maxRecDepth 100000 in
set_option maxHeartbeats 4000000 in
theorem g_X11_load_L7 {p : Program} {l : Launch} {e : Env} {s : State} {m : MethodId} {args : Array Value} {below : List Frame} {meth : Method} {c : Code} {w : hz_C} {N : Nat} (hN : 193 ≤ N) {rE : Int32} {ME : hz_M} (hO : hz_Ok p s m args meth c w cX11_load 2 RX11 (some .int)) (kk39 : hz_M → hz_O) (gkk39 : ∀  (M : hz_M), kk39 M = some (rE, ME) → hz_G p l e 11 hz_z0 s m args below meth c w N 2 (MQ below (hz_Qi w N rE ME) args s 0 0 (hz_A w)) M 39 [(0, .ref (hz_ad w 178))] []) : ∀ (n : Nat) (v1_25 : Int32) (M26 : hz_M), f_X11_load_L7 kk39 n v1_25 M26 = some (rE, ME) → hz_G p l e 11 hz_z0 s m args below meth c w N 2 (MQ below (hz_Qi w N rE ME) args s 0 0 (hz_A w)) M26 7 [(0, .ref (hz_ad w 178)), (1, .int v1_25)] [] := by
  intro n
  induction n with
  | zero =>
    intro v1_25 M26 h
    rw [f_X11_load_L7] at h
    cases h
  | succ n ih =>
    intro v1_25 M26 h
    rw [f_X11_load_L7] at h
    refine hz_iload_n hO dX11_load_7 rfl 1 rfl ?_
    refine hz_sipush (v := (185 : Int32)) hO dX11_load_8 (by decide) ?_
    refine hz_icmp_ge (tgt := 39) hO dX11_load_11 (by decide) (fun hc27 => ?_) (fun hc27 => ?_)
    · rw [if_pos hc27] at h
      exact hz_ls [0] rfl (gkk39 M26 h)
    · rw [if_neg hc27] at h
      refine hz_aload_n hO dX11_load_14 rfl 0 rfl ?_
      refine hz_getR (k := 2) hO 181 hz_K_9 hz_sh_178 (hz_lt_178 hN) rfl (Nat.le_of_ble_eq_true rfl) tw_6_231 rfl dX11_load_15 ?_
      refine hz_iload_n hO dX11_load_18 rfl 1 rfl ?_
      refine hz_aload_n hO dX11_load_19 rfl 0 rfl ?_
      refine hz_getR (k := 0) hO 179 hz_K_9 hz_sh_178 (hz_lt_178 hN) rfl (Nat.le_of_ble_eq_true rfl) tw_6_229 rfl dX11_load_20 ?_
      refine hz_iload_n hO dX11_load_23 rfl 1 rfl ?_
      obtain ⟨hg28, h⟩ := hz_gd_e h
      refine hz_iald hO hz_sh_179 (hz_lt_179 hN) hg28 dX11_load_24 ?_
      obtain ⟨hg29, h⟩ := hz_gd_e h
      obtain ⟨M30, h_M30, h⟩ := hz_lm_e h
      refine hz_iast hO hz_sh_181 (hz_lt_181 hN) hg29 dX11_load_25 ?_
      refine hz_nameM h_M30 ?_
      refine hz_aload_n hO dX11_load_26 rfl 0 rfl ?_
      refine hz_getR (k := 0) hO 179 hz_K_9 hz_sh_178 (hz_lt_178 hN) rfl (Nat.le_of_ble_eq_true rfl) tw_6_229 rfl dX11_load_27 ?_
      refine hz_iload_n hO dX11_load_30 rfl 1 rfl ?_
      refine hz_iconst (v := (0 : Int32)) hO dX11_load_31 (by decide) ?_
      obtain ⟨hg31, h⟩ := hz_gd_e h
      obtain ⟨M32, h_M32, h⟩ := hz_lm_e h
      refine hz_iast hO hz_sh_179 (hz_lt_179 hN) hg31 dX11_load_32 ?_
      refine hz_nameM h_M32 ?_
      obtain ⟨x33, h_x33, h⟩ := hz_lt_e h
      refine hz_iinc (k := 1) (v := x33) (ls1 := [(1, .int x33), (0, .ref (hz_ad w 178))]) hO dX11_load_33 rfl (by rw [h_x33]; rfl) (Nat.le_of_ble_eq_true rfl) rfl ?_
      refine hz_goto (tgt := 7) hO dX11_load_36 (by decide) ?_
      exact hz_ls [1, 0] rfl (ih x33 M32 h)
set_option maxRecDepth 100000 in
set_option maxHeartbeats 4000000 in
theorem c_X11_load (l : Launch) (w : hz_C) {N : Nat} (hN : 193 ≤ N) {M : hz_M} {rE : Int32} {ME : hz_M} (h : f_X11_load M = some (rE, ME)) : hz_Ct l yX11_load cX11_load 2 (some .int) 11 w N [.ref (hz_ad w 178)] M (hz_Qi w N rE ME) := by
  refine hz_ofW (by decide) rfl (Nat.le_of_ble_eq_true rfl) tw_7_93 ?_
  intro p e s m args below meth c hO
  show hz_G p l e 11 hz_z0 s m args below meth c w N 2 _ M 0 [(0, .ref (hz_ad w 178))] []
  unfold f_X11_load at h
  refine hz_aload_n hO dX11_load_0 rfl 0 rfl ?_
  refine hz_iconst (v := (0 : Int32)) hO dX11_load_1 (by decide) ?_
  obtain ⟨M1, h_M1, h⟩ := hz_lm_e h
  refine hz_putI (k := 8) (ty := .int) hO hz_K_9 tyX11_ok nmX11 hz_sh_178 (hz_lt_178 hN) rfl (Nat.le_of_ble_eq_true rfl) tw_6_237 rfl rfl rfl rfl rfl dX11_load_2 ?_
  refine hz_nameM h_M1 ?_
  refine hz_iconst (v := (0 : Int32)) hO dX11_load_5 (by decide) ?_
  refine hz_istore_n (ls1 := [(1, .int (0 : Int32)), (0, .ref (hz_ad w 178))]) hO dX11_load_6 rfl (Nat.le_of_ble_eq_true rfl) rfl ?_
  obtain ⟨k24, hk24, h⟩ := hz_jn_e h
  have gk24 : ∀  (M2 : hz_M), k24 M2 = some (rE, ME) → hz_G p l e 11 hz_z0 s m args below meth c w N 2 (MQ below (hz_Qi w N rE ME) args s 0 0 (hz_A w)) M2 39 [(0, .ref (hz_ad w 178))] [] := by
    intro M2 h
    rw [hk24] at h
    dsimp only at h
    refine hz_aload_n hO dX11_load_39 rfl 0 rfl ?_
    obtain ⟨r3, M4, hq5, h⟩ := hz_ct_e h
    refine hz_callVv (as := []) (rest := []) hO (c_X11_starts l w hN hq5) hz_cal_X11_starts hz_K_9 hz_sh_178 (hz_lt_178 hN) tw_6_159 (Nat.le_of_ble_eq_true rfl) rfl rfl (Nat.le_of_ble_eq_true rfl) dX11_load_40 ?_
    refine hz_aload_n hO dX11_load_43 rfl 0 rfl ?_
    obtain ⟨r6, M7, hq8, h⟩ := hz_ct_e h
    refine hz_callVv (as := []) (rest := []) hO (c_X11_readsSetup l w hN hq8) hz_cal_X11_readsSetup hz_K_9 hz_sh_178 (hz_lt_178 hN) tw_6_175 (Nat.le_of_ble_eq_true rfl) rfl rfl (Nat.le_of_ble_eq_true rfl) dX11_load_44 ?_
    refine hz_aload_n hO dX11_load_47 rfl 0 rfl ?_
    refine hz_iconst (v := (0 : Int32)) hO dX11_load_48 (by decide) ?_
    obtain ⟨M9, h_M9, h⟩ := hz_lm_e h
    refine hz_putI (k := 11) (ty := .int) hO hz_K_9 tyX11_ok nmX11 hz_sh_178 (hz_lt_178 hN) rfl (Nat.le_of_ble_eq_true rfl) tw_7_0 rfl rfl rfl rfl rfl dX11_load_49 ?_
    refine hz_nameM h_M9 ?_
    refine hz_aload_n hO dX11_load_52 rfl 0 rfl ?_
    refine hz_getI (k := 17) hO hz_K_9 hz_sh_178 (hz_lt_178 hN) rfl (Nat.le_of_ble_eq_true rfl) tw_7_6 rfl dX11_load_53 ?_
    refine hz_if_eq (tgt := 94) hO dX11_load_56 (by decide) (fun hc10 => ?_) (fun hc10 => ?_)
    · rw [if_pos hc10] at h
      refine hz_aload_n hO dX11_load_94 rfl 0 rfl ?_
      refine hz_iconst (v := (0 : Int32)) hO dX11_load_95 (by decide) ?_
      obtain ⟨M11, h_M11, h⟩ := hz_lm_e h
      refine hz_putI (k := 6) (ty := .int) hO hz_K_9 tyX11_ok nmX11 hz_sh_178 (hz_lt_178 hN) rfl (Nat.le_of_ble_eq_true rfl) tw_6_235 rfl rfl rfl rfl rfl dX11_load_96 ?_
      refine hz_nameM h_M11 ?_
      refine hz_aload_n hO dX11_load_99 rfl 0 rfl ?_
      refine hz_iconst (v := (0 : Int32)) hO dX11_load_100 (by decide) ?_
      obtain ⟨M12, h_M12, h⟩ := hz_lm_e h
      refine hz_putI (k := 7) (ty := .int) hO hz_K_9 tyX11_ok nmX11 hz_sh_178 (hz_lt_178 hN) rfl (Nat.le_of_ble_eq_true rfl) tw_6_236 rfl rfl rfl rfl rfl dX11_load_101 ?_
      refine hz_nameM h_M12 ?_
      refine hz_aload_n hO dX11_load_104 rfl 0 rfl ?_
      refine hz_getR (k := 5) hO 184 hz_K_9 hz_sh_178 (hz_lt_178 hN) rfl (Nat.le_of_ble_eq_true rfl) tw_6_234 rfl dX11_load_105 ?_
      refine hz_iconst (v := (0 : Int32)) hO dX11_load_108 (by decide) ?_
      refine hz_iconst (v := (0 : Int32)) hO dX11_load_109 (by decide) ?_
      obtain ⟨M13, h_M13, h⟩ := hz_lm_e h
      refine hz_zast hO hz_sh_184 (hz_lt_184 hN) (by decide) (by decide) dX11_load_110 ?_
      refine hz_nameM h_M13 ?_
      refine hz_aload_n hO dX11_load_111 rfl 0 rfl ?_
      refine hz_getR (k := 5) hO 184 hz_K_9 hz_sh_178 (hz_lt_178 hN) rfl (Nat.le_of_ble_eq_true rfl) tw_6_234 rfl dX11_load_112 ?_
      refine hz_iconst (v := (1 : Int32)) hO dX11_load_115 (by decide) ?_
      refine hz_iconst (v := (0 : Int32)) hO dX11_load_116 (by decide) ?_
      obtain ⟨M14, h_M14, h⟩ := hz_lm_e h
      refine hz_zast hO hz_sh_184 (hz_lt_184 hN) (by decide) (by decide) dX11_load_117 ?_
      refine hz_nameM h_M14 ?_
      refine hz_aload_n hO dX11_load_118 rfl 0 rfl ?_
      refine hz_getR (k := 0) hO 179 hz_K_9 hz_sh_178 (hz_lt_178 hN) rfl (Nat.le_of_ble_eq_true rfl) tw_6_229 rfl dX11_load_119 ?_
      refine hz_bipush (v := (11 : Int32)) hO dX11_load_122 (by decide) ?_
      refine hz_iald hO hz_sh_179 (hz_lt_179 hN) (by decide) dX11_load_124 ?_
      exact hz_nameM (hz_some_e h).2.symm (hz_name (hz_some_e h).1.symm (hz_iret hO dX11_load_125))
    · rw [if_neg hc10] at h
      refine hz_iconst (v := (0 : Int32)) hO dX11_load_59 (by decide) ?_
      refine hz_istore_n (ls1 := [(1, .int (0 : Int32)), (0, .ref (hz_ad w 178))]) hO dX11_load_60 rfl (Nat.le_of_ble_eq_true rfl) rfl ?_
      obtain ⟨k16, hk16, h⟩ := hz_jn_e h
      have gk16 : ∀  (M15 : hz_M), k16 M15 = some (rE, ME) → hz_G p l e 11 hz_z0 s m args below meth c w N 2 (MQ below (hz_Qi w N rE ME) args s 0 0 (hz_A w)) M15 86 [(0, .ref (hz_ad w 178))] [] := by
        intro M15 h
        rw [hk16] at h
        dsimp only at h
        refine hz_bipush (v := (-20 : Int32)) hO dX11_load_86 (by decide) ?_
        refine hz_aload_n hO dX11_load_88 rfl 0 rfl ?_
        refine hz_getI (k := 17) hO hz_K_9 hz_sh_178 (hz_lt_178 hN) rfl (Nat.le_of_ble_eq_true rfl) tw_7_6 rfl dX11_load_89 ?_
        refine hz_isub hO dX11_load_92 ?_
        exact hz_nameM (hz_some_e h).2.symm (hz_name (hz_some_e h).1.symm (hz_iret hO dX11_load_93))
      clear hk16
      exact hz_ls [1, 0] rfl (g_X11_load_L61 hN hO _ gk16 _ (0 : Int32) M9 h)
  clear hk24
  exact hz_ls [1, 0] rfl (g_X11_load_L7 hN hO _ gk24 _ (0 : Int32) M1 h)
def f_X11_orderHere (M : hz_M) : hz_O :=
  hz_ct (f_X11_isWord 3 M) fun r1 M2 =>
  if r1 = 0 then
    hz_ct (f_X11_isWord 4 M2) fun r5 M6 =>
    if r5 = 0 then
      hz_ct (f_X11_isWord 5 M6) fun r9 M10 =>
      if r9 = 0 then
        hz_ct (f_X11_isWord 6 M10) fun r13 M14 =>
        if r13 = 0 then
          hz_ct (f_X11_isWord 7 M14) fun r17 M18 =>
          if r17 = 0 then
            hz_ct (f_X11_isWord 8 M18) fun r21 M22 =>
            if r21 = 0 then
              hz_ct (f_X11_isWord 9 M22) fun r25 M26 =>
              if r25 = 0 then
                hz_ct (f_X11_isWord 10 M26) fun r29 M30 =>
                if r29 = 0 then
                  hz_ct (f_X11_isWord 11 M30) fun r33 M34 =>
                  if r33 = 0 then
                    hz_ct (f_X11_isWord 12 M34) fun r37 M38 =>
                    if r37 = 0 then
                      hz_ct (f_X11_isWord 13 M38) fun r41 M42 =>
                      if r41 = 0 then
                        some ((-1 : Int32), M42)
                      else
                        some ((10 : Int32), M42)
                    else
                      some ((9 : Int32), M38)
                  else
                    some ((8 : Int32), M34)
                else
                  some ((7 : Int32), M30)
              else
                some ((6 : Int32), M26)
            else
              some ((5 : Int32), M22)
          else
            some ((4 : Int32), M18)
        else
          some ((3 : Int32), M14)
      else
        some ((2 : Int32), M10)
    else
      some ((1 : Int32), M6)
  else
    some ((0 : Int32), M2)
set_option maxRecDepth 100000 in
set_option maxHeartbeats 4000000 in
theorem c_X11_orderHere (l : Launch) (w : hz_C) {N : Nat} (hN : 193 ≤ N) {M : hz_M} {rE : Int32} {ME : hz_M} (h : f_X11_orderHere M = some (rE, ME)) : hz_Ct l yX11_orderHere cX11_orderHere 1 (some .int) 9 w N [.ref (hz_ad w 178)] M (hz_Qi w N rE ME) := by
  refine hz_ofW (by decide) rfl (Nat.le_of_ble_eq_true rfl) tw_7_109 ?_
  intro p e s m args below meth c hO
  show hz_G p l e 9 hz_z0 s m args below meth c w N 1 _ M 0 [(0, .ref (hz_ad w 178))] []
  unfold f_X11_orderHere at h
  refine hz_aload_n hO dX11_orderHere_0 rfl 0 rfl ?_
  refine hz_ldcS (i := 3) hO (List.mem_of_getElem? (i := 22) rfl) dX11_orderHere_1 ?_
  obtain ⟨r1, M2, hq3, h⟩ := hz_ct_e h
  refine hz_callVi (as := [.ref (hz_sa w 3)]) (rest := []) hO (c_X11_isWord l w hN 3 hq3) hz_cal_X11_isWord hz_K_9 hz_sh_178 (hz_lt_178 hN) tw_6_180 (Nat.le_of_ble_eq_true rfl) rfl rfl (Nat.le_of_ble_eq_true rfl) dX11_orderHere_3 ?_
  refine hz_if_eq (tgt := 11) hO dX11_orderHere_6 (by decide) (fun hc4 => ?_) (fun hc4 => ?_)
  · rw [if_pos hc4] at h
    refine hz_aload_n hO dX11_orderHere_11 rfl 0 rfl ?_
    refine hz_ldcS (i := 4) hO (List.mem_of_getElem? (i := 23) rfl) dX11_orderHere_12 ?_
    obtain ⟨r5, M6, hq7, h⟩ := hz_ct_e h
    refine hz_callVi (as := [.ref (hz_sa w 4)]) (rest := []) hO (c_X11_isWord l w hN 4 hq7) hz_cal_X11_isWord hz_K_9 hz_sh_178 (hz_lt_178 hN) tw_6_180 (Nat.le_of_ble_eq_true rfl) rfl rfl (Nat.le_of_ble_eq_true rfl) dX11_orderHere_14 ?_
    refine hz_if_eq (tgt := 22) hO dX11_orderHere_17 (by decide) (fun hc8 => ?_) (fun hc8 => ?_)
    · rw [if_pos hc8] at h
      refine hz_aload_n hO dX11_orderHere_22 rfl 0 rfl ?_
      refine hz_ldcwS (i := 5) hO (List.mem_of_getElem? (i := 24) rfl) dX11_orderHere_23 ?_
      obtain ⟨r9, M10, hq11, h⟩ := hz_ct_e h
      refine hz_callVi (as := [.ref (hz_sa w 5)]) (rest := []) hO (c_X11_isWord l w hN 5 hq11) hz_cal_X11_isWord hz_K_9 hz_sh_178 (hz_lt_178 hN) tw_6_180 (Nat.le_of_ble_eq_true rfl) rfl rfl (Nat.le_of_ble_eq_true rfl) dX11_orderHere_26 ?_
      refine hz_if_eq (tgt := 34) hO dX11_orderHere_29 (by decide) (fun hc12 => ?_) (fun hc12 => ?_)
      · rw [if_pos hc12] at h
        refine hz_aload_n hO dX11_orderHere_34 rfl 0 rfl ?_
        refine hz_ldcwS (i := 6) hO (List.mem_of_getElem? (i := 25) rfl) dX11_orderHere_35 ?_
        obtain ⟨r13, M14, hq15, h⟩ := hz_ct_e h
        refine hz_callVi (as := [.ref (hz_sa w 6)]) (rest := []) hO (c_X11_isWord l w hN 6 hq15) hz_cal_X11_isWord hz_K_9 hz_sh_178 (hz_lt_178 hN) tw_6_180 (Nat.le_of_ble_eq_true rfl) rfl rfl (Nat.le_of_ble_eq_true rfl) dX11_orderHere_38 ?_
        refine hz_if_eq (tgt := 46) hO dX11_orderHere_41 (by decide) (fun hc16 => ?_) (fun hc16 => ?_)
        · rw [if_pos hc16] at h
          refine hz_aload_n hO dX11_orderHere_46 rfl 0 rfl ?_
          refine hz_ldcwS (i := 7) hO (List.mem_of_getElem? (i := 26) rfl) dX11_orderHere_47 ?_
          obtain ⟨r17, M18, hq19, h⟩ := hz_ct_e h
          refine hz_callVi (as := [.ref (hz_sa w 7)]) (rest := []) hO (c_X11_isWord l w hN 7 hq19) hz_cal_X11_isWord hz_K_9 hz_sh_178 (hz_lt_178 hN) tw_6_180 (Nat.le_of_ble_eq_true rfl) rfl rfl (Nat.le_of_ble_eq_true rfl) dX11_orderHere_50 ?_
          refine hz_if_eq (tgt := 58) hO dX11_orderHere_53 (by decide) (fun hc20 => ?_) (fun hc20 => ?_)
          · rw [if_pos hc20] at h
            refine hz_aload_n hO dX11_orderHere_58 rfl 0 rfl ?_
            refine hz_ldcwS (i := 8) hO (List.mem_of_getElem? (i := 27) rfl) dX11_orderHere_59 ?_
            obtain ⟨r21, M22, hq23, h⟩ := hz_ct_e h
            refine hz_callVi (as := [.ref (hz_sa w 8)]) (rest := []) hO (c_X11_isWord l w hN 8 hq23) hz_cal_X11_isWord hz_K_9 hz_sh_178 (hz_lt_178 hN) tw_6_180 (Nat.le_of_ble_eq_true rfl) rfl rfl (Nat.le_of_ble_eq_true rfl) dX11_orderHere_62 ?_
            refine hz_if_eq (tgt := 70) hO dX11_orderHere_65 (by decide) (fun hc24 => ?_) (fun hc24 => ?_)
            · rw [if_pos hc24] at h
              refine hz_aload_n hO dX11_orderHere_70 rfl 0 rfl ?_
              refine hz_ldcwS (i := 9) hO (List.mem_of_getElem? (i := 28) rfl) dX11_orderHere_71 ?_
              obtain ⟨r25, M26, hq27, h⟩ := hz_ct_e h
              refine hz_callVi (as := [.ref (hz_sa w 9)]) (rest := []) hO (c_X11_isWord l w hN 9 hq27) hz_cal_X11_isWord hz_K_9 hz_sh_178 (hz_lt_178 hN) tw_6_180 (Nat.le_of_ble_eq_true rfl) rfl rfl (Nat.le_of_ble_eq_true rfl) dX11_orderHere_74 ?_
              refine hz_if_eq (tgt := 83) hO dX11_orderHere_77 (by decide) (fun hc28 => ?_) (fun hc28 => ?_)
              · rw [if_pos hc28] at h
                refine hz_aload_n hO dX11_orderHere_83 rfl 0 rfl ?_
                refine hz_ldcwS (i := 10) hO (List.mem_of_getElem? (i := 29) rfl) dX11_orderHere_84 ?_
                obtain ⟨r29, M30, hq31, h⟩ := hz_ct_e h
                refine hz_callVi (as := [.ref (hz_sa w 10)]) (rest := []) hO (c_X11_isWord l w hN 10 hq31) hz_cal_X11_isWord hz_K_9 hz_sh_178 (hz_lt_178 hN) tw_6_180 (Nat.le_of_ble_eq_true rfl) rfl rfl (Nat.le_of_ble_eq_true rfl) dX11_orderHere_87 ?_
                refine hz_if_eq (tgt := 96) hO dX11_orderHere_90 (by decide) (fun hc32 => ?_) (fun hc32 => ?_)
                · rw [if_pos hc32] at h
                  refine hz_aload_n hO dX11_orderHere_96 rfl 0 rfl ?_
                  refine hz_ldcwS (i := 11) hO (List.mem_of_getElem? (i := 30) rfl) dX11_orderHere_97 ?_
                  obtain ⟨r33, M34, hq35, h⟩ := hz_ct_e h
                  refine hz_callVi (as := [.ref (hz_sa w 11)]) (rest := []) hO (c_X11_isWord l w hN 11 hq35) hz_cal_X11_isWord hz_K_9 hz_sh_178 (hz_lt_178 hN) tw_6_180 (Nat.le_of_ble_eq_true rfl) rfl rfl (Nat.le_of_ble_eq_true rfl) dX11_orderHere_100 ?_
                  refine hz_if_eq (tgt := 109) hO dX11_orderHere_103 (by decide) (fun hc36 => ?_) (fun hc36 => ?_)
                  · rw [if_pos hc36] at h
                    refine hz_aload_n hO dX11_orderHere_109 rfl 0 rfl ?_
                    refine hz_ldcwS (i := 12) hO (List.mem_of_getElem? (i := 31) rfl) dX11_orderHere_110 ?_
                    obtain ⟨r37, M38, hq39, h⟩ := hz_ct_e h
                    refine hz_callVi (as := [.ref (hz_sa w 12)]) (rest := []) hO (c_X11_isWord l w hN 12 hq39) hz_cal_X11_isWord hz_K_9 hz_sh_178 (hz_lt_178 hN) tw_6_180 (Nat.le_of_ble_eq_true rfl) rfl rfl (Nat.le_of_ble_eq_true rfl) dX11_orderHere_113 ?_
                    refine hz_if_eq (tgt := 122) hO dX11_orderHere_116 (by decide) (fun hc40 => ?_) (fun hc40 => ?_)
                    · rw [if_pos hc40] at h
                      refine hz_aload_n hO dX11_orderHere_122 rfl 0 rfl ?_
                      refine hz_ldcwS (i := 13) hO (List.mem_of_getElem? (i := 32) rfl) dX11_orderHere_123 ?_
                      obtain ⟨r41, M42, hq43, h⟩ := hz_ct_e h
                      refine hz_callVi (as := [.ref (hz_sa w 13)]) (rest := []) hO (c_X11_isWord l w hN 13 hq43) hz_cal_X11_isWord hz_K_9 hz_sh_178 (hz_lt_178 hN) tw_6_180 (Nat.le_of_ble_eq_true rfl) rfl rfl (Nat.le_of_ble_eq_true rfl) dX11_orderHere_126 ?_
                      refine hz_if_eq (tgt := 137) hO dX11_orderHere_129 (by decide) (fun hc44 => ?_) (fun hc44 => ?_)
                      · rw [if_pos hc44] at h
                        refine hz_iconst (v := (-1 : Int32)) hO dX11_orderHere_137 (by decide) ?_
                        exact hz_nameM (hz_some_e h).2.symm (hz_name (hz_some_e h).1.symm (hz_iret hO dX11_orderHere_138))
                      · rw [if_neg hc44] at h
                        refine hz_bipush (v := (10 : Int32)) hO dX11_orderHere_132 (by decide) ?_
                        refine hz_goto (tgt := 138) hO dX11_orderHere_134 (by decide) ?_
                        exact hz_nameM (hz_some_e h).2.symm (hz_name (hz_some_e h).1.symm (hz_iret hO dX11_orderHere_138))
                    · rw [if_neg hc40] at h
                      refine hz_bipush (v := (9 : Int32)) hO dX11_orderHere_119 (by decide) ?_
                      exact hz_nameM (hz_some_e h).2.symm (hz_name (hz_some_e h).1.symm (hz_iret hO dX11_orderHere_121))
                  · rw [if_neg hc36] at h
                    refine hz_bipush (v := (8 : Int32)) hO dX11_orderHere_106 (by decide) ?_
                    exact hz_nameM (hz_some_e h).2.symm (hz_name (hz_some_e h).1.symm (hz_iret hO dX11_orderHere_108))
                · rw [if_neg hc32] at h
                  refine hz_bipush (v := (7 : Int32)) hO dX11_orderHere_93 (by decide) ?_
                  exact hz_nameM (hz_some_e h).2.symm (hz_name (hz_some_e h).1.symm (hz_iret hO dX11_orderHere_95))
              · rw [if_neg hc28] at h
                refine hz_bipush (v := (6 : Int32)) hO dX11_orderHere_80 (by decide) ?_
                exact hz_nameM (hz_some_e h).2.symm (hz_name (hz_some_e h).1.symm (hz_iret hO dX11_orderHere_82))
            · rw [if_neg hc24] at h
              refine hz_iconst (v := (5 : Int32)) hO dX11_orderHere_68 (by decide) ?_
              exact hz_nameM (hz_some_e h).2.symm (hz_name (hz_some_e h).1.symm (hz_iret hO dX11_orderHere_69))
          · rw [if_neg hc20] at h
            refine hz_iconst (v := (4 : Int32)) hO dX11_orderHere_56 (by decide) ?_
            exact hz_nameM (hz_some_e h).2.symm (hz_name (hz_some_e h).1.symm (hz_iret hO dX11_orderHere_57))
        · rw [if_neg hc16] at h
          refine hz_iconst (v := (3 : Int32)) hO dX11_orderHere_44 (by decide) ?_
          exact hz_nameM (hz_some_e h).2.symm (hz_name (hz_some_e h).1.symm (hz_iret hO dX11_orderHere_45))
      · rw [if_neg hc12] at h
        refine hz_iconst (v := (2 : Int32)) hO dX11_orderHere_32 (by decide) ?_
        exact hz_nameM (hz_some_e h).2.symm (hz_name (hz_some_e h).1.symm (hz_iret hO dX11_orderHere_33))
    · rw [if_neg hc8] at h
      refine hz_iconst (v := (1 : Int32)) hO dX11_orderHere_20 (by decide) ?_
      exact hz_nameM (hz_some_e h).2.symm (hz_name (hz_some_e h).1.symm (hz_iret hO dX11_orderHere_21))
  · rw [if_neg hc4] at h
    refine hz_iconst (v := (0 : Int32)) hO dX11_orderHere_9 (by decide) ?_
    exact hz_nameM (hz_some_e h).2.symm (hz_name (hz_some_e h).1.symm (hz_iret hO dX11_orderHere_10))
def r_X11_readsAgain (rec : Int32 → hz_M → hz_O) (a1 : Int32) (a2 : Int32) (M : hz_M) : hz_O :=
  hz_ct (f_X11_number (0 : Int32) (20 : Int32) M) fun r1 M2 =>
  hz_gd (hz_in a1 30) <|
  hz_lm (hz_set M2 189 (Int32.toNatClampNeg a1) r1) fun M5 =>
  hz_ct (f_X11_isSign (40 : Int32) M5) fun r6 M7 =>
  hz_ct (f_X11_must r6 (1 : Int32) M7) fun r9 M10 =>
  hz_jn (fun (v1_12 : Int32) (v2_13 : Int32) (M14 : hz_M) =>
    hz_ct (f_X11_passes M14) fun r15 M16 =>
    hz_ct (rec (v2_13 + (1 : Int32)) M16) fun r18 M19 =>
    hz_ct (f_X11_takesSign (41 : Int32) M19) fun r21 M22 =>
    hz_gd (hz_in v1_12 30) <|
    hz_lm (hz_set M22 190 (Int32.toNatClampNeg v1_12) (M22 178 22)) fun M25 =>
    some (0, M25)
    ) fun k26 =>
  if r9 = 0 then
    k26 a1 a2 M10
  else
    hz_jn (fun (v1_28 : Int32) (v2_29 : Int32) (q30 : Int32) (M31 : hz_M) =>
      hz_ct (f_X11_must q30 (4 : Int32) M31) fun r32 M33 =>
      k26 v1_28 v2_29 M33
      ) fun k35 =>
    if (2 : Int32) ≤ a2 then
      k35 a1 a2 (0 : Int32) M10
    else
      k35 a1 a2 (1 : Int32) M10
set_option maxRecDepth 100000 in
set_option maxHeartbeats 4000000 in
theorem cr_X11_readsAgain (l : Launch) (w : hz_C) {N : Nat} (hN : 193 ≤ N) {hc : Nat} (hb : 20 ≤ hc) {rec : Int32 → hz_M → hz_O} (hrec : ∀ (b0 : Int32) (M : hz_M) (rE : Int32) (ME : hz_M), rec b0 M = some (rE, ME) → hz_Ct l yX11_readsOrders cX11_readsOrders 2 none hc w N [.ref (hz_ad w 178), .int b0] M (hz_Qv w N ME)) (a1 : Int32) (a2 : Int32) {M : hz_M} {rE : Int32} {ME : hz_M} (h : r_X11_readsAgain rec a1 a2 M = some (rE, ME)) : hz_Ct l yX11_readsAgain cX11_readsAgain 3 none (hc + 1) w N [.ref (hz_ad w 178), .int a1, .int a2] M (hz_Qv w N ME) := by
  refine hz_ofW (by decide) rfl (Nat.le_of_ble_eq_true rfl) tw_7_124 ?_
  intro p e s m args below meth c hO
  show hz_G p l e (hc + 1) hz_z0 s m args below meth c w N 3 _ M 0 [(0, .ref (hz_ad w 178)), (1, .int a1), (2, .int a2)] []
  unfold r_X11_readsAgain at h
  refine hz_aload_n hO dX11_readsAgain_0 rfl 0 rfl ?_
  refine hz_getR (k := 20) hO 189 hz_K_9 hz_sh_178 (hz_lt_178 hN) rfl (Nat.le_of_ble_eq_true rfl) tw_7_9 rfl dX11_readsAgain_1 ?_
  refine hz_iload_n hO dX11_readsAgain_4 rfl 1 rfl ?_
  refine hz_aload_n hO dX11_readsAgain_5 rfl 0 rfl ?_
  refine hz_iconst (v := (0 : Int32)) hO dX11_readsAgain_6 (by decide) ?_
  refine hz_bipush (v := (20 : Int32)) hO dX11_readsAgain_7 (by decide) ?_
  obtain ⟨r1, M2, hq3, h⟩ := hz_ct_e h
  refine hz_callVi (as := [.int (0 : Int32), .int (20 : Int32)]) (rest := [.int a1, .ref (hz_ad w 189)]) hO (c_X11_number l w hN (0 : Int32) (20 : Int32) hq3) hz_cal_X11_number hz_K_9 hz_sh_178 (hz_lt_178 hN) tw_6_192 (by omega) rfl rfl (Nat.le_of_ble_eq_true rfl) dX11_readsAgain_9 ?_
  obtain ⟨hg4, h⟩ := hz_gd_e h
  obtain ⟨M5, h_M5, h⟩ := hz_lm_e h
  refine hz_iast hO hz_sh_189 (hz_lt_189 hN) hg4 dX11_readsAgain_12 ?_
  refine hz_nameM h_M5 ?_
  refine hz_aload_n hO dX11_readsAgain_13 rfl 0 rfl ?_
  refine hz_aload_n hO dX11_readsAgain_14 rfl 0 rfl ?_
  refine hz_bipush (v := (40 : Int32)) hO dX11_readsAgain_15 (by decide) ?_
  obtain ⟨r6, M7, hq8, h⟩ := hz_ct_e h
  refine hz_callVi (as := [.int (40 : Int32)]) (rest := [.ref (hz_ad w 178)]) hO (c_X11_isSign l w hN (40 : Int32) hq8) hz_cal_X11_isSign hz_K_9 hz_sh_178 (hz_lt_178 hN) tw_6_196 (by omega) rfl rfl (Nat.le_of_ble_eq_true rfl) dX11_readsAgain_17 ?_
  refine hz_iconst (v := (1 : Int32)) hO dX11_readsAgain_20 (by decide) ?_
  obtain ⟨r9, M10, hq11, h⟩ := hz_ct_e h
  refine hz_callVi (as := [.int r6, .int (1 : Int32)]) (rest := []) hO (c_X11_must l w hN r6 (1 : Int32) hq11) hz_cal_X11_must hz_K_9 hz_sh_178 (hz_lt_178 hN) tw_6_184 (by omega) rfl rfl (Nat.le_of_ble_eq_true rfl) dX11_readsAgain_21 ?_
  obtain ⟨k26, hk26, h⟩ := hz_jn_e h
  have gk26 : ∀ (v1_12 : Int32) (v2_13 : Int32) (M14 : hz_M), k26 v1_12 v2_13 M14 = some (rE, ME) → hz_G p l e (hc + 1) hz_z0 s m args below meth c w N 3 (MQ below (hz_Qv w N ME) args s 0 0 (hz_A w)) M14 43 [(0, .ref (hz_ad w 178)), (1, .int v1_12), (2, .int v2_13)] [] := by
    intro v1_12 v2_13 M14 h
    rw [hk26] at h
    dsimp only at h
    refine hz_aload_n hO dX11_readsAgain_43 rfl 0 rfl ?_
    obtain ⟨r15, M16, hq17, h⟩ := hz_ct_e h
    refine hz_callVv (as := []) (rest := []) hO (c_X11_passes l w hN hq17) hz_cal_X11_passes hz_K_9 hz_sh_178 (hz_lt_178 hN) tw_6_188 (by omega) rfl rfl (Nat.le_of_ble_eq_true rfl) dX11_readsAgain_44 ?_
    refine hz_aload_n hO dX11_readsAgain_47 rfl 0 rfl ?_
    refine hz_iload_n hO dX11_readsAgain_48 rfl 2 rfl ?_
    refine hz_iconst (v := (1 : Int32)) hO dX11_readsAgain_49 (by decide) ?_
    refine hz_iadd hO dX11_readsAgain_50 ?_
    obtain ⟨r18, M19, hq20, h⟩ := hz_ct_e h
    refine hz_callVv (as := [.int (v2_13 + (1 : Int32))]) (rest := []) hO (hrec (v2_13 + (1 : Int32)) _ _ _ hq20) hz_cal_X11_readsOrders hz_K_9 hz_sh_178 (hz_lt_178 hN) tw_7_98 (by omega) rfl rfl (Nat.le_of_ble_eq_true rfl) dX11_readsAgain_51 ?_
    refine hz_aload_n hO dX11_readsAgain_54 rfl 0 rfl ?_
    refine hz_bipush (v := (41 : Int32)) hO dX11_readsAgain_55 (by decide) ?_
    obtain ⟨r21, M22, hq23, h⟩ := hz_ct_e h
    refine hz_callVv (as := [.int (41 : Int32)]) (rest := []) hO (c_X11_takesSign l w hN (41 : Int32) hq23) hz_cal_X11_takesSign hz_K_9 hz_sh_178 (hz_lt_178 hN) tw_7_125 (by omega) rfl rfl (Nat.le_of_ble_eq_true rfl) dX11_readsAgain_57 ?_
    refine hz_aload_n hO dX11_readsAgain_60 rfl 0 rfl ?_
    refine hz_getR (k := 21) hO 190 hz_K_9 hz_sh_178 (hz_lt_178 hN) rfl (Nat.le_of_ble_eq_true rfl) tw_7_10 rfl dX11_readsAgain_61 ?_
    refine hz_iload_n hO dX11_readsAgain_64 rfl 1 rfl ?_
    refine hz_aload_n hO dX11_readsAgain_65 rfl 0 rfl ?_
    refine hz_getI (k := 22) hO hz_K_9 hz_sh_178 (hz_lt_178 hN) rfl (Nat.le_of_ble_eq_true rfl) tw_7_11 rfl dX11_readsAgain_66 ?_
    obtain ⟨hg24, h⟩ := hz_gd_e h
    obtain ⟨M25, h_M25, h⟩ := hz_lm_e h
    refine hz_iast hO hz_sh_190 (hz_lt_190 hN) hg24 dX11_readsAgain_69 ?_
    refine hz_nameM h_M25 ?_
    exact hz_nameM (hz_some_e h).2.symm (hz_vret hO dX11_readsAgain_70)
  clear hk26
  refine hz_if_eq (tgt := 43) hO dX11_readsAgain_24 (by decide) (fun hc27 => ?_) (fun hc27 => ?_)
  · rw [if_pos hc27] at h
    exact hz_ls [0, 1, 2] rfl (gk26 a1 a2 M10 h)
  · rw [if_neg hc27] at h
    refine hz_aload_n hO dX11_readsAgain_27 rfl 0 rfl ?_
    refine hz_iload_n hO dX11_readsAgain_28 rfl 2 rfl ?_
    refine hz_iconst (v := (2 : Int32)) hO dX11_readsAgain_29 (by decide) ?_
    obtain ⟨k35, hk35, h⟩ := hz_jn_e h
    have gk35 : ∀ (v1_28 : Int32) (v2_29 : Int32) (q30 : Int32) (M31 : hz_M), k35 v1_28 v2_29 q30 M31 = some (rE, ME) → hz_G p l e (hc + 1) hz_z0 s m args below meth c w N 3 (MQ below (hz_Qv w N ME) args s 0 0 (hz_A w)) M31 38 [(0, .ref (hz_ad w 178)), (1, .int v1_28), (2, .int v2_29)] [.int q30, .ref (hz_ad w 178)] := by
      intro v1_28 v2_29 q30 M31 h
      rw [hk35] at h
      dsimp only at h
      refine hz_iconst (v := (4 : Int32)) hO dX11_readsAgain_38 (by decide) ?_
      obtain ⟨r32, M33, hq34, h⟩ := hz_ct_e h
      refine hz_callVi (as := [.int q30, .int (4 : Int32)]) (rest := []) hO (c_X11_must l w hN q30 (4 : Int32) hq34) hz_cal_X11_must hz_K_9 hz_sh_178 (hz_lt_178 hN) tw_6_184 (by omega) rfl rfl (Nat.le_of_ble_eq_true rfl) dX11_readsAgain_39 ?_
      refine hz_pop hO dX11_readsAgain_42 rfl ?_
      exact hz_ls [0, 1, 2] rfl (gk26 v1_28 v2_29 M33 h)
    clear hk35
    refine hz_icmp_ge (tgt := 37) hO dX11_readsAgain_30 (by decide) (fun hc36 => ?_) (fun hc36 => ?_)
    · rw [if_pos hc36] at h
      refine hz_iconst (v := (0 : Int32)) hO dX11_readsAgain_37 (by decide) ?_
      exact hz_ls [0, 1, 2] rfl (gk35 a1 a2 (0 : Int32) M10 h)
    · rw [if_neg hc36] at h
      refine hz_iconst (v := (1 : Int32)) hO dX11_readsAgain_33 (by decide) ?_
      refine hz_goto (tgt := 38) hO dX11_readsAgain_34 (by decide) ?_
      exact hz_ls [0, 1, 2] rfl (gk35 a1 a2 (1 : Int32) M10 h)
def r_X11_readsOrder (rec : Int32 → hz_M → hz_O) (a1 : Int32) (M : hz_M) : hz_O :=
  hz_ct (f_X11_orderHere M) fun r1 M2 =>
  hz_jn (fun (v1_4 : Int32) (v2_5 : Int32) (q6 : Int32) (M7 : hz_M) =>
    hz_ct (f_X11_must q6 (1 : Int32) M7) fun r8 M9 =>
    if r8 = 0 then
      some (0, M9)
    else
      hz_jn (fun (v1_12 : Int32) (v2_13 : Int32) (q14 : Int32) (M15 : hz_M) =>
        hz_ct (f_X11_must q14 (4 : Int32) M15) fun r16 M17 =>
        if r16 = 0 then
          some (0, M17)
        else
          hz_lt ((M17 178 22)) fun x20 =>
          hz_gd (hz_in x20 30) <|
          hz_lm (hz_set M17 187 (Int32.toNatClampNeg x20) v2_13) fun M22 =>
          hz_lm (hz_set M22 178 22 ((M22 178 22) + (1 : Int32))) fun M23 =>
          hz_ct (f_X11_goesOn M23) fun r24 M25 =>
          hz_jn (fun  (M27 : hz_M) =>
            hz_ct (f_X11_takesSign (59 : Int32) M27) fun r28 M29 =>
            some (0, M29)
            ) fun k31 =>
          if v2_13 = (10 : Int32) then
            hz_ct (r_X11_readsAgain rec x20 v1_12 M25) fun r36 M37 =>
            k31 M37
          else
            hz_ct (f_X11_readsSingle x20 M25) fun r33 M34 =>
            k31 M34
        ) fun k39 =>
      if (30 : Int32) ≤ (M9 178 22) then
        k39 v1_4 v2_5 (0 : Int32) M9
      else
        k39 v1_4 v2_5 (1 : Int32) M9
    ) fun k41 =>
  if r1 = (-1 : Int32) then
    k41 a1 r1 (0 : Int32) M2
  else
    k41 a1 r1 (1 : Int32) M2
set_option maxRecDepth 100000 in
set_option maxHeartbeats 4000000 in
theorem cr_X11_readsOrder (l : Launch) (w : hz_C) {N : Nat} (hN : 193 ≤ N) {hc : Nat} (hb : 20 ≤ hc) {rec : Int32 → hz_M → hz_O} (hrec : ∀ (b0 : Int32) (M : hz_M) (rE : Int32) (ME : hz_M), rec b0 M = some (rE, ME) → hz_Ct l yX11_readsOrders cX11_readsOrders 2 none hc w N [.ref (hz_ad w 178), .int b0] M (hz_Qv w N ME)) (a1 : Int32) {M : hz_M} {rE : Int32} {ME : hz_M} (h : r_X11_readsOrder rec a1 M = some (rE, ME)) : hz_Ct l yX11_readsOrder cX11_readsOrder 4 none (hc + 2) w N [.ref (hz_ad w 178), .int a1] M (hz_Qv w N ME) := by
  refine hz_ofW (by decide) rfl (Nat.le_of_ble_eq_true rfl) tw_7_105 ?_
  intro p e s m args below meth c hO
  show hz_G p l e (hc + 2) hz_z0 s m args below meth c w N 4 _ M 0 [(0, .ref (hz_ad w 178)), (1, .int a1)] []
  unfold r_X11_readsOrder at h
  refine hz_aload_n hO dX11_readsOrder_0 rfl 0 rfl ?_
  obtain ⟨r1, M2, hq3, h⟩ := hz_ct_e h
  refine hz_callVi (as := []) (rest := []) hO (c_X11_orderHere l w hN hq3) hz_cal_X11_orderHere hz_K_9 hz_sh_178 (hz_lt_178 hN) tw_7_106 (by omega) rfl rfl (Nat.le_of_ble_eq_true rfl) dX11_readsOrder_1 ?_
  refine hz_istore_n (ls1 := [(2, .int r1), (0, .ref (hz_ad w 178)), (1, .int a1)]) hO dX11_readsOrder_4 rfl (Nat.le_of_ble_eq_true rfl) rfl ?_
  refine hz_aload_n hO dX11_readsOrder_5 rfl 1 rfl ?_
  refine hz_iload_n hO dX11_readsOrder_6 rfl 0 rfl ?_
  refine hz_iconst (v := (-1 : Int32)) hO dX11_readsOrder_7 (by decide) ?_
  obtain ⟨k41, hk41, h⟩ := hz_jn_e h
  have gk41 : ∀ (v1_4 : Int32) (v2_5 : Int32) (q6 : Int32) (M7 : hz_M), k41 v1_4 v2_5 q6 M7 = some (rE, ME) → hz_G p l e (hc + 2) hz_z0 s m args below meth c w N 4 (MQ below (hz_Qv w N ME) args s 0 0 (hz_A w)) M7 16 [(0, .ref (hz_ad w 178)), (1, .int v1_4), (2, .int v2_5)] [.int q6, .ref (hz_ad w 178)] := by
    intro v1_4 v2_5 q6 M7 h
    rw [hk41] at h
    dsimp only at h
    refine hz_iconst (v := (1 : Int32)) hO dX11_readsOrder_16 (by decide) ?_
    obtain ⟨r8, M9, hq10, h⟩ := hz_ct_e h
    refine hz_callVi (as := [.int q6, .int (1 : Int32)]) (rest := []) hO (c_X11_must l w hN q6 (1 : Int32) hq10) hz_cal_X11_must hz_K_9 hz_sh_178 (hz_lt_178 hN) tw_6_184 (by omega) rfl rfl (Nat.le_of_ble_eq_true rfl) dX11_readsOrder_17 ?_
    refine hz_if_eq (tgt := 45) hO dX11_readsOrder_20 (by decide) (fun hc11 => ?_) (fun hc11 => ?_)
    · rw [if_pos hc11] at h
      exact hz_nameM (hz_some_e h).2.symm (hz_vret hO dX11_readsOrder_45)
    · rw [if_neg hc11] at h
      refine hz_aload_n hO dX11_readsOrder_23 rfl 0 rfl ?_
      refine hz_aload_n hO dX11_readsOrder_24 rfl 0 rfl ?_
      refine hz_getI (k := 22) hO hz_K_9 hz_sh_178 (hz_lt_178 hN) rfl (Nat.le_of_ble_eq_true rfl) tw_7_11 rfl dX11_readsOrder_25 ?_
      refine hz_bipush (v := (30 : Int32)) hO dX11_readsOrder_28 (by decide) ?_
      obtain ⟨k39, hk39, h⟩ := hz_jn_e h
      have gk39 : ∀ (v1_12 : Int32) (v2_13 : Int32) (q14 : Int32) (M15 : hz_M), k39 v1_12 v2_13 q14 M15 = some (rE, ME) → hz_G p l e (hc + 2) hz_z0 s m args below meth c w N 4 (MQ below (hz_Qv w N ME) args s 0 0 (hz_A w)) M15 38 [(0, .ref (hz_ad w 178)), (1, .int v1_12), (2, .int v2_13)] [.int q14, .ref (hz_ad w 178)] := by
        intro v1_12 v2_13 q14 M15 h
        rw [hk39] at h
        dsimp only at h
        refine hz_iconst (v := (4 : Int32)) hO dX11_readsOrder_38 (by decide) ?_
        obtain ⟨r16, M17, hq18, h⟩ := hz_ct_e h
        refine hz_callVi (as := [.int q14, .int (4 : Int32)]) (rest := []) hO (c_X11_must l w hN q14 (4 : Int32) hq18) hz_cal_X11_must hz_K_9 hz_sh_178 (hz_lt_178 hN) tw_6_184 (by omega) rfl rfl (Nat.le_of_ble_eq_true rfl) dX11_readsOrder_39 ?_
        refine hz_if_ne (tgt := 46) hO dX11_readsOrder_42 (by decide) (fun hc19 => ?_) (fun hc19 => ?_)
        · rw [if_neg hc19] at h
          refine hz_aload_n hO dX11_readsOrder_46 rfl 0 rfl ?_
          refine hz_getI (k := 22) hO hz_K_9 hz_sh_178 (hz_lt_178 hN) rfl (Nat.le_of_ble_eq_true rfl) tw_7_11 rfl dX11_readsOrder_47 ?_
          obtain ⟨x20, h_x20, h⟩ := hz_lt_e h
          refine hz_name h_x20 ?_
          refine hz_istore_n (ls1 := [(3, .int x20), (0, .ref (hz_ad w 178)), (1, .int v1_12), (2, .int v2_13)]) hO dX11_readsOrder_50 rfl (Nat.le_of_ble_eq_true rfl) rfl ?_
          refine hz_aload_n hO dX11_readsOrder_51 rfl 1 rfl ?_
          refine hz_getR (k := 18) hO 187 hz_K_9 hz_sh_178 (hz_lt_178 hN) rfl (Nat.le_of_ble_eq_true rfl) tw_7_7 rfl dX11_readsOrder_52 ?_
          refine hz_iload_n hO dX11_readsOrder_55 rfl 0 rfl ?_
          refine hz_iload_n hO dX11_readsOrder_56 rfl 3 rfl ?_
          obtain ⟨hg21, h⟩ := hz_gd_e h
          obtain ⟨M22, h_M22, h⟩ := hz_lm_e h
          refine hz_iast hO hz_sh_187 (hz_lt_187 hN) hg21 dX11_readsOrder_57 ?_
          refine hz_nameM h_M22 ?_
          refine hz_aload_n hO dX11_readsOrder_58 rfl 1 rfl ?_
          refine hz_dup hO dX11_readsOrder_59 rfl ?_
          refine hz_getI (k := 22) hO hz_K_9 hz_sh_178 (hz_lt_178 hN) rfl (Nat.le_of_ble_eq_true rfl) tw_7_11 rfl dX11_readsOrder_60 ?_
          refine hz_iconst (v := (1 : Int32)) hO dX11_readsOrder_63 (by decide) ?_
          refine hz_iadd hO dX11_readsOrder_64 ?_
          obtain ⟨M23, h_M23, h⟩ := hz_lm_e h
          refine hz_putI (k := 22) (ty := .int) hO hz_K_9 tyX11_ok nmX11 hz_sh_178 (hz_lt_178 hN) rfl (Nat.le_of_ble_eq_true rfl) tw_7_11 rfl rfl rfl rfl rfl dX11_readsOrder_65 ?_
          refine hz_nameM h_M23 ?_
          refine hz_aload_n hO dX11_readsOrder_68 rfl 1 rfl ?_
          obtain ⟨r24, M25, hq26, h⟩ := hz_ct_e h
          refine hz_callVv (as := []) (rest := []) hO (c_X11_goesOn l w hN hq26) hz_cal_X11_goesOn hz_K_9 hz_sh_178 (hz_lt_178 hN) tw_6_163 (by omega) rfl rfl (Nat.le_of_ble_eq_true rfl) dX11_readsOrder_69 ?_
          refine hz_iload_n hO dX11_readsOrder_72 rfl 3 rfl ?_
          refine hz_bipush (v := (10 : Int32)) hO dX11_readsOrder_73 (by decide) ?_
          obtain ⟨k31, hk31, h⟩ := hz_jn_e h
          have gk31 : ∀  (M27 : hz_M), k31 M27 = some (rE, ME) → hz_G p l e (hc + 2) hz_z0 s m args below meth c w N 4 (MQ below (hz_Qv w N ME) args s 0 0 (hz_A w)) M27 92 [(0, .ref (hz_ad w 178))] [] := by
            intro M27 h
            rw [hk31] at h
            dsimp only at h
            refine hz_aload_n hO dX11_readsOrder_92 rfl 0 rfl ?_
            refine hz_bipush (v := (59 : Int32)) hO dX11_readsOrder_93 (by decide) ?_
            obtain ⟨r28, M29, hq30, h⟩ := hz_ct_e h
            refine hz_callVv (as := [.int (59 : Int32)]) (rest := []) hO (c_X11_takesSign l w hN (59 : Int32) hq30) hz_cal_X11_takesSign hz_K_9 hz_sh_178 (hz_lt_178 hN) tw_7_125 (by omega) rfl rfl (Nat.le_of_ble_eq_true rfl) dX11_readsOrder_95 ?_
            exact hz_nameM (hz_some_e h).2.symm (hz_vret hO dX11_readsOrder_98)
          clear hk31
          refine hz_icmp_ne (tgt := 87) hO dX11_readsOrder_75 (by decide) (fun hc32 => ?_) (fun hc32 => ?_)
          · rw [if_neg hc32] at h
            refine hz_aload_n hO dX11_readsOrder_87 rfl 1 rfl ?_
            refine hz_iload_n hO dX11_readsOrder_88 rfl 0 rfl ?_
            obtain ⟨r33, M34, hq35, h⟩ := hz_ct_e h
            refine hz_callVv (as := [.int x20]) (rest := []) hO (c_X11_readsSingle l w hN x20 hq35) hz_cal_X11_readsSingle hz_K_9 hz_sh_178 (hz_lt_178 hN) tw_7_129 (by omega) rfl rfl (Nat.le_of_ble_eq_true rfl) dX11_readsOrder_89 ?_
            exact hz_ls [1] rfl (gk31 M34 h)
          · rw [if_pos hc32] at h
            refine hz_aload_n hO dX11_readsOrder_78 rfl 1 rfl ?_
            refine hz_iload_n hO dX11_readsOrder_79 rfl 0 rfl ?_
            refine hz_iload_n hO dX11_readsOrder_80 rfl 2 rfl ?_
            obtain ⟨r36, M37, hq38, h⟩ := hz_ct_e h
            refine hz_callVv (as := [.int x20, .int v1_12]) (rest := []) hO (cr_X11_readsAgain l w hN hb hrec x20 v1_12 hq38) hz_cal_X11_readsAgain hz_K_9 hz_sh_178 (hz_lt_178 hN) tw_7_121 (by omega) rfl rfl (Nat.le_of_ble_eq_true rfl) dX11_readsOrder_81 ?_
            refine hz_goto (tgt := 92) hO dX11_readsOrder_84 (by decide) ?_
            exact hz_ls [1] rfl (gk31 M37 h)
        · rw [if_pos hc19] at h
          exact hz_nameM (hz_some_e h).2.symm (hz_vret hO dX11_readsOrder_45)
      clear hk39
      refine hz_icmp_ge (tgt := 37) hO dX11_readsOrder_30 (by decide) (fun hc40 => ?_) (fun hc40 => ?_)
      · rw [if_pos hc40] at h
        refine hz_iconst (v := (0 : Int32)) hO dX11_readsOrder_37 (by decide) ?_
        exact hz_ls [0, 1, 2] rfl (gk39 v1_4 v2_5 (0 : Int32) M9 h)
      · rw [if_neg hc40] at h
        refine hz_iconst (v := (1 : Int32)) hO dX11_readsOrder_33 (by decide) ?_
        refine hz_goto (tgt := 38) hO dX11_readsOrder_34 (by decide) ?_
        exact hz_ls [0, 1, 2] rfl (gk39 v1_4 v2_5 (1 : Int32) M9 h)
  clear hk41
  refine hz_icmp_eq (tgt := 15) hO dX11_readsOrder_8 (by decide) (fun hc42 => ?_) (fun hc42 => ?_)
  · rw [if_pos hc42] at h
    refine hz_iconst (v := (0 : Int32)) hO dX11_readsOrder_15 (by decide) ?_
    exact hz_ls [1, 2, 0] rfl (gk41 a1 r1 (0 : Int32) M2 h)
  · rw [if_neg hc42] at h
    refine hz_iconst (v := (1 : Int32)) hO dX11_readsOrder_11 (by decide) ?_
    refine hz_goto (tgt := 16) hO dX11_readsOrder_12 (by decide) ?_
    exact hz_ls [1, 2, 0] rfl (gk41 a1 r1 (1 : Int32) M2 h)
def r_X11_readsOrders_L0 (rec : Int32 → hz_M → hz_O) : Nat → Int32 → hz_M → hz_O
  | 0, _, _ => none
  | n + 1, v1_1, M2 =>
    if (M2 178 17) = 0 then
      if (M2 178 15) = 0 then
        some (0, M2)
      else
        hz_ct (f_X11_isSign (41 : Int32) M2) fun r5 M6 =>
        if r5 = 0 then
          hz_ct (r_X11_readsOrder rec v1_1 M6) fun r9 M10 =>
          r_X11_readsOrders_L0 rec n v1_1 M10
        else
          some (0, M6)
    else
      some (0, M2)
def r_X11_readsOrders (rec : Int32 → hz_M → hz_O) (a1 : Int32) (M : hz_M) : hz_O :=
  r_X11_readsOrders_L0 rec hz_FU a1 M
def f_X11_readsOrders : Nat → Int32 → hz_M → hz_O
  | 0, _, _ => none
  | n + 1, a1, M => r_X11_readsOrders (f_X11_readsOrders n) a1 M
set_option maxRecDepth 100000 in
set_option maxHeartbeats 4000000 in
theorem gr_X11_readsOrders_L0 {p : Program} {l : Launch} {e : Env} {s : State} {m : MethodId} {args : Array Value} {below : List Frame} {meth : Method} {c : Code} {w : hz_C} {N : Nat} (hN : 193 ≤ N) {hc : Nat} (hb : 20 ≤ hc) {rec : Int32 → hz_M → hz_O} (hrec : ∀ (b0 : Int32) (M : hz_M) (rE : Int32) (ME : hz_M), rec b0 M = some (rE, ME) → hz_Ct l yX11_readsOrders cX11_readsOrders 2 none hc w N [.ref (hz_ad w 178), .int b0] M (hz_Qv w N ME)) {rE : Int32} {ME : hz_M} (hO : hz_Ok p s m args meth c w cX11_readsOrders 2 RX11 none) : ∀ (n : Nat) (v1_1 : Int32) (M2 : hz_M), r_X11_readsOrders_L0 rec n v1_1 M2 = some (rE, ME) → hz_G p l e (hc + 3) hz_z0 s m args below meth c w N 2 (MQ below (hz_Qv w N ME) args s 0 0 (hz_A w)) M2 0 [(0, .ref (hz_ad w 178)), (1, .int v1_1)] [] := by
  intro n
  induction n with
  | zero =>
    intro v1_1 M2 h
    rw [r_X11_readsOrders_L0] at h
    cases h
  | succ n ih =>
    intro v1_1 M2 h
    rw [r_X11_readsOrders_L0] at h
    refine hz_aload_n hO dX11_readsOrders_0 rfl 0 rfl ?_
    refine hz_getI (k := 17) hO hz_K_9 hz_sh_178 (hz_lt_178 hN) rfl (Nat.le_of_ble_eq_true rfl) tw_7_6 rfl dX11_readsOrders_1 ?_
    refine hz_if_ne (tgt := 31) hO dX11_readsOrders_4 (by decide) (fun hc3 => ?_) (fun hc3 => ?_)
    · rw [if_neg hc3] at h
      exact hz_nameM (hz_some_e h).2.symm (hz_vret hO dX11_readsOrders_31)
    · rw [if_pos hc3] at h
      refine hz_aload_n hO dX11_readsOrders_7 rfl 0 rfl ?_
      refine hz_getI (k := 15) hO hz_K_9 hz_sh_178 (hz_lt_178 hN) rfl (Nat.le_of_ble_eq_true rfl) tw_7_4 rfl dX11_readsOrders_8 ?_
      refine hz_if_eq (tgt := 31) hO dX11_readsOrders_11 (by decide) (fun hc4 => ?_) (fun hc4 => ?_)
      · rw [if_pos hc4] at h
        exact hz_nameM (hz_some_e h).2.symm (hz_vret hO dX11_readsOrders_31)
      · rw [if_neg hc4] at h
        refine hz_aload_n hO dX11_readsOrders_14 rfl 0 rfl ?_
        refine hz_bipush (v := (41 : Int32)) hO dX11_readsOrders_15 (by decide) ?_
        obtain ⟨r5, M6, hq7, h⟩ := hz_ct_e h
        refine hz_callVi (as := [.int (41 : Int32)]) (rest := []) hO (c_X11_isSign l w hN (41 : Int32) hq7) hz_cal_X11_isSign hz_K_9 hz_sh_178 (hz_lt_178 hN) tw_6_196 (by omega) rfl rfl (Nat.le_of_ble_eq_true rfl) dX11_readsOrders_17 ?_
        refine hz_if_ne (tgt := 31) hO dX11_readsOrders_20 (by decide) (fun hc8 => ?_) (fun hc8 => ?_)
        · rw [if_neg hc8] at h
          exact hz_nameM (hz_some_e h).2.symm (hz_vret hO dX11_readsOrders_31)
        · rw [if_pos hc8] at h
          refine hz_aload_n hO dX11_readsOrders_23 rfl 0 rfl ?_
          refine hz_iload_n hO dX11_readsOrders_24 rfl 1 rfl ?_
          obtain ⟨r9, M10, hq11, h⟩ := hz_ct_e h
          refine hz_callVv (as := [.int v1_1]) (rest := []) hO (cr_X11_readsOrder l w hN hb hrec v1_1 hq11) hz_cal_X11_readsOrder hz_K_9 hz_sh_178 (hz_lt_178 hN) tw_7_102 (by omega) rfl rfl (Nat.le_of_ble_eq_true rfl) dX11_readsOrders_25 ?_
          refine hz_goto (tgt := 0) hO dX11_readsOrders_28 (by decide) ?_
          exact hz_ls [0, 1] rfl (ih v1_1 M10 h)
set_option maxRecDepth 100000 in
set_option maxHeartbeats 4000000 in
theorem cr_X11_readsOrders (l : Launch) (w : hz_C) {N : Nat} (hN : 193 ≤ N) {hc : Nat} (hb : 20 ≤ hc) {rec : Int32 → hz_M → hz_O} (hrec : ∀ (b0 : Int32) (M : hz_M) (rE : Int32) (ME : hz_M), rec b0 M = some (rE, ME) → hz_Ct l yX11_readsOrders cX11_readsOrders 2 none hc w N [.ref (hz_ad w 178), .int b0] M (hz_Qv w N ME)) (a1 : Int32) {M : hz_M} {rE : Int32} {ME : hz_M} (h : r_X11_readsOrders rec a1 M = some (rE, ME)) : hz_Ct l yX11_readsOrders cX11_readsOrders 2 none (hc + 3) w N [.ref (hz_ad w 178), .int a1] M (hz_Qv w N ME) := by
  refine hz_ofW (by decide) rfl (Nat.le_of_ble_eq_true rfl) tw_7_101 ?_
  intro p e s m args below meth c hO
  show hz_G p l e (hc + 3) hz_z0 s m args below meth c w N 2 _ M 0 [(0, .ref (hz_ad w 178)), (1, .int a1)] []
  unfold r_X11_readsOrders at h
  exact hz_ls [0, 1] rfl (gr_X11_readsOrders_L0 hN hb hrec hO _ a1 M h)
theorem c_X11_readsOrders (l : Launch) (w : hz_C) {N : Nat} (hN : 193 ≤ N) : ∀ (n : Nat) (a1 : Int32) {M : hz_M} {rE : Int32} {ME : hz_M} (_ : f_X11_readsOrders n a1 M = some (rE, ME)), hz_Ct l yX11_readsOrders cX11_readsOrders 2 none (20 + 3 * n) w N [.ref (hz_ad w 178), .int a1] M (hz_Qv w N ME) := by
  intro n
  induction n with
  | zero =>
    intro a1 M rE ME h
    rw [f_X11_readsOrders] at h
    cases h
  | succ n ih =>
    intro a1 M rE ME h
    rw [f_X11_readsOrders] at h
    rw [Nat.mul_succ, ← Nat.add_assoc]
    exact cr_X11_readsOrders l w hN (Nat.le_add_right _ _) (fun a1 M rE ME q => ih a1 q) a1 h
def f_X11_takesText_L2 (kk27 : Nat → hz_M → hz_O) : Nat → Nat → Int32 → hz_M → hz_O
  | 0, _, _, _ => none
  | n + 1, v1_13, v2_14, M15 =>
    hz_gd (hz_sok v1_13) <|
    if (hz_sl v1_13) ≤ v2_14 then
      kk27 v1_13 M15
    else
      hz_gd (hz_sok v1_13) <|
      hz_gd (hz_in v2_14 (hz_len.getD v1_13 0)) <|
      hz_gd (hz_in v2_14 600) <|
      hz_lm (hz_set M15 186 (Int32.toNatClampNeg v2_14) (hz_cc v1_13 v2_14)) fun M21 =>
      hz_lt (v2_14 + (1 : Int32)) fun x22 =>
      f_X11_takesText_L2 kk27 n v1_13 x22 M21
def f_X11_takesText (a1 : Nat) (M : hz_M) : hz_O :=
  hz_jn (fun (v1_1 : Nat) (M2 : hz_M) =>
    hz_gd (hz_sok v1_1) <|
    hz_lm (hz_set M2 178 11 (hz_sl v1_1)) fun M4 =>
    hz_ct (f_X11_starts M4) fun r5 M6 =>
    hz_ct (f_X11_readsSetup M6) fun r8 M9 =>
    hz_lm (hz_set M9 178 11 (0 : Int32)) fun M11 =>
    some (0, M11)
    ) fun k12 =>
  f_X11_takesText_L2 k12 hz_FU a1 (0 : Int32) M
set_option maxRecDepth 100000 in
set_option maxHeartbeats 4000000 in
theorem g_X11_takesText_L2 {p : Program} {l : Launch} {e : Env} {s : State} {m : MethodId} {args : Array Value} {below : List Frame} {meth : Method} {c : Code} {w : hz_C} {N : Nat} (hN : 193 ≤ N) {rE : Int32} {ME : hz_M} (hO : hz_Ok p s m args meth c w cX11_takesText 3 RX11 none) (kk27 : Nat → hz_M → hz_O) (gkk27 : ∀ (v1_1 : Nat) (M : hz_M), kk27 v1_1 M = some (rE, ME) → hz_G p l e 11 hz_z0 s m args below meth c w N 3 (MQ below (hz_Qv w N ME) args s 0 0 (hz_A w)) M 27 [(0, .ref (hz_ad w 178)), (1, .ref (hz_sa w v1_1))] []) : ∀ (n : Nat) (v1_13 : Nat) (v2_14 : Int32) (M15 : hz_M), f_X11_takesText_L2 kk27 n v1_13 v2_14 M15 = some (rE, ME) → hz_G p l e 11 hz_z0 s m args below meth c w N 3 (MQ below (hz_Qv w N ME) args s 0 0 (hz_A w)) M15 2 [(0, .ref (hz_ad w 178)), (1, .ref (hz_sa w v1_13)), (2, .int v2_14)] [] := by
  intro n
  induction n with
  | zero =>
    intro v1_13 v2_14 M15 h
    rw [f_X11_takesText_L2] at h
    cases h
  | succ n ih =>
    intro v1_13 v2_14 M15 h
    rw [f_X11_takesText_L2] at h
    refine hz_iload_n hO dX11_takesText_2 rfl 2 rfl ?_
    refine hz_aload_n hO dX11_takesText_3 rfl 1 rfl ?_
    obtain ⟨hg16, h⟩ := hz_gd_e h
    refine hz_callTi (as := []) (rest := [.int v2_14]) hO (c_J0_length_8abf5 l w (hz_sok_e hg16)) hz_cal_J0_length_8abf5 (hz_sok_e hg16) tw_6_157 (Nat.le_of_ble_eq_true rfl) rfl rfl (Nat.le_of_ble_eq_true rfl) dX11_takesText_4 ?_
    refine hz_icmp_ge (tgt := 27) hO dX11_takesText_7 (by decide) (fun hc17 => ?_) (fun hc17 => ?_)
    · rw [if_pos hc17] at h
      exact hz_ls [0, 1] rfl (gkk27 v1_13 M15 h)
    · rw [if_neg hc17] at h
      refine hz_aload_n hO dX11_takesText_10 rfl 0 rfl ?_
      refine hz_getR (k := 10) hO 186 hz_K_9 hz_sh_178 (hz_lt_178 hN) rfl (Nat.le_of_ble_eq_true rfl) tw_6_239 rfl dX11_takesText_11 ?_
      refine hz_iload_n hO dX11_takesText_14 rfl 2 rfl ?_
      refine hz_aload_n hO dX11_takesText_15 rfl 1 rfl ?_
      refine hz_iload_n hO dX11_takesText_16 rfl 2 rfl ?_
      obtain ⟨hg18, h⟩ := hz_gd_e h
      obtain ⟨hg19, h⟩ := hz_gd_e h
      refine hz_callTi (as := [.int v2_14]) (rest := [.int v2_14, .ref (hz_ad w 186)]) hO (c_J0_charAt_5068e l w (hz_sok_e hg18) hg19) hz_cal_J0_charAt_5068e (hz_sok_e hg18) tw_6_158 (Nat.le_of_ble_eq_true rfl) rfl rfl (Nat.le_of_ble_eq_true rfl) dX11_takesText_17 ?_
      obtain ⟨hg20, h⟩ := hz_gd_e h
      obtain ⟨M21, h_M21, h⟩ := hz_lm_e h
      refine hz_iast hO hz_sh_186 (hz_lt_186 hN) hg20 dX11_takesText_20 ?_
      refine hz_nameM h_M21 ?_
      obtain ⟨x22, h_x22, h⟩ := hz_lt_e h
      refine hz_iinc (k := 2) (v := x22) (ls1 := [(2, .int x22), (0, .ref (hz_ad w 178)), (1, .ref (hz_sa w v1_13))]) hO dX11_takesText_21 rfl (by rw [h_x22]; rfl) (Nat.le_of_ble_eq_true rfl) rfl ?_
      refine hz_goto (tgt := 2) hO dX11_takesText_24 (by decide) ?_
      exact hz_ls [1, 2, 0] rfl (ih v1_13 x22 M21 h)
set_option maxRecDepth 100000 in
set_option maxHeartbeats 4000000 in
theorem c_X11_takesText (l : Launch) (w : hz_C) {N : Nat} (hN : 193 ≤ N) (a1 : Nat) {M : hz_M} {rE : Int32} {ME : hz_M} (h : f_X11_takesText a1 M = some (rE, ME)) : hz_Ct l yX11_takesText cX11_takesText 3 none 11 w N [.ref (hz_ad w 178), .ref (hz_sa w a1)] M (hz_Qv w N ME) := by
  refine hz_ofW (by decide) rfl (Nat.le_of_ble_eq_true rfl) tw_6_156 ?_
  intro p e s m args below meth c hO
  show hz_G p l e 11 hz_z0 s m args below meth c w N 3 _ M 0 [(0, .ref (hz_ad w 178)), (1, .ref (hz_sa w a1))] []
  unfold f_X11_takesText at h
  refine hz_iconst (v := (0 : Int32)) hO dX11_takesText_0 (by decide) ?_
  refine hz_istore_n (ls1 := [(2, .int (0 : Int32)), (0, .ref (hz_ad w 178)), (1, .ref (hz_sa w a1))]) hO dX11_takesText_1 rfl (Nat.le_of_ble_eq_true rfl) rfl ?_
  obtain ⟨k12, hk12, h⟩ := hz_jn_e h
  have gk12 : ∀ (v1_1 : Nat) (M2 : hz_M), k12 v1_1 M2 = some (rE, ME) → hz_G p l e 11 hz_z0 s m args below meth c w N 3 (MQ below (hz_Qv w N ME) args s 0 0 (hz_A w)) M2 27 [(0, .ref (hz_ad w 178)), (1, .ref (hz_sa w v1_1))] [] := by
    intro v1_1 M2 h
    rw [hk12] at h
    dsimp only at h
    refine hz_aload_n hO dX11_takesText_27 rfl 0 rfl ?_
    refine hz_aload_n hO dX11_takesText_28 rfl 1 rfl ?_
    obtain ⟨hg3, h⟩ := hz_gd_e h
    refine hz_callTi (as := []) (rest := [.ref (hz_ad w 178)]) hO (c_J0_length_8abf5 l w (hz_sok_e hg3)) hz_cal_J0_length_8abf5 (hz_sok_e hg3) tw_6_157 (Nat.le_of_ble_eq_true rfl) rfl rfl (Nat.le_of_ble_eq_true rfl) dX11_takesText_29 ?_
    obtain ⟨M4, h_M4, h⟩ := hz_lm_e h
    refine hz_putI (k := 11) (ty := .int) hO hz_K_9 tyX11_ok nmX11 hz_sh_178 (hz_lt_178 hN) rfl (Nat.le_of_ble_eq_true rfl) tw_7_0 rfl rfl rfl rfl rfl dX11_takesText_32 ?_
    refine hz_nameM h_M4 ?_
    refine hz_aload_n hO dX11_takesText_35 rfl 0 rfl ?_
    obtain ⟨r5, M6, hq7, h⟩ := hz_ct_e h
    refine hz_callVv (as := []) (rest := []) hO (c_X11_starts l w hN hq7) hz_cal_X11_starts hz_K_9 hz_sh_178 (hz_lt_178 hN) tw_6_159 (Nat.le_of_ble_eq_true rfl) rfl rfl (Nat.le_of_ble_eq_true rfl) dX11_takesText_36 ?_
    refine hz_aload_n hO dX11_takesText_39 rfl 0 rfl ?_
    obtain ⟨r8, M9, hq10, h⟩ := hz_ct_e h
    refine hz_callVv (as := []) (rest := []) hO (c_X11_readsSetup l w hN hq10) hz_cal_X11_readsSetup hz_K_9 hz_sh_178 (hz_lt_178 hN) tw_6_175 (Nat.le_of_ble_eq_true rfl) rfl rfl (Nat.le_of_ble_eq_true rfl) dX11_takesText_40 ?_
    refine hz_aload_n hO dX11_takesText_43 rfl 0 rfl ?_
    refine hz_iconst (v := (0 : Int32)) hO dX11_takesText_44 (by decide) ?_
    obtain ⟨M11, h_M11, h⟩ := hz_lm_e h
    refine hz_putI (k := 11) (ty := .int) hO hz_K_9 tyX11_ok nmX11 hz_sh_178 (hz_lt_178 hN) rfl (Nat.le_of_ble_eq_true rfl) tw_7_0 rfl rfl rfl rfl rfl dX11_takesText_45 ?_
    refine hz_nameM h_M11 ?_
    exact hz_nameM (hz_some_e h).2.symm (hz_vret hO dX11_takesText_48)
  clear hk12
  exact hz_ls [1, 2, 0] rfl (g_X11_takesText_L2 hN hO _ gk12 _ a1 (0 : Int32) M h)
def r_X11_doesAll_L21 (rec : Int32 → Int32 → hz_M → hz_O) (kk56 : Int32 → Int32 → hz_M → hz_O) : Nat → Int32 → Int32 → Int32 → hz_M → hz_O
  | 0, _, _, _, _ => none
  | n + 1, v2_20, v3_21, v4_22, M23 =>
    hz_gd (hz_in v3_21 30) <|
    if (M23 189 (Int32.toNatClampNeg v3_21)) ≤ v4_22 then
      kk56 v2_20 v3_21 M23
    else
      hz_gd (hz_in v3_21 30) <|
      hz_ct (rec (v3_21 + (1 : Int32)) (M23 190 (Int32.toNatClampNeg v3_21)) M23) fun r27 M28 =>
      if r27 = 0 then
        some ((0 : Int32), M28)
      else
        hz_lt (v4_22 + (1 : Int32)) fun x31 =>
        r_X11_doesAll_L21 rec kk56 n v2_20 v3_21 x31 M28
def r_X11_doesAll_L2 (rec : Int32 → Int32 → hz_M → hz_O) : Nat → Int32 → Int32 → hz_M → hz_O
  | 0, _, _, _ => none
  | n + 1, v2_1, v3_2, M3 =>
    if v2_1 ≤ v3_2 then
      some ((1 : Int32), M3)
    else
      hz_gd (hz_in v3_2 30) <|
      if (M3 187 (Int32.toNatClampNeg v3_2)) = (10 : Int32) then
        hz_jn (fun (v2_14 : Int32) (v3_15 : Int32) (M16 : hz_M) =>
          hz_gd (hz_in v3_15 30) <|
          hz_lt ((M16 190 (Int32.toNatClampNeg v3_15))) fun x18 =>
          r_X11_doesAll_L2 rec n v2_14 x18 M16
          ) fun k19 =>
        r_X11_doesAll_L21 rec k19 hz_FU v2_1 v3_2 (0 : Int32) M3
      else
        if (M3 178 23) = (40 : Int32) then
          some ((0 : Int32), M3)
        else
          hz_ct (f_X11_does v3_2 M3) fun r8 M9 =>
          if r8 = 0 then
            some ((0 : Int32), M9)
          else
            hz_lm (hz_set M9 178 23 ((M9 178 23) + (1 : Int32))) fun M12 =>
            hz_lt (v3_2 + (1 : Int32)) fun x13 =>
            r_X11_doesAll_L2 rec n v2_1 x13 M12
def r_X11_doesAll (rec : Int32 → Int32 → hz_M → hz_O) (a1 : Int32) (a2 : Int32) (M : hz_M) : hz_O :=
  r_X11_doesAll_L2 rec hz_FU a2 a1 M
def f_X11_doesAll : Nat → Int32 → Int32 → hz_M → hz_O
  | 0, _, _, _ => none
  | n + 1, a1, a2, M => r_X11_doesAll (f_X11_doesAll n) a1 a2 M
set_option maxRecDepth 100000 in
set_option maxHeartbeats 4000000 in
theorem gr_X11_doesAll_L21 {p : Program} {l : Launch} {e : Env} {s : State} {m : MethodId} {args : Array Value} {below : List Frame} {meth : Method} {c : Code} {w : hz_C} {N : Nat} (hN : 193 ≤ N) {hc : Nat} (hb : 20 ≤ hc) {rec : Int32 → Int32 → hz_M → hz_O} (hrec : ∀ (b0 : Int32) (b1 : Int32) (M : hz_M) (rE : Int32) (ME : hz_M), rec b0 b1 M = some (rE, ME) → hz_Ct l yX11_doesAll cX11_doesAll 5 (some .boolean) hc w N [.ref (hz_ad w 178), .int b0, .int b1] M (hz_Qi w N rE ME)) {rE : Int32} {ME : hz_M} (hO : hz_Ok p s m args meth c w cX11_doesAll 5 RX11 (some .boolean)) (kk56 : Int32 → Int32 → hz_M → hz_O) (gkk56 : ∀ (v2_14 : Int32) (v3_15 : Int32) (M : hz_M), kk56 v2_14 v3_15 M = some (rE, ME) → hz_G p l e (hc + 1) hz_z0 s m args below meth c w N 5 (MQ below (hz_Qi w N rE ME) args s 0 0 (hz_A w)) M 56 [(0, .ref (hz_ad w 178)), (2, .int v2_14), (3, .int v3_15)] []) : ∀ (n : Nat) (v2_20 : Int32) (v3_21 : Int32) (v4_22 : Int32) (M23 : hz_M), r_X11_doesAll_L21 rec kk56 n v2_20 v3_21 v4_22 M23 = some (rE, ME) → hz_G p l e (hc + 1) hz_z0 s m args below meth c w N 5 (MQ below (hz_Qi w N rE ME) args s 0 0 (hz_A w)) M23 21 [(0, .ref (hz_ad w 178)), (2, .int v2_20), (3, .int v3_21), (4, .int v4_22)] [] := by
  intro n
  induction n with
  | zero =>
    intro v2_20 v3_21 v4_22 M23 h
    rw [r_X11_doesAll_L21] at h
    cases h
  | succ n ih =>
    intro v2_20 v3_21 v4_22 M23 h
    rw [r_X11_doesAll_L21] at h
    refine hz_iload hO dX11_doesAll_21 3 rfl ?_
    refine hz_aload_n hO dX11_doesAll_23 rfl 0 rfl ?_
    refine hz_getR (k := 20) hO 189 hz_K_9 hz_sh_178 (hz_lt_178 hN) rfl (Nat.le_of_ble_eq_true rfl) tw_7_9 rfl dX11_doesAll_24 ?_
    refine hz_iload_n hO dX11_doesAll_27 rfl 2 rfl ?_
    obtain ⟨hg24, h⟩ := hz_gd_e h
    refine hz_iald hO hz_sh_189 (hz_lt_189 hN) hg24 dX11_doesAll_28 ?_
    refine hz_icmp_ge (tgt := 56) hO dX11_doesAll_29 (by decide) (fun hc25 => ?_) (fun hc25 => ?_)
    · rw [if_pos hc25] at h
      exact hz_ls [0, 1, 2] rfl (gkk56 v2_20 v3_21 M23 h)
    · rw [if_neg hc25] at h
      refine hz_aload_n hO dX11_doesAll_32 rfl 0 rfl ?_
      refine hz_iload_n hO dX11_doesAll_33 rfl 2 rfl ?_
      refine hz_iconst (v := (1 : Int32)) hO dX11_doesAll_34 (by decide) ?_
      refine hz_iadd hO dX11_doesAll_35 ?_
      refine hz_aload_n hO dX11_doesAll_36 rfl 0 rfl ?_
      refine hz_getR (k := 21) hO 190 hz_K_9 hz_sh_178 (hz_lt_178 hN) rfl (Nat.le_of_ble_eq_true rfl) tw_7_10 rfl dX11_doesAll_37 ?_
      refine hz_iload_n hO dX11_doesAll_40 rfl 2 rfl ?_
      obtain ⟨hg26, h⟩ := hz_gd_e h
      refine hz_iald hO hz_sh_190 (hz_lt_190 hN) hg26 dX11_doesAll_41 ?_
      obtain ⟨r27, M28, hq29, h⟩ := hz_ct_e h
      refine hz_callVi (as := [.int (v3_21 + (1 : Int32)), .int (M23 190 (Int32.toNatClampNeg v3_21))]) (rest := []) hO (hrec (v3_21 + (1 : Int32)) (M23 190 (Int32.toNatClampNeg v3_21)) _ _ _ hq29) hz_cal_X11_doesAll hz_K_9 hz_sh_178 (hz_lt_178 hN) tw_7_141 (by omega) rfl rfl (Nat.le_of_ble_eq_true rfl) dX11_doesAll_42 ?_
      refine hz_if_ne (tgt := 50) hO dX11_doesAll_45 (by decide) (fun hc30 => ?_) (fun hc30 => ?_)
      · rw [if_neg hc30] at h
        obtain ⟨x31, h_x31, h⟩ := hz_lt_e h
        refine hz_iinc (k := 3) (v := x31) (ls1 := [(4, .int x31), (0, .ref (hz_ad w 178)), (2, .int v2_20), (3, .int v3_21)]) hO dX11_doesAll_50 rfl (by rw [h_x31]; rfl) (Nat.le_of_ble_eq_true rfl) rfl ?_
        refine hz_goto (tgt := 21) hO dX11_doesAll_53 (by decide) ?_
        exact hz_ls [1, 2, 3, 0] rfl (ih v2_20 v3_21 x31 M28 h)
      · rw [if_pos hc30] at h
        refine hz_iconst (v := (0 : Int32)) hO dX11_doesAll_48 (by decide) ?_
        exact hz_nameM (hz_some_e h).2.symm (hz_name (hz_some_e h).1.symm (hz_zret hO (by rw [← (hz_some_e h).1]; decide) dX11_doesAll_49))
set_option maxRecDepth 100000 in
set_option maxHeartbeats 4000000 in
theorem gr_X11_doesAll_L2 {p : Program} {l : Launch} {e : Env} {s : State} {m : MethodId} {args : Array Value} {below : List Frame} {meth : Method} {c : Code} {w : hz_C} {N : Nat} (hN : 193 ≤ N) {hc : Nat} (hb : 20 ≤ hc) {rec : Int32 → Int32 → hz_M → hz_O} (hrec : ∀ (b0 : Int32) (b1 : Int32) (M : hz_M) (rE : Int32) (ME : hz_M), rec b0 b1 M = some (rE, ME) → hz_Ct l yX11_doesAll cX11_doesAll 5 (some .boolean) hc w N [.ref (hz_ad w 178), .int b0, .int b1] M (hz_Qi w N rE ME)) {rE : Int32} {ME : hz_M} (hO : hz_Ok p s m args meth c w cX11_doesAll 5 RX11 (some .boolean)) : ∀ (n : Nat) (v2_1 : Int32) (v3_2 : Int32) (M3 : hz_M), r_X11_doesAll_L2 rec n v2_1 v3_2 M3 = some (rE, ME) → hz_G p l e (hc + 1) hz_z0 s m args below meth c w N 5 (MQ below (hz_Qi w N rE ME) args s 0 0 (hz_A w)) M3 2 [(0, .ref (hz_ad w 178)), (2, .int v2_1), (3, .int v3_2)] [] := by
  intro n
  induction n with
  | zero =>
    intro v2_1 v3_2 M3 h
    rw [r_X11_doesAll_L2] at h
    cases h
  | succ n ih =>
    intro v2_1 v3_2 M3 h
    rw [r_X11_doesAll_L2] at h
    refine hz_iload_n hO dX11_doesAll_2 rfl 2 rfl ?_
    refine hz_iload_n hO dX11_doesAll_3 rfl 1 rfl ?_
    refine hz_icmp_ge (tgt := 101) hO dX11_doesAll_4 (by decide) (fun hc4 => ?_) (fun hc4 => ?_)
    · rw [if_pos hc4] at h
      refine hz_iconst (v := (1 : Int32)) hO dX11_doesAll_101 (by decide) ?_
      exact hz_nameM (hz_some_e h).2.symm (hz_name (hz_some_e h).1.symm (hz_zret hO (by rw [← (hz_some_e h).1]; decide) dX11_doesAll_102))
    · rw [if_neg hc4] at h
      refine hz_aload_n hO dX11_doesAll_7 rfl 0 rfl ?_
      refine hz_getR (k := 18) hO 187 hz_K_9 hz_sh_178 (hz_lt_178 hN) rfl (Nat.le_of_ble_eq_true rfl) tw_7_7 rfl dX11_doesAll_8 ?_
      refine hz_iload_n hO dX11_doesAll_11 rfl 2 rfl ?_
      obtain ⟨hg5, h⟩ := hz_gd_e h
      refine hz_iald hO hz_sh_187 (hz_lt_187 hN) hg5 dX11_doesAll_12 ?_
      refine hz_bipush (v := (10 : Int32)) hO dX11_doesAll_13 (by decide) ?_
      refine hz_icmp_ne (tgt := 66) hO dX11_doesAll_15 (by decide) (fun hc6 => ?_) (fun hc6 => ?_)
      · rw [if_neg hc6] at h
        refine hz_aload_n hO dX11_doesAll_66 rfl 0 rfl ?_
        refine hz_getI (k := 23) hO hz_K_9 hz_sh_178 (hz_lt_178 hN) rfl (Nat.le_of_ble_eq_true rfl) tw_7_12 rfl dX11_doesAll_67 ?_
        refine hz_bipush (v := (40 : Int32)) hO dX11_doesAll_70 (by decide) ?_
        refine hz_icmp_eq (tgt := 83) hO dX11_doesAll_72 (by decide) (fun hc7 => ?_) (fun hc7 => ?_)
        · rw [if_pos hc7] at h
          refine hz_iconst (v := (0 : Int32)) hO dX11_doesAll_83 (by decide) ?_
          exact hz_nameM (hz_some_e h).2.symm (hz_name (hz_some_e h).1.symm (hz_zret hO (by rw [← (hz_some_e h).1]; decide) dX11_doesAll_84))
        · rw [if_neg hc7] at h
          refine hz_aload_n hO dX11_doesAll_75 rfl 0 rfl ?_
          refine hz_iload_n hO dX11_doesAll_76 rfl 2 rfl ?_
          obtain ⟨r8, M9, hq10, h⟩ := hz_ct_e h
          refine hz_callVi (as := [.int v3_2]) (rest := []) hO (c_X11_does l w hN v3_2 hq10) hz_cal_X11_does hz_K_9 hz_sh_178 (hz_lt_178 hN) tw_7_145 (by omega) rfl rfl (Nat.le_of_ble_eq_true rfl) dX11_doesAll_77 ?_
          refine hz_if_ne (tgt := 85) hO dX11_doesAll_80 (by decide) (fun hc11 => ?_) (fun hc11 => ?_)
          · rw [if_neg hc11] at h
            refine hz_aload_n hO dX11_doesAll_85 rfl 0 rfl ?_
            refine hz_dup hO dX11_doesAll_86 rfl ?_
            refine hz_getI (k := 23) hO hz_K_9 hz_sh_178 (hz_lt_178 hN) rfl (Nat.le_of_ble_eq_true rfl) tw_7_12 rfl dX11_doesAll_87 ?_
            refine hz_iconst (v := (1 : Int32)) hO dX11_doesAll_90 (by decide) ?_
            refine hz_iadd hO dX11_doesAll_91 ?_
            obtain ⟨M12, h_M12, h⟩ := hz_lm_e h
            refine hz_putI (k := 23) (ty := .int) hO hz_K_9 tyX11_ok nmX11 hz_sh_178 (hz_lt_178 hN) rfl (Nat.le_of_ble_eq_true rfl) tw_7_12 rfl rfl rfl rfl rfl dX11_doesAll_92 ?_
            refine hz_nameM h_M12 ?_
            obtain ⟨x13, h_x13, h⟩ := hz_lt_e h
            refine hz_iinc (k := 2) (v := x13) (ls1 := [(3, .int x13), (0, .ref (hz_ad w 178)), (2, .int v2_1)]) hO dX11_doesAll_95 rfl (by rw [h_x13]; rfl) (Nat.le_of_ble_eq_true rfl) rfl ?_
            refine hz_goto (tgt := 2) hO dX11_doesAll_98 (by decide) ?_
            exact hz_ls [1, 2, 0] rfl (ih v2_1 x13 M12 h)
          · rw [if_pos hc11] at h
            refine hz_iconst (v := (0 : Int32)) hO dX11_doesAll_83 (by decide) ?_
            exact hz_nameM (hz_some_e h).2.symm (hz_name (hz_some_e h).1.symm (hz_zret hO (by rw [← (hz_some_e h).1]; decide) dX11_doesAll_84))
      · rw [if_pos hc6] at h
        refine hz_iconst (v := (0 : Int32)) hO dX11_doesAll_18 (by decide) ?_
        refine hz_istore (ls1 := [(4, .int (0 : Int32)), (0, .ref (hz_ad w 178)), (2, .int v2_1), (3, .int v3_2)]) hO dX11_doesAll_19 (Nat.le_of_ble_eq_true rfl) rfl ?_
        obtain ⟨k19, hk19, h⟩ := hz_jn_e h
        have gk19 : ∀ (v2_14 : Int32) (v3_15 : Int32) (M16 : hz_M), k19 v2_14 v3_15 M16 = some (rE, ME) → hz_G p l e (hc + 1) hz_z0 s m args below meth c w N 5 (MQ below (hz_Qi w N rE ME) args s 0 0 (hz_A w)) M16 56 [(0, .ref (hz_ad w 178)), (2, .int v2_14), (3, .int v3_15)] [] := by
          intro v2_14 v3_15 M16 h
          rw [hk19] at h
          dsimp only at h
          refine hz_aload_n hO dX11_doesAll_56 rfl 0 rfl ?_
          refine hz_getR (k := 21) hO 190 hz_K_9 hz_sh_178 (hz_lt_178 hN) rfl (Nat.le_of_ble_eq_true rfl) tw_7_10 rfl dX11_doesAll_57 ?_
          refine hz_iload_n hO dX11_doesAll_60 rfl 2 rfl ?_
          obtain ⟨hg17, h⟩ := hz_gd_e h
          refine hz_iald hO hz_sh_190 (hz_lt_190 hN) hg17 dX11_doesAll_61 ?_
          obtain ⟨x18, h_x18, h⟩ := hz_lt_e h
          refine hz_name h_x18 ?_
          refine hz_istore_n (ls1 := [(3, .int x18), (0, .ref (hz_ad w 178)), (2, .int v2_14)]) hO dX11_doesAll_62 rfl (Nat.le_of_ble_eq_true rfl) rfl ?_
          refine hz_goto (tgt := 2) hO dX11_doesAll_63 (by decide) ?_
          exact hz_ls [1, 2, 0] rfl (ih v2_14 x18 M16 h)
        clear hk19
        exact hz_ls [1, 2, 3, 0] rfl (gr_X11_doesAll_L21 hN hb hrec hO _ gk19 _ v2_1 v3_2 (0 : Int32) M3 h)
set_option maxRecDepth 100000 in
set_option maxHeartbeats 4000000 in
theorem cr_X11_doesAll (l : Launch) (w : hz_C) {N : Nat} (hN : 193 ≤ N) {hc : Nat} (hb : 20 ≤ hc) {rec : Int32 → Int32 → hz_M → hz_O} (hrec : ∀ (b0 : Int32) (b1 : Int32) (M : hz_M) (rE : Int32) (ME : hz_M), rec b0 b1 M = some (rE, ME) → hz_Ct l yX11_doesAll cX11_doesAll 5 (some .boolean) hc w N [.ref (hz_ad w 178), .int b0, .int b1] M (hz_Qi w N rE ME)) (a1 : Int32) (a2 : Int32) {M : hz_M} {rE : Int32} {ME : hz_M} (h : r_X11_doesAll rec a1 a2 M = some (rE, ME)) : hz_Ct l yX11_doesAll cX11_doesAll 5 (some .boolean) (hc + 1) w N [.ref (hz_ad w 178), .int a1, .int a2] M (hz_Qi w N rE ME) := by
  refine hz_ofW (by decide) rfl (Nat.le_of_ble_eq_true rfl) tw_7_144 ?_
  intro p e s m args below meth c hO
  show hz_G p l e (hc + 1) hz_z0 s m args below meth c w N 5 _ M 0 [(0, .ref (hz_ad w 178)), (1, .int a1), (2, .int a2)] []
  unfold r_X11_doesAll at h
  refine hz_iload_n hO dX11_doesAll_0 rfl 1 rfl ?_
  refine hz_istore_n (ls1 := [(3, .int a1), (0, .ref (hz_ad w 178)), (1, .int a1), (2, .int a2)]) hO dX11_doesAll_1 rfl (Nat.le_of_ble_eq_true rfl) rfl ?_
  exact hz_ls [1, 3, 0] rfl (gr_X11_doesAll_L2 hN hb hrec hO _ a2 a1 M h)
theorem c_X11_doesAll (l : Launch) (w : hz_C) {N : Nat} (hN : 193 ≤ N) : ∀ (n : Nat) (a1 : Int32) (a2 : Int32) {M : hz_M} {rE : Int32} {ME : hz_M} (_ : f_X11_doesAll n a1 a2 M = some (rE, ME)), hz_Ct l yX11_doesAll cX11_doesAll 5 (some .boolean) (20 + 1 * n) w N [.ref (hz_ad w 178), .int a1, .int a2] M (hz_Qi w N rE ME) := by
  intro n
  induction n with
  | zero =>
    intro a1 a2 M rE ME h
    rw [f_X11_doesAll] at h
    cases h
  | succ n ih =>
    intro a1 a2 M rE ME h
    rw [f_X11_doesAll] at h
    rw [Nat.mul_succ, ← Nat.add_assoc]
    exact cr_X11_doesAll l w hN (Nat.le_add_right _ _) (fun a1 a2 M rE ME q => ih a1 a2 q) a1 a2 h
def f_X11_play (M : hz_M) : hz_O :=
  hz_lm (hz_set M 178 8 (0 : Int32)) fun M1 =>
  hz_ct (f_X11_starts M1) fun r2 M3 =>
  hz_lm (hz_set M3 178 22 (0 : Int32)) fun M5 =>
  hz_ct (f_X11_readsOrders 4 (0 : Int32) M5) fun r6 M7 =>
  hz_jn (fun (q9 : Int32) (M10 : hz_M) =>
    hz_ct (f_X11_must q9 (1 : Int32) M10) fun r11 M12 =>
    hz_lm (hz_set M12 178 11 (0 : Int32)) fun M14 =>
    if (M14 178 17) = 0 then
      hz_ct (f_X11_keeps M14) fun r16 M17 =>
      hz_lm (hz_set M17 178 24 (1 : Int32)) fun M19 =>
      hz_lm (hz_set M19 178 23 (0 : Int32)) fun M20 =>
      hz_ct (f_X11_doesAll 4 (0 : Int32) (M20 178 22) M20) fun r21 M22 =>
      hz_lm (hz_set M22 178 24 (0 : Int32)) fun M24 =>
      some ((M24 178 23), M24)
    else
      some (((-20 : Int32) - (M14 178 17)), M14)
    ) fun k25 =>
  if (M7 178 15) = 0 then
    k25 (1 : Int32) M7
  else
    k25 (0 : Int32) M7
set_option maxRecDepth 100000 in
set_option maxHeartbeats 4000000 in
theorem c_X11_play (l : Launch) (w : hz_C) {N : Nat} (hN : 193 ≤ N) {M : hz_M} {rE : Int32} {ME : hz_M} (h : f_X11_play M = some (rE, ME)) : hz_Ct l yX11_play cX11_play 2 (some .int) 33 w N [.ref (hz_ad w 178)] M (hz_Qi w N rE ME) := by
  refine hz_ofW (by decide) rfl (Nat.le_of_ble_eq_true rfl) tw_7_97 ?_
  intro p e s m args below meth c hO
  show hz_G p l e 33 hz_z0 s m args below meth c w N 2 _ M 0 [(0, .ref (hz_ad w 178))] []
  unfold f_X11_play at h
  refine hz_aload_n hO dX11_play_0 rfl 0 rfl ?_
  refine hz_iconst (v := (0 : Int32)) hO dX11_play_1 (by decide) ?_
  obtain ⟨M1, h_M1, h⟩ := hz_lm_e h
  refine hz_putI (k := 8) (ty := .int) hO hz_K_9 tyX11_ok nmX11 hz_sh_178 (hz_lt_178 hN) rfl (Nat.le_of_ble_eq_true rfl) tw_6_237 rfl rfl rfl rfl rfl dX11_play_2 ?_
  refine hz_nameM h_M1 ?_
  refine hz_aload_n hO dX11_play_5 rfl 0 rfl ?_
  obtain ⟨r2, M3, hq4, h⟩ := hz_ct_e h
  refine hz_callVv (as := []) (rest := []) hO (c_X11_starts l w hN hq4) hz_cal_X11_starts hz_K_9 hz_sh_178 (hz_lt_178 hN) tw_6_159 (Nat.le_of_ble_eq_true rfl) rfl rfl (Nat.le_of_ble_eq_true rfl) dX11_play_6 ?_
  refine hz_aload_n hO dX11_play_9 rfl 0 rfl ?_
  refine hz_iconst (v := (0 : Int32)) hO dX11_play_10 (by decide) ?_
  obtain ⟨M5, h_M5, h⟩ := hz_lm_e h
  refine hz_putI (k := 22) (ty := .int) hO hz_K_9 tyX11_ok nmX11 hz_sh_178 (hz_lt_178 hN) rfl (Nat.le_of_ble_eq_true rfl) tw_7_11 rfl rfl rfl rfl rfl dX11_play_11 ?_
  refine hz_nameM h_M5 ?_
  refine hz_aload_n hO dX11_play_14 rfl 0 rfl ?_
  refine hz_iconst (v := (0 : Int32)) hO dX11_play_15 (by decide) ?_
  obtain ⟨r6, M7, hq8, h⟩ := hz_ct_e h
  refine hz_callVv (as := [.int (0 : Int32)]) (rest := []) hO (c_X11_readsOrders l w hN 4 (0 : Int32) hq8) hz_cal_X11_readsOrders hz_K_9 hz_sh_178 (hz_lt_178 hN) tw_7_98 (Nat.le_of_ble_eq_true rfl) rfl rfl (Nat.le_of_ble_eq_true rfl) dX11_play_16 ?_
  refine hz_aload_n hO dX11_play_19 rfl 0 rfl ?_
  refine hz_aload_n hO dX11_play_20 rfl 0 rfl ?_
  refine hz_getI (k := 15) hO hz_K_9 hz_sh_178 (hz_lt_178 hN) rfl (Nat.le_of_ble_eq_true rfl) tw_7_4 rfl dX11_play_21 ?_
  obtain ⟨k25, hk25, h⟩ := hz_jn_e h
  have gk25 : ∀ (q9 : Int32) (M10 : hz_M), k25 q9 M10 = some (rE, ME) → hz_G p l e 33 hz_z0 s m args below meth c w N 2 (MQ below (hz_Qi w N rE ME) args s 0 0 (hz_A w)) M10 32 [(0, .ref (hz_ad w 178))] [.int q9, .ref (hz_ad w 178)] := by
    intro q9 M10 h
    rw [hk25] at h
    dsimp only at h
    refine hz_iconst (v := (1 : Int32)) hO dX11_play_32 (by decide) ?_
    obtain ⟨r11, M12, hq13, h⟩ := hz_ct_e h
    refine hz_callVi (as := [.int q9, .int (1 : Int32)]) (rest := []) hO (c_X11_must l w hN q9 (1 : Int32) hq13) hz_cal_X11_must hz_K_9 hz_sh_178 (hz_lt_178 hN) tw_6_184 (Nat.le_of_ble_eq_true rfl) rfl rfl (Nat.le_of_ble_eq_true rfl) dX11_play_33 ?_
    refine hz_pop hO dX11_play_36 rfl ?_
    refine hz_aload_n hO dX11_play_37 rfl 0 rfl ?_
    refine hz_iconst (v := (0 : Int32)) hO dX11_play_38 (by decide) ?_
    obtain ⟨M14, h_M14, h⟩ := hz_lm_e h
    refine hz_putI (k := 11) (ty := .int) hO hz_K_9 tyX11_ok nmX11 hz_sh_178 (hz_lt_178 hN) rfl (Nat.le_of_ble_eq_true rfl) tw_7_0 rfl rfl rfl rfl rfl dX11_play_39 ?_
    refine hz_nameM h_M14 ?_
    refine hz_aload_n hO dX11_play_42 rfl 0 rfl ?_
    refine hz_getI (k := 17) hO hz_K_9 hz_sh_178 (hz_lt_178 hN) rfl (Nat.le_of_ble_eq_true rfl) tw_7_6 rfl dX11_play_43 ?_
    refine hz_if_eq (tgt := 57) hO dX11_play_46 (by decide) (fun hc15 => ?_) (fun hc15 => ?_)
    · rw [if_pos hc15] at h
      refine hz_aload_n hO dX11_play_57 rfl 0 rfl ?_
      obtain ⟨r16, M17, hq18, h⟩ := hz_ct_e h
      refine hz_callVv (as := []) (rest := []) hO (c_X11_keeps l w hN hq18) hz_cal_X11_keeps hz_K_9 hz_sh_178 (hz_lt_178 hN) tw_7_137 (Nat.le_of_ble_eq_true rfl) rfl rfl (Nat.le_of_ble_eq_true rfl) dX11_play_58 ?_
      refine hz_aload_n hO dX11_play_61 rfl 0 rfl ?_
      refine hz_iconst (v := (1 : Int32)) hO dX11_play_62 (by decide) ?_
      obtain ⟨M19, h_M19, h⟩ := hz_lm_e h
      refine hz_putI (k := 24) (ty := .boolean) hO hz_K_9 tyX11_ok nmX11 hz_sh_178 (hz_lt_178 hN) rfl (Nat.le_of_ble_eq_true rfl) tw_7_13 rfl rfl rfl rfl rfl dX11_play_63 ?_
      refine hz_nameM h_M19 ?_
      refine hz_aload_n hO dX11_play_66 rfl 0 rfl ?_
      refine hz_iconst (v := (0 : Int32)) hO dX11_play_67 (by decide) ?_
      obtain ⟨M20, h_M20, h⟩ := hz_lm_e h
      refine hz_putI (k := 23) (ty := .int) hO hz_K_9 tyX11_ok nmX11 hz_sh_178 (hz_lt_178 hN) rfl (Nat.le_of_ble_eq_true rfl) tw_7_12 rfl rfl rfl rfl rfl dX11_play_68 ?_
      refine hz_nameM h_M20 ?_
      refine hz_aload_n hO dX11_play_71 rfl 0 rfl ?_
      refine hz_iconst (v := (0 : Int32)) hO dX11_play_72 (by decide) ?_
      refine hz_aload_n hO dX11_play_73 rfl 0 rfl ?_
      refine hz_getI (k := 22) hO hz_K_9 hz_sh_178 (hz_lt_178 hN) rfl (Nat.le_of_ble_eq_true rfl) tw_7_11 rfl dX11_play_74 ?_
      obtain ⟨r21, M22, hq23, h⟩ := hz_ct_e h
      refine hz_callVi (as := [.int (0 : Int32), .int (M20 178 22)]) (rest := []) hO (c_X11_doesAll l w hN 4 (0 : Int32) (M20 178 22) hq23) hz_cal_X11_doesAll hz_K_9 hz_sh_178 (hz_lt_178 hN) tw_7_141 (Nat.le_of_ble_eq_true rfl) rfl rfl (Nat.le_of_ble_eq_true rfl) dX11_play_77 ?_
      refine hz_istore_n (ls1 := [(1, .int r21), (0, .ref (hz_ad w 178))]) hO dX11_play_80 rfl (Nat.le_of_ble_eq_true rfl) rfl ?_
      refine hz_aload_n hO dX11_play_81 rfl 1 rfl ?_
      refine hz_iconst (v := (0 : Int32)) hO dX11_play_82 (by decide) ?_
      obtain ⟨M24, h_M24, h⟩ := hz_lm_e h
      refine hz_putI (k := 24) (ty := .boolean) hO hz_K_9 tyX11_ok nmX11 hz_sh_178 (hz_lt_178 hN) rfl (Nat.le_of_ble_eq_true rfl) tw_7_13 rfl rfl rfl rfl rfl dX11_play_83 ?_
      refine hz_nameM h_M24 ?_
      refine hz_aload_n hO dX11_play_86 rfl 1 rfl ?_
      refine hz_getI (k := 23) hO hz_K_9 hz_sh_178 (hz_lt_178 hN) rfl (Nat.le_of_ble_eq_true rfl) tw_7_12 rfl dX11_play_87 ?_
      exact hz_nameM (hz_some_e h).2.symm (hz_name (hz_some_e h).1.symm (hz_iret hO dX11_play_90))
    · rw [if_neg hc15] at h
      refine hz_bipush (v := (-20 : Int32)) hO dX11_play_49 (by decide) ?_
      refine hz_aload_n hO dX11_play_51 rfl 0 rfl ?_
      refine hz_getI (k := 17) hO hz_K_9 hz_sh_178 (hz_lt_178 hN) rfl (Nat.le_of_ble_eq_true rfl) tw_7_6 rfl dX11_play_52 ?_
      refine hz_isub hO dX11_play_55 ?_
      exact hz_nameM (hz_some_e h).2.symm (hz_name (hz_some_e h).1.symm (hz_iret hO dX11_play_56))
  clear hk25
  refine hz_if_ne (tgt := 31) hO dX11_play_24 (by decide) (fun hc26 => ?_) (fun hc26 => ?_)
  · rw [if_neg hc26] at h
    refine hz_iconst (v := (0 : Int32)) hO dX11_play_31 (by decide) ?_
    exact hz_ls [0] rfl (gk25 (0 : Int32) M7 h)
  · rw [if_pos hc26] at h
    refine hz_iconst (v := (1 : Int32)) hO dX11_play_27 (by decide) ?_
    refine hz_goto (tgt := 32) hO dX11_play_28 (by decide) ?_
    exact hz_ls [0] rfl (gk25 (1 : Int32) M7 h)
