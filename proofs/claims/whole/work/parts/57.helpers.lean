def f_L_size (a1 : Int32) (M : hz_M) : hz_O := hz_xt (f_X10_size a1 M) (hz_ct (fx_X10_size a1 M) fun t M1 => hz_gd (t == 1) (some (1, M1))) fun r M1 => some (0, hz_set M1 193 0 r)
theorem hz_cal_L_size : Cond.codeWith yL_size cL_size 4 (some .int) [(0, 9, 12, 13)] ∈ hz_TB := tw_5_30
set_option maxRecDepth 100000 in
set_option maxHeartbeats 4000000 in
theorem c_L_size (l : Launch) (hl : l.stackTraces = false) (w : hz_C) {N : Nat} (hN : 194 ≤ N) (a1 : Int32) {M : hz_M} {rE : Int32} {ME : hz_M} (h : f_L_size a1 M = some (rE, ME)) : hz_Cw l yL_size cL_size 4 (some .int) [(0, 9, 12, 13)] 7 w N [.ref (hz_ad w 0), .int a1, .ref (hz_ad w 193)] M (hz_Qi w N rE ME) := by
  have hN1 : 178 ≤ N := Nat.le_trans (Nat.le_of_ble_eq_true rfl) hN
  refine hz_ofH (by decide) rfl (Nat.le_of_ble_eq_true rfl) ?_
  intro p e s m args below meth c hO hxt
  show hz_G p l e 7 hz_z1 s m args below meth c w N 4 _ M 0 [(0, .ref (hz_ad w 0)), (1, .int a1), (2, .ref (hz_ad w 193))] []
  unfold f_L_size at h
  rcases hz_xt_e h with ⟨r, M1, hq, h⟩ | hx
  · refine hz_aload_n hO dL_size_0 rfl 2 rfl ?_
    refine hz_iconst (v := (0 : Int32)) hO dL_size_1 (by decide) ?_
    refine hz_aload_n hO dL_size_2 rfl 0 rfl ?_
    refine hz_iload_n hO dL_size_3 rfl 1 rfl ?_
    refine hz_callVi (as := [.int a1]) (rest := [.int 0, .ref (hz_ad w 193)]) hO (c_X10_size l w hN1 a1 hq) hz_cal_X10_size hz_K_8 hz_sh_0 (hz_lt_0 hN1) tw_5_32 (Nat.le_of_ble_eq_true rfl) rfl rfl (Nat.le_of_ble_eq_true rfl) dL_size_4 ?_
    refine hz_i2l hO dL_size_7 ?_
    refine hz_last hO hz_sh_193 (hz_lt_193 hN) (by decide) dL_size_8 ?_
    refine hz_goto (tgt := 15) hO dL_size_9 (by decide) ?_
    refine hz_iconst (v := (0 : Int32)) hO dL_size_15 (by decide) ?_
    refine hz_up ?_
    exact hz_nameM (hz_some_e h).2.symm (hz_name (hz_some_e h).1.symm (hz_iret hO dL_size_16))
  · obtain ⟨t, M1, hq, h⟩ := hz_ct_e hx
    obtain ⟨hg, h⟩ := hz_gd_e h
    have ht : t = 1 := eq_of_beq hg
    subst ht
    refine hz_aload_n hO dL_size_0 rfl 2 rfl ?_
    refine hz_iconst (v := (0 : Int32)) hO dL_size_1 (by decide) ?_
    refine hz_aload_n hO dL_size_2 rfl 0 rfl ?_
    refine hz_iload_n hO dL_size_3 rfl 1 rfl ?_
    refine hz_tryV (as := [.int a1]) (rest := [.int 0, .ref (hz_ad w 193)]) hO hxt (cx_X10_size l hl w hN1 a1 hq) hz_cal_X10_size hz_K_8 hz_sh_0 (hz_lt_0 hN1) tw_5_32 (Nat.le_of_ble_eq_true rfl) rfl rfl (Nat.le_of_ble_eq_true rfl) dL_size_4 [] ⟨0, 9, 12, 13⟩ [] rfl (name := "java/lang/IllegalArgumentException") rfl (fun q hq => by cases hq) (by decide) (by decide) tw_5_31 (by decide) (fun q => ?_)
    refine hz_astore_n (ls1 := [(3, .ref q), (0, .ref (hz_ad w 0)), (1, .int a1), (2, .ref (hz_ad w 193))]) hO dL_size_12 rfl (Nat.le_of_ble_eq_true rfl) rfl ?_
    refine hz_iconst (v := (1 : Int32)) hO dL_size_13 (by decide) ?_
    exact hz_nameM (hz_some_e h).2.symm (hz_name (hz_some_e h).1.symm (hz_iret hO dL_size_14))
def f_L_guest (a1 : Int32) (a2 : Int32) (M : hz_M) : hz_O := hz_xt (f_X10_guest a1 a2 M) (hz_ct (fx_X10_guest a1 a2 M) fun t M1 => hz_gd (t == 1) (some (1, M1))) fun r M1 => some (0, hz_set M1 193 0 r)
theorem hz_cal_L_guest : Cond.codeWith yL_guest cL_guest 5 (some .int) [(0, 10, 13, 13)] ∈ hz_TB := tw_5_105
set_option maxRecDepth 100000 in
set_option maxHeartbeats 4000000 in
theorem c_L_guest (l : Launch) (hl : l.stackTraces = false) (w : hz_C) {N : Nat} (hN : 194 ≤ N) (a1 : Int32) (a2 : Int32) {M : hz_M} {rE : Int32} {ME : hz_M} (h : f_L_guest a1 a2 M = some (rE, ME)) : hz_Cw l yL_guest cL_guest 5 (some .int) [(0, 10, 13, 13)] 8 w N [.ref (hz_ad w 0), .int a1, .int a2, .ref (hz_ad w 193)] M (hz_Qi w N rE ME) := by
  have hN1 : 178 ≤ N := Nat.le_trans (Nat.le_of_ble_eq_true rfl) hN
  refine hz_ofH (by decide) rfl (Nat.le_of_ble_eq_true rfl) ?_
  intro p e s m args below meth c hO hxt
  show hz_G p l e 8 hz_z1 s m args below meth c w N 5 _ M 0 [(0, .ref (hz_ad w 0)), (1, .int a1), (2, .int a2), (3, .ref (hz_ad w 193))] []
  unfold f_L_guest at h
  rcases hz_xt_e h with ⟨r, M1, hq, h⟩ | hx
  · refine hz_aload_n hO dL_guest_0 rfl 3 rfl ?_
    refine hz_iconst (v := (0 : Int32)) hO dL_guest_1 (by decide) ?_
    refine hz_aload_n hO dL_guest_2 rfl 0 rfl ?_
    refine hz_iload_n hO dL_guest_3 rfl 1 rfl ?_
    refine hz_iload_n hO dL_guest_4 rfl 2 rfl ?_
    refine hz_callVi (as := [.int a1, .int a2]) (rest := [.int 0, .ref (hz_ad w 193)]) hO (c_X10_guest l w hN1 a1 a2 hq) hz_cal_X10_guest hz_K_8 hz_sh_0 (hz_lt_0 hN1) tw_5_106 (Nat.le_of_ble_eq_true rfl) rfl rfl (Nat.le_of_ble_eq_true rfl) dL_guest_5 ?_
    refine hz_i2l hO dL_guest_8 ?_
    refine hz_last hO hz_sh_193 (hz_lt_193 hN) (by decide) dL_guest_9 ?_
    refine hz_goto (tgt := 17) hO dL_guest_10 (by decide) ?_
    refine hz_iconst (v := (0 : Int32)) hO dL_guest_17 (by decide) ?_
    refine hz_up ?_
    exact hz_nameM (hz_some_e h).2.symm (hz_name (hz_some_e h).1.symm (hz_iret hO dL_guest_18))
  · obtain ⟨t, M1, hq, h⟩ := hz_ct_e hx
    obtain ⟨hg, h⟩ := hz_gd_e h
    have ht : t = 1 := eq_of_beq hg
    subst ht
    refine hz_aload_n hO dL_guest_0 rfl 3 rfl ?_
    refine hz_iconst (v := (0 : Int32)) hO dL_guest_1 (by decide) ?_
    refine hz_aload_n hO dL_guest_2 rfl 0 rfl ?_
    refine hz_iload_n hO dL_guest_3 rfl 1 rfl ?_
    refine hz_iload_n hO dL_guest_4 rfl 2 rfl ?_
    refine hz_tryV (as := [.int a1, .int a2]) (rest := [.int 0, .ref (hz_ad w 193)]) hO hxt (cx_X10_guest l hl w hN1 a1 a2 hq) hz_cal_X10_guest hz_K_8 hz_sh_0 (hz_lt_0 hN1) tw_5_106 (Nat.le_of_ble_eq_true rfl) rfl rfl (Nat.le_of_ble_eq_true rfl) dL_guest_5 [] ⟨0, 10, 13, 13⟩ [] rfl (name := "java/lang/IllegalArgumentException") rfl (fun q hq => by cases hq) (by decide) (by decide) tw_5_31 (by decide) (fun q => ?_)
    refine hz_astore (ls1 := [(4, .ref q), (0, .ref (hz_ad w 0)), (1, .int a1), (2, .int a2), (3, .ref (hz_ad w 193))]) hO dL_guest_13 (Nat.le_of_ble_eq_true rfl) rfl ?_
    refine hz_iconst (v := (1 : Int32)) hO dL_guest_15 (by decide) ?_
    exact hz_nameM (hz_some_e h).2.symm (hz_name (hz_some_e h).1.symm (hz_iret hO dL_guest_16))
def f_L_towel (a1 : Int32) (a2 : Int32) (M : hz_M) : hz_O := hz_xt (f_X10_towel a1 a2 M) (hz_ct (fx_X10_towel a1 a2 M) fun t M1 => hz_gd (t == 1) (some (1, M1))) fun r M1 => some (0, hz_set M1 193 0 r)
theorem hz_cal_L_towel : Cond.codeWith yL_towel cL_towel 5 (some .int) [(0, 10, 13, 13)] ∈ hz_TB := tw_5_123
set_option maxRecDepth 100000 in
set_option maxHeartbeats 4000000 in
theorem c_L_towel (l : Launch) (hl : l.stackTraces = false) (w : hz_C) {N : Nat} (hN : 194 ≤ N) (a1 : Int32) (a2 : Int32) {M : hz_M} {rE : Int32} {ME : hz_M} (h : f_L_towel a1 a2 M = some (rE, ME)) : hz_Cw l yL_towel cL_towel 5 (some .int) [(0, 10, 13, 13)] 8 w N [.ref (hz_ad w 0), .int a1, .int a2, .ref (hz_ad w 193)] M (hz_Qi w N rE ME) := by
  have hN1 : 178 ≤ N := Nat.le_trans (Nat.le_of_ble_eq_true rfl) hN
  refine hz_ofH (by decide) rfl (Nat.le_of_ble_eq_true rfl) ?_
  intro p e s m args below meth c hO hxt
  show hz_G p l e 8 hz_z1 s m args below meth c w N 5 _ M 0 [(0, .ref (hz_ad w 0)), (1, .int a1), (2, .int a2), (3, .ref (hz_ad w 193))] []
  unfold f_L_towel at h
  rcases hz_xt_e h with ⟨r, M1, hq, h⟩ | hx
  · refine hz_aload_n hO dL_towel_0 rfl 3 rfl ?_
    refine hz_iconst (v := (0 : Int32)) hO dL_towel_1 (by decide) ?_
    refine hz_aload_n hO dL_towel_2 rfl 0 rfl ?_
    refine hz_iload_n hO dL_towel_3 rfl 1 rfl ?_
    refine hz_iload_n hO dL_towel_4 rfl 2 rfl ?_
    refine hz_callVi (as := [.int a1, .int a2]) (rest := [.int 0, .ref (hz_ad w 193)]) hO (c_X10_towel l w hN1 a1 a2 hq) hz_cal_X10_towel hz_K_8 hz_sh_0 (hz_lt_0 hN1) tw_5_124 (Nat.le_of_ble_eq_true rfl) rfl rfl (Nat.le_of_ble_eq_true rfl) dL_towel_5 ?_
    refine hz_i2l hO dL_towel_8 ?_
    refine hz_last hO hz_sh_193 (hz_lt_193 hN) (by decide) dL_towel_9 ?_
    refine hz_goto (tgt := 17) hO dL_towel_10 (by decide) ?_
    refine hz_iconst (v := (0 : Int32)) hO dL_towel_17 (by decide) ?_
    refine hz_up ?_
    exact hz_nameM (hz_some_e h).2.symm (hz_name (hz_some_e h).1.symm (hz_iret hO dL_towel_18))
  · obtain ⟨t, M1, hq, h⟩ := hz_ct_e hx
    obtain ⟨hg, h⟩ := hz_gd_e h
    have ht : t = 1 := eq_of_beq hg
    subst ht
    refine hz_aload_n hO dL_towel_0 rfl 3 rfl ?_
    refine hz_iconst (v := (0 : Int32)) hO dL_towel_1 (by decide) ?_
    refine hz_aload_n hO dL_towel_2 rfl 0 rfl ?_
    refine hz_iload_n hO dL_towel_3 rfl 1 rfl ?_
    refine hz_iload_n hO dL_towel_4 rfl 2 rfl ?_
    refine hz_tryV (as := [.int a1, .int a2]) (rest := [.int 0, .ref (hz_ad w 193)]) hO hxt (cx_X10_towel l hl w hN1 a1 a2 hq) hz_cal_X10_towel hz_K_8 hz_sh_0 (hz_lt_0 hN1) tw_5_124 (Nat.le_of_ble_eq_true rfl) rfl rfl (Nat.le_of_ble_eq_true rfl) dL_towel_5 [] ⟨0, 10, 13, 13⟩ [] rfl (name := "java/lang/IllegalArgumentException") rfl (fun q hq => by cases hq) (by decide) (by decide) tw_5_31 (by decide) (fun q => ?_)
    refine hz_astore (ls1 := [(4, .ref q), (0, .ref (hz_ad w 0)), (1, .int a1), (2, .int a2), (3, .ref (hz_ad w 193))]) hO dL_towel_13 (Nat.le_of_ble_eq_true rfl) rfl ?_
    refine hz_iconst (v := (1 : Int32)) hO dL_towel_15 (by decide) ?_
    exact hz_nameM (hz_some_e h).2.symm (hz_name (hz_some_e h).1.symm (hz_iret hO dL_towel_16))
def f_L_peg (a1 : Int32) (M : hz_M) : hz_O := hz_xt (f_X10_peg a1 M) (hz_ct (fx_X10_peg a1 M) fun t M1 => hz_gd (t == 1) (some (1, M1))) fun r M1 => some (0, hz_set M1 193 0 r)
theorem hz_cal_L_peg : Cond.codeWith yL_peg cL_peg 4 (some .int) [(0, 9, 12, 13)] ∈ hz_TB := tw_5_133
set_option maxRecDepth 100000 in
set_option maxHeartbeats 4000000 in
theorem c_L_peg (l : Launch) (hl : l.stackTraces = false) (w : hz_C) {N : Nat} (hN : 194 ≤ N) (a1 : Int32) {M : hz_M} {rE : Int32} {ME : hz_M} (h : f_L_peg a1 M = some (rE, ME)) : hz_Cw l yL_peg cL_peg 4 (some .int) [(0, 9, 12, 13)] 8 w N [.ref (hz_ad w 0), .int a1, .ref (hz_ad w 193)] M (hz_Qi w N rE ME) := by
  have hN1 : 178 ≤ N := Nat.le_trans (Nat.le_of_ble_eq_true rfl) hN
  refine hz_ofH (by decide) rfl (Nat.le_of_ble_eq_true rfl) ?_
  intro p e s m args below meth c hO hxt
  show hz_G p l e 8 hz_z1 s m args below meth c w N 4 _ M 0 [(0, .ref (hz_ad w 0)), (1, .int a1), (2, .ref (hz_ad w 193))] []
  unfold f_L_peg at h
  rcases hz_xt_e h with ⟨r, M1, hq, h⟩ | hx
  · refine hz_aload_n hO dL_peg_0 rfl 2 rfl ?_
    refine hz_iconst (v := (0 : Int32)) hO dL_peg_1 (by decide) ?_
    refine hz_aload_n hO dL_peg_2 rfl 0 rfl ?_
    refine hz_iload_n hO dL_peg_3 rfl 1 rfl ?_
    refine hz_callVi (as := [.int a1]) (rest := [.int 0, .ref (hz_ad w 193)]) hO (c_X10_peg l w hN1 a1 hq) hz_cal_X10_peg hz_K_8 hz_sh_0 (hz_lt_0 hN1) tw_5_134 (Nat.le_of_ble_eq_true rfl) rfl rfl (Nat.le_of_ble_eq_true rfl) dL_peg_4 ?_
    refine hz_i2l hO dL_peg_7 ?_
    refine hz_last hO hz_sh_193 (hz_lt_193 hN) (by decide) dL_peg_8 ?_
    refine hz_goto (tgt := 15) hO dL_peg_9 (by decide) ?_
    refine hz_iconst (v := (0 : Int32)) hO dL_peg_15 (by decide) ?_
    refine hz_up ?_
    exact hz_nameM (hz_some_e h).2.symm (hz_name (hz_some_e h).1.symm (hz_iret hO dL_peg_16))
  · obtain ⟨t, M1, hq, h⟩ := hz_ct_e hx
    obtain ⟨hg, h⟩ := hz_gd_e h
    have ht : t = 1 := eq_of_beq hg
    subst ht
    refine hz_aload_n hO dL_peg_0 rfl 2 rfl ?_
    refine hz_iconst (v := (0 : Int32)) hO dL_peg_1 (by decide) ?_
    refine hz_aload_n hO dL_peg_2 rfl 0 rfl ?_
    refine hz_iload_n hO dL_peg_3 rfl 1 rfl ?_
    refine hz_tryV (as := [.int a1]) (rest := [.int 0, .ref (hz_ad w 193)]) hO hxt (cx_X10_peg l hl w hN1 a1 hq) hz_cal_X10_peg hz_K_8 hz_sh_0 (hz_lt_0 hN1) tw_5_134 (Nat.le_of_ble_eq_true rfl) rfl rfl (Nat.le_of_ble_eq_true rfl) dL_peg_4 [] ⟨0, 9, 12, 13⟩ [] rfl (name := "java/lang/IllegalArgumentException") rfl (fun q hq => by cases hq) (by decide) (by decide) tw_5_31 (by decide) (fun q => ?_)
    refine hz_astore_n (ls1 := [(3, .ref q), (0, .ref (hz_ad w 0)), (1, .int a1), (2, .ref (hz_ad w 193))]) hO dL_peg_12 rfl (Nat.le_of_ble_eq_true rfl) rfl ?_
    refine hz_iconst (v := (1 : Int32)) hO dL_peg_13 (by decide) ?_
    exact hz_nameM (hz_some_e h).2.symm (hz_name (hz_some_e h).1.symm (hz_iret hO dL_peg_14))
def f_L_locker (a1 : Int32) (M : hz_M) : hz_O := hz_xt (f_X10_locker a1 M) (hz_ct (fx_X10_locker a1 M) fun t M1 => hz_gd (t == 1) (some (1, M1))) fun r M1 => some (0, hz_set M1 193 0 r)
theorem hz_cal_L_locker : Cond.codeWith yL_locker cL_locker 4 (some .int) [(0, 9, 12, 13)] ∈ hz_TB := tw_5_141
set_option maxRecDepth 100000 in
set_option maxHeartbeats 4000000 in
theorem c_L_locker (l : Launch) (hl : l.stackTraces = false) (w : hz_C) {N : Nat} (hN : 194 ≤ N) (a1 : Int32) {M : hz_M} {rE : Int32} {ME : hz_M} (h : f_L_locker a1 M = some (rE, ME)) : hz_Cw l yL_locker cL_locker 4 (some .int) [(0, 9, 12, 13)] 8 w N [.ref (hz_ad w 0), .int a1, .ref (hz_ad w 193)] M (hz_Qi w N rE ME) := by
  have hN1 : 178 ≤ N := Nat.le_trans (Nat.le_of_ble_eq_true rfl) hN
  refine hz_ofH (by decide) rfl (Nat.le_of_ble_eq_true rfl) ?_
  intro p e s m args below meth c hO hxt
  show hz_G p l e 8 hz_z1 s m args below meth c w N 4 _ M 0 [(0, .ref (hz_ad w 0)), (1, .int a1), (2, .ref (hz_ad w 193))] []
  unfold f_L_locker at h
  rcases hz_xt_e h with ⟨r, M1, hq, h⟩ | hx
  · refine hz_aload_n hO dL_locker_0 rfl 2 rfl ?_
    refine hz_iconst (v := (0 : Int32)) hO dL_locker_1 (by decide) ?_
    refine hz_aload_n hO dL_locker_2 rfl 0 rfl ?_
    refine hz_iload_n hO dL_locker_3 rfl 1 rfl ?_
    refine hz_callVi (as := [.int a1]) (rest := [.int 0, .ref (hz_ad w 193)]) hO (c_X10_locker l w hN1 a1 hq) hz_cal_X10_locker hz_K_8 hz_sh_0 (hz_lt_0 hN1) tw_5_142 (Nat.le_of_ble_eq_true rfl) rfl rfl (Nat.le_of_ble_eq_true rfl) dL_locker_4 ?_
    refine hz_i2l hO dL_locker_7 ?_
    refine hz_last hO hz_sh_193 (hz_lt_193 hN) (by decide) dL_locker_8 ?_
    refine hz_goto (tgt := 15) hO dL_locker_9 (by decide) ?_
    refine hz_iconst (v := (0 : Int32)) hO dL_locker_15 (by decide) ?_
    refine hz_up ?_
    exact hz_nameM (hz_some_e h).2.symm (hz_name (hz_some_e h).1.symm (hz_iret hO dL_locker_16))
  · obtain ⟨t, M1, hq, h⟩ := hz_ct_e hx
    obtain ⟨hg, h⟩ := hz_gd_e h
    have ht : t = 1 := eq_of_beq hg
    subst ht
    refine hz_aload_n hO dL_locker_0 rfl 2 rfl ?_
    refine hz_iconst (v := (0 : Int32)) hO dL_locker_1 (by decide) ?_
    refine hz_aload_n hO dL_locker_2 rfl 0 rfl ?_
    refine hz_iload_n hO dL_locker_3 rfl 1 rfl ?_
    refine hz_tryV (as := [.int a1]) (rest := [.int 0, .ref (hz_ad w 193)]) hO hxt (cx_X10_locker l hl w hN1 a1 hq) hz_cal_X10_locker hz_K_8 hz_sh_0 (hz_lt_0 hN1) tw_5_142 (Nat.le_of_ble_eq_true rfl) rfl rfl (Nat.le_of_ble_eq_true rfl) dL_locker_4 [] ⟨0, 9, 12, 13⟩ [] rfl (name := "java/lang/IllegalArgumentException") rfl (fun q hq => by cases hq) (by decide) (by decide) tw_5_31 (by decide) (fun q => ?_)
    refine hz_astore_n (ls1 := [(3, .ref q), (0, .ref (hz_ad w 0)), (1, .int a1), (2, .ref (hz_ad w 193))]) hO dL_locker_12 rfl (Nat.le_of_ble_eq_true rfl) rfl ?_
    refine hz_iconst (v := (1 : Int32)) hO dL_locker_13 (by decide) ?_
    exact hz_nameM (hz_some_e h).2.symm (hz_name (hz_some_e h).1.symm (hz_iret hO dL_locker_14))
def f_L_opening (a1 : Int32) (M : hz_M) : hz_O := hz_xt (f_X10_opening a1 M) (hz_ct (fx_X10_opening a1 M) fun t M1 => hz_gd (t == 1) (some (1, M1))) fun r M1 => some (0, hz_set M1 193 0 r)
theorem hz_cal_L_opening : Cond.codeWith yL_opening cL_opening 4 (some .int) [(0, 9, 12, 13)] ∈ hz_TB := tw_5_149
set_option maxRecDepth 100000 in
set_option maxHeartbeats 4000000 in
theorem c_L_opening (l : Launch) (hl : l.stackTraces = false) (w : hz_C) {N : Nat} (hN : 194 ≤ N) (a1 : Int32) {M : hz_M} {rE : Int32} {ME : hz_M} (h : f_L_opening a1 M = some (rE, ME)) : hz_Cw l yL_opening cL_opening 4 (some .int) [(0, 9, 12, 13)] 8 w N [.ref (hz_ad w 0), .int a1, .ref (hz_ad w 193)] M (hz_Qi w N rE ME) := by
  have hN1 : 178 ≤ N := Nat.le_trans (Nat.le_of_ble_eq_true rfl) hN
  refine hz_ofH (by decide) rfl (Nat.le_of_ble_eq_true rfl) ?_
  intro p e s m args below meth c hO hxt
  show hz_G p l e 8 hz_z1 s m args below meth c w N 4 _ M 0 [(0, .ref (hz_ad w 0)), (1, .int a1), (2, .ref (hz_ad w 193))] []
  unfold f_L_opening at h
  rcases hz_xt_e h with ⟨r, M1, hq, h⟩ | hx
  · refine hz_aload_n hO dL_opening_0 rfl 2 rfl ?_
    refine hz_iconst (v := (0 : Int32)) hO dL_opening_1 (by decide) ?_
    refine hz_aload_n hO dL_opening_2 rfl 0 rfl ?_
    refine hz_iload_n hO dL_opening_3 rfl 1 rfl ?_
    refine hz_callVi (as := [.int a1]) (rest := [.int 0, .ref (hz_ad w 193)]) hO (c_X10_opening l w hN1 a1 hq) hz_cal_X10_opening hz_K_8 hz_sh_0 (hz_lt_0 hN1) tw_5_150 (Nat.le_of_ble_eq_true rfl) rfl rfl (Nat.le_of_ble_eq_true rfl) dL_opening_4 ?_
    refine hz_i2l hO dL_opening_7 ?_
    refine hz_last hO hz_sh_193 (hz_lt_193 hN) (by decide) dL_opening_8 ?_
    refine hz_goto (tgt := 15) hO dL_opening_9 (by decide) ?_
    refine hz_iconst (v := (0 : Int32)) hO dL_opening_15 (by decide) ?_
    refine hz_up ?_
    exact hz_nameM (hz_some_e h).2.symm (hz_name (hz_some_e h).1.symm (hz_iret hO dL_opening_16))
  · obtain ⟨t, M1, hq, h⟩ := hz_ct_e hx
    obtain ⟨hg, h⟩ := hz_gd_e h
    have ht : t = 1 := eq_of_beq hg
    subst ht
    refine hz_aload_n hO dL_opening_0 rfl 2 rfl ?_
    refine hz_iconst (v := (0 : Int32)) hO dL_opening_1 (by decide) ?_
    refine hz_aload_n hO dL_opening_2 rfl 0 rfl ?_
    refine hz_iload_n hO dL_opening_3 rfl 1 rfl ?_
    refine hz_tryV (as := [.int a1]) (rest := [.int 0, .ref (hz_ad w 193)]) hO hxt (cx_X10_opening l hl w hN1 a1 hq) hz_cal_X10_opening hz_K_8 hz_sh_0 (hz_lt_0 hN1) tw_5_150 (Nat.le_of_ble_eq_true rfl) rfl rfl (Nat.le_of_ble_eq_true rfl) dL_opening_4 [] ⟨0, 9, 12, 13⟩ [] rfl (name := "java/lang/IllegalArgumentException") rfl (fun q hq => by cases hq) (by decide) (by decide) tw_5_31 (by decide) (fun q => ?_)
    refine hz_astore_n (ls1 := [(3, .ref q), (0, .ref (hz_ad w 0)), (1, .int a1), (2, .ref (hz_ad w 193))]) hO dL_opening_12 rfl (Nat.le_of_ble_eq_true rfl) rfl ?_
    refine hz_iconst (v := (1 : Int32)) hO dL_opening_13 (by decide) ?_
    exact hz_nameM (hz_some_e h).2.symm (hz_name (hz_some_e h).1.symm (hz_iret hO dL_opening_14))
def f_L_step (a1 : Int32) (a2 : Int32) (M : hz_M) : hz_O := hz_xt (f_X10_step a1 a2 M) (hz_ct (fx_X10_step a1 a2 M) fun t M1 => hz_gd (t == 1) (some (1, M1))) fun r M1 => some (0, hz_set M1 193 0 r)
theorem hz_cal_L_step : Cond.codeWith yL_step cL_step 5 (some .int) [(0, 10, 13, 13)] ∈ hz_TB := tw_5_157
set_option maxRecDepth 100000 in
set_option maxHeartbeats 4000000 in
theorem c_L_step (l : Launch) (hl : l.stackTraces = false) (w : hz_C) {N : Nat} (hN : 194 ≤ N) (a1 : Int32) (a2 : Int32) {M : hz_M} {rE : Int32} {ME : hz_M} (h : f_L_step a1 a2 M = some (rE, ME)) : hz_Cw l yL_step cL_step 5 (some .int) [(0, 10, 13, 13)] 8 w N [.ref (hz_ad w 0), .int a1, .int a2, .ref (hz_ad w 193)] M (hz_Qi w N rE ME) := by
  have hN1 : 178 ≤ N := Nat.le_trans (Nat.le_of_ble_eq_true rfl) hN
  refine hz_ofH (by decide) rfl (Nat.le_of_ble_eq_true rfl) ?_
  intro p e s m args below meth c hO hxt
  show hz_G p l e 8 hz_z1 s m args below meth c w N 5 _ M 0 [(0, .ref (hz_ad w 0)), (1, .int a1), (2, .int a2), (3, .ref (hz_ad w 193))] []
  unfold f_L_step at h
  rcases hz_xt_e h with ⟨r, M1, hq, h⟩ | hx
  · refine hz_aload_n hO dL_step_0 rfl 3 rfl ?_
    refine hz_iconst (v := (0 : Int32)) hO dL_step_1 (by decide) ?_
    refine hz_aload_n hO dL_step_2 rfl 0 rfl ?_
    refine hz_iload_n hO dL_step_3 rfl 1 rfl ?_
    refine hz_iload_n hO dL_step_4 rfl 2 rfl ?_
    refine hz_callVi (as := [.int a1, .int a2]) (rest := [.int 0, .ref (hz_ad w 193)]) hO (c_X10_step l w hN1 a1 a2 hq) hz_cal_X10_step hz_K_8 hz_sh_0 (hz_lt_0 hN1) tw_5_158 (Nat.le_of_ble_eq_true rfl) rfl rfl (Nat.le_of_ble_eq_true rfl) dL_step_5 ?_
    refine hz_i2l hO dL_step_8 ?_
    refine hz_last hO hz_sh_193 (hz_lt_193 hN) (by decide) dL_step_9 ?_
    refine hz_goto (tgt := 17) hO dL_step_10 (by decide) ?_
    refine hz_iconst (v := (0 : Int32)) hO dL_step_17 (by decide) ?_
    refine hz_up ?_
    exact hz_nameM (hz_some_e h).2.symm (hz_name (hz_some_e h).1.symm (hz_iret hO dL_step_18))
  · obtain ⟨t, M1, hq, h⟩ := hz_ct_e hx
    obtain ⟨hg, h⟩ := hz_gd_e h
    have ht : t = 1 := eq_of_beq hg
    subst ht
    refine hz_aload_n hO dL_step_0 rfl 3 rfl ?_
    refine hz_iconst (v := (0 : Int32)) hO dL_step_1 (by decide) ?_
    refine hz_aload_n hO dL_step_2 rfl 0 rfl ?_
    refine hz_iload_n hO dL_step_3 rfl 1 rfl ?_
    refine hz_iload_n hO dL_step_4 rfl 2 rfl ?_
    refine hz_tryV (as := [.int a1, .int a2]) (rest := [.int 0, .ref (hz_ad w 193)]) hO hxt (cx_X10_step l hl w hN1 a1 a2 hq) hz_cal_X10_step hz_K_8 hz_sh_0 (hz_lt_0 hN1) tw_5_158 (Nat.le_of_ble_eq_true rfl) rfl rfl (Nat.le_of_ble_eq_true rfl) dL_step_5 [] ⟨0, 10, 13, 13⟩ [] rfl (name := "java/lang/IllegalArgumentException") rfl (fun q hq => by cases hq) (by decide) (by decide) tw_5_31 (by decide) (fun q => ?_)
    refine hz_astore (ls1 := [(4, .ref q), (0, .ref (hz_ad w 0)), (1, .int a1), (2, .int a2), (3, .ref (hz_ad w 193))]) hO dL_step_13 (Nat.le_of_ble_eq_true rfl) rfl ?_
    refine hz_iconst (v := (1 : Int32)) hO dL_step_15 (by decide) ?_
    exact hz_nameM (hz_some_e h).2.symm (hz_name (hz_some_e h).1.symm (hz_iret hO dL_step_16))
def f_L_letter (a1 : Int32) (a2 : Int32) (M : hz_M) : hz_O := hz_xt (f_X10_letter a1 a2 M) (hz_ct (fx_X10_letter a1 a2 M) fun t M1 => hz_gd (t == 1) (some (1, M1))) fun r M1 => some (0, hz_set M1 193 0 r)
theorem hz_cal_L_letter : Cond.codeWith yL_letter cL_letter 5 (some .int) [(0, 10, 13, 13)] ∈ hz_TB := tw_5_176
set_option maxRecDepth 100000 in
set_option maxHeartbeats 4000000 in
theorem c_L_letter (l : Launch) (hl : l.stackTraces = false) (w : hz_C) {N : Nat} (hN : 194 ≤ N) (a1 : Int32) (a2 : Int32) {M : hz_M} {rE : Int32} {ME : hz_M} (h : f_L_letter a1 a2 M = some (rE, ME)) : hz_Cw l yL_letter cL_letter 5 (some .int) [(0, 10, 13, 13)] 8 w N [.ref (hz_ad w 0), .int a1, .int a2, .ref (hz_ad w 193)] M (hz_Qi w N rE ME) := by
  have hN1 : 178 ≤ N := Nat.le_trans (Nat.le_of_ble_eq_true rfl) hN
  refine hz_ofH (by decide) rfl (Nat.le_of_ble_eq_true rfl) ?_
  intro p e s m args below meth c hO hxt
  show hz_G p l e 8 hz_z1 s m args below meth c w N 5 _ M 0 [(0, .ref (hz_ad w 0)), (1, .int a1), (2, .int a2), (3, .ref (hz_ad w 193))] []
  unfold f_L_letter at h
  rcases hz_xt_e h with ⟨r, M1, hq, h⟩ | hx
  · refine hz_aload_n hO dL_letter_0 rfl 3 rfl ?_
    refine hz_iconst (v := (0 : Int32)) hO dL_letter_1 (by decide) ?_
    refine hz_aload_n hO dL_letter_2 rfl 0 rfl ?_
    refine hz_iload_n hO dL_letter_3 rfl 1 rfl ?_
    refine hz_iload_n hO dL_letter_4 rfl 2 rfl ?_
    refine hz_callVi (as := [.int a1, .int a2]) (rest := [.int 0, .ref (hz_ad w 193)]) hO (c_X10_letter l w hN1 a1 a2 hq) hz_cal_X10_letter hz_K_8 hz_sh_0 (hz_lt_0 hN1) tw_5_177 (Nat.le_of_ble_eq_true rfl) rfl rfl (Nat.le_of_ble_eq_true rfl) dL_letter_5 ?_
    refine hz_i2l hO dL_letter_8 ?_
    refine hz_last hO hz_sh_193 (hz_lt_193 hN) (by decide) dL_letter_9 ?_
    refine hz_goto (tgt := 17) hO dL_letter_10 (by decide) ?_
    refine hz_iconst (v := (0 : Int32)) hO dL_letter_17 (by decide) ?_
    refine hz_up ?_
    exact hz_nameM (hz_some_e h).2.symm (hz_name (hz_some_e h).1.symm (hz_iret hO dL_letter_18))
  · obtain ⟨t, M1, hq, h⟩ := hz_ct_e hx
    obtain ⟨hg, h⟩ := hz_gd_e h
    have ht : t = 1 := eq_of_beq hg
    subst ht
    refine hz_aload_n hO dL_letter_0 rfl 3 rfl ?_
    refine hz_iconst (v := (0 : Int32)) hO dL_letter_1 (by decide) ?_
    refine hz_aload_n hO dL_letter_2 rfl 0 rfl ?_
    refine hz_iload_n hO dL_letter_3 rfl 1 rfl ?_
    refine hz_iload_n hO dL_letter_4 rfl 2 rfl ?_
    refine hz_tryV (as := [.int a1, .int a2]) (rest := [.int 0, .ref (hz_ad w 193)]) hO hxt (cx_X10_letter l hl w hN1 a1 a2 hq) hz_cal_X10_letter hz_K_8 hz_sh_0 (hz_lt_0 hN1) tw_5_177 (Nat.le_of_ble_eq_true rfl) rfl rfl (Nat.le_of_ble_eq_true rfl) dL_letter_5 [] ⟨0, 10, 13, 13⟩ [] rfl (name := "java/lang/IllegalArgumentException") rfl (fun q hq => by cases hq) (by decide) (by decide) tw_5_31 (by decide) (fun q => ?_)
    refine hz_astore (ls1 := [(4, .ref q), (0, .ref (hz_ad w 0)), (1, .int a1), (2, .int a2), (3, .ref (hz_ad w 193))]) hO dL_letter_13 (Nat.le_of_ble_eq_true rfl) rfl ?_
    refine hz_iconst (v := (1 : Int32)) hO dL_letter_15 (by decide) ?_
    exact hz_nameM (hz_some_e h).2.symm (hz_name (hz_some_e h).1.symm (hz_iret hO dL_letter_16))
def f_L_why (a1 : Int32) (a2 : Int32) (a3 : Int32) (M : hz_M) : hz_O := hz_xt (f_X10_why a1 a2 a3 M) (hz_ct (fx_X10_why a1 a2 a3 M) fun t M1 => hz_gd (t == 1) (some (1, M1))) fun r M1 => some (0, hz_set M1 193 0 r)
theorem hz_cal_L_why : Cond.codeWith yL_why cL_why 6 (some .int) [(0, 12, 15, 13)] ∈ hz_TB := tw_5_184
set_option maxRecDepth 100000 in
set_option maxHeartbeats 4000000 in
theorem c_L_why (l : Launch) (hl : l.stackTraces = false) (w : hz_C) {N : Nat} (hN : 194 ≤ N) (a1 : Int32) (a2 : Int32) (a3 : Int32) {M : hz_M} {rE : Int32} {ME : hz_M} (h : f_L_why a1 a2 a3 M = some (rE, ME)) : hz_Cw l yL_why cL_why 6 (some .int) [(0, 12, 15, 13)] 8 w N [.ref (hz_ad w 0), .int a1, .int a2, .int a3, .ref (hz_ad w 193)] M (hz_Qi w N rE ME) := by
  have hN1 : 178 ≤ N := Nat.le_trans (Nat.le_of_ble_eq_true rfl) hN
  refine hz_ofH (by decide) rfl (Nat.le_of_ble_eq_true rfl) ?_
  intro p e s m args below meth c hO hxt
  show hz_G p l e 8 hz_z1 s m args below meth c w N 6 _ M 0 [(0, .ref (hz_ad w 0)), (1, .int a1), (2, .int a2), (3, .int a3), (4, .ref (hz_ad w 193))] []
  unfold f_L_why at h
  rcases hz_xt_e h with ⟨r, M1, hq, h⟩ | hx
  · refine hz_aload hO dL_why_0 4 rfl ?_
    refine hz_iconst (v := (0 : Int32)) hO dL_why_2 (by decide) ?_
    refine hz_aload_n hO dL_why_3 rfl 0 rfl ?_
    refine hz_iload_n hO dL_why_4 rfl 1 rfl ?_
    refine hz_iload_n hO dL_why_5 rfl 2 rfl ?_
    refine hz_iload_n hO dL_why_6 rfl 3 rfl ?_
    refine hz_callVi (as := [.int a1, .int a2, .int a3]) (rest := [.int 0, .ref (hz_ad w 193)]) hO (c_X10_why l w hN1 a1 a2 a3 hq) hz_cal_X10_why hz_K_8 hz_sh_0 (hz_lt_0 hN1) tw_5_185 (Nat.le_of_ble_eq_true rfl) rfl rfl (Nat.le_of_ble_eq_true rfl) dL_why_7 ?_
    refine hz_i2l hO dL_why_10 ?_
    refine hz_last hO hz_sh_193 (hz_lt_193 hN) (by decide) dL_why_11 ?_
    refine hz_goto (tgt := 19) hO dL_why_12 (by decide) ?_
    refine hz_iconst (v := (0 : Int32)) hO dL_why_19 (by decide) ?_
    refine hz_up ?_
    exact hz_nameM (hz_some_e h).2.symm (hz_name (hz_some_e h).1.symm (hz_iret hO dL_why_20))
  · obtain ⟨t, M1, hq, h⟩ := hz_ct_e hx
    obtain ⟨hg, h⟩ := hz_gd_e h
    have ht : t = 1 := eq_of_beq hg
    subst ht
    refine hz_aload hO dL_why_0 4 rfl ?_
    refine hz_iconst (v := (0 : Int32)) hO dL_why_2 (by decide) ?_
    refine hz_aload_n hO dL_why_3 rfl 0 rfl ?_
    refine hz_iload_n hO dL_why_4 rfl 1 rfl ?_
    refine hz_iload_n hO dL_why_5 rfl 2 rfl ?_
    refine hz_iload_n hO dL_why_6 rfl 3 rfl ?_
    refine hz_tryV (as := [.int a1, .int a2, .int a3]) (rest := [.int 0, .ref (hz_ad w 193)]) hO hxt (cx_X10_why l hl w hN1 a1 a2 a3 hq) hz_cal_X10_why hz_K_8 hz_sh_0 (hz_lt_0 hN1) tw_5_185 (Nat.le_of_ble_eq_true rfl) rfl rfl (Nat.le_of_ble_eq_true rfl) dL_why_7 [] ⟨0, 12, 15, 13⟩ [] rfl (name := "java/lang/IllegalArgumentException") rfl (fun q hq => by cases hq) (by decide) (by decide) tw_5_31 (by decide) (fun q => ?_)
    refine hz_astore (ls1 := [(5, .ref q), (0, .ref (hz_ad w 0)), (1, .int a1), (2, .int a2), (3, .int a3), (4, .ref (hz_ad w 193))]) hO dL_why_15 (Nat.le_of_ble_eq_true rfl) rfl ?_
    refine hz_iconst (v := (1 : Int32)) hO dL_why_17 (by decide) ?_
    exact hz_nameM (hz_some_e h).2.symm (hz_name (hz_some_e h).1.symm (hz_iret hO dL_why_18))
def f_L_highest (a1 : Int32) (M : hz_M) : hz_O := hz_xt (f_X10_highest a1 M) (hz_ct (fx_X10_highest a1 M) fun t M1 => hz_gd (t == 1) (some (1, M1))) fun r M1 => some (0, hz_set M1 193 0 r)
theorem hz_cal_L_highest : Cond.codeWith yL_highest cL_highest 4 (some .int) [(0, 9, 12, 13)] ∈ hz_TB := tw_5_209
set_option maxRecDepth 100000 in
set_option maxHeartbeats 4000000 in
theorem c_L_highest (l : Launch) (hl : l.stackTraces = false) (w : hz_C) {N : Nat} (hN : 194 ≤ N) (a1 : Int32) {M : hz_M} {rE : Int32} {ME : hz_M} (h : f_L_highest a1 M = some (rE, ME)) : hz_Cw l yL_highest cL_highest 4 (some .int) [(0, 9, 12, 13)] 8 w N [.ref (hz_ad w 0), .int a1, .ref (hz_ad w 193)] M (hz_Qi w N rE ME) := by
  have hN1 : 178 ≤ N := Nat.le_trans (Nat.le_of_ble_eq_true rfl) hN
  refine hz_ofH (by decide) rfl (Nat.le_of_ble_eq_true rfl) ?_
  intro p e s m args below meth c hO hxt
  show hz_G p l e 8 hz_z1 s m args below meth c w N 4 _ M 0 [(0, .ref (hz_ad w 0)), (1, .int a1), (2, .ref (hz_ad w 193))] []
  unfold f_L_highest at h
  rcases hz_xt_e h with ⟨r, M1, hq, h⟩ | hx
  · refine hz_aload_n hO dL_highest_0 rfl 2 rfl ?_
    refine hz_iconst (v := (0 : Int32)) hO dL_highest_1 (by decide) ?_
    refine hz_aload_n hO dL_highest_2 rfl 0 rfl ?_
    refine hz_iload_n hO dL_highest_3 rfl 1 rfl ?_
    refine hz_callVi (as := [.int a1]) (rest := [.int 0, .ref (hz_ad w 193)]) hO (c_X10_highest l w hN1 a1 hq) hz_cal_X10_highest hz_K_8 hz_sh_0 (hz_lt_0 hN1) tw_5_210 (Nat.le_of_ble_eq_true rfl) rfl rfl (Nat.le_of_ble_eq_true rfl) dL_highest_4 ?_
    refine hz_i2l hO dL_highest_7 ?_
    refine hz_last hO hz_sh_193 (hz_lt_193 hN) (by decide) dL_highest_8 ?_
    refine hz_goto (tgt := 15) hO dL_highest_9 (by decide) ?_
    refine hz_iconst (v := (0 : Int32)) hO dL_highest_15 (by decide) ?_
    refine hz_up ?_
    exact hz_nameM (hz_some_e h).2.symm (hz_name (hz_some_e h).1.symm (hz_iret hO dL_highest_16))
  · obtain ⟨t, M1, hq, h⟩ := hz_ct_e hx
    obtain ⟨hg, h⟩ := hz_gd_e h
    have ht : t = 1 := eq_of_beq hg
    subst ht
    refine hz_aload_n hO dL_highest_0 rfl 2 rfl ?_
    refine hz_iconst (v := (0 : Int32)) hO dL_highest_1 (by decide) ?_
    refine hz_aload_n hO dL_highest_2 rfl 0 rfl ?_
    refine hz_iload_n hO dL_highest_3 rfl 1 rfl ?_
    refine hz_tryV (as := [.int a1]) (rest := [.int 0, .ref (hz_ad w 193)]) hO hxt (cx_X10_highest l hl w hN1 a1 hq) hz_cal_X10_highest hz_K_8 hz_sh_0 (hz_lt_0 hN1) tw_5_210 (Nat.le_of_ble_eq_true rfl) rfl rfl (Nat.le_of_ble_eq_true rfl) dL_highest_4 [] ⟨0, 9, 12, 13⟩ [] rfl (name := "java/lang/IllegalArgumentException") rfl (fun q hq => by cases hq) (by decide) (by decide) tw_5_31 (by decide) (fun q => ?_)
    refine hz_astore_n (ls1 := [(3, .ref q), (0, .ref (hz_ad w 0)), (1, .int a1), (2, .ref (hz_ad w 193))]) hO dL_highest_12 rfl (Nat.le_of_ble_eq_true rfl) rfl ?_
    refine hz_iconst (v := (1 : Int32)) hO dL_highest_13 (by decide) ?_
    exact hz_nameM (hz_some_e h).2.symm (hz_name (hz_some_e h).1.symm (hz_iret hO dL_highest_14))
def f_L_account (a1 : Int32) (M : hz_M) : hz_O := hz_xt (f_X10_account a1 M) (hz_ct (fx_X10_account a1 M) fun t M1 => hz_gd (t == 1) (some (1, M1))) fun r M1 => some (0, hz_set M1 193 0 r)
theorem hz_cal_L_account : Cond.codeWith yL_account cL_account 4 (some .int) [(0, 9, 12, 13)] ∈ hz_TB := tw_5_216
set_option maxRecDepth 100000 in
set_option maxHeartbeats 4000000 in
theorem c_L_account (l : Launch) (hl : l.stackTraces = false) (w : hz_C) {N : Nat} (hN : 194 ≤ N) (a1 : Int32) {M : hz_M} {rE : Int32} {ME : hz_M} (h : f_L_account a1 M = some (rE, ME)) : hz_Cw l yL_account cL_account 4 (some .int) [(0, 9, 12, 13)] 8 w N [.ref (hz_ad w 0), .int a1, .ref (hz_ad w 193)] M (hz_Qi w N rE ME) := by
  have hN1 : 178 ≤ N := Nat.le_trans (Nat.le_of_ble_eq_true rfl) hN
  refine hz_ofH (by decide) rfl (Nat.le_of_ble_eq_true rfl) ?_
  intro p e s m args below meth c hO hxt
  show hz_G p l e 8 hz_z1 s m args below meth c w N 4 _ M 0 [(0, .ref (hz_ad w 0)), (1, .int a1), (2, .ref (hz_ad w 193))] []
  unfold f_L_account at h
  rcases hz_xt_e h with ⟨r, M1, hq, h⟩ | hx
  · refine hz_aload_n hO dL_account_0 rfl 2 rfl ?_
    refine hz_iconst (v := (0 : Int32)) hO dL_account_1 (by decide) ?_
    refine hz_aload_n hO dL_account_2 rfl 0 rfl ?_
    refine hz_iload_n hO dL_account_3 rfl 1 rfl ?_
    refine hz_callVi (as := [.int a1]) (rest := [.int 0, .ref (hz_ad w 193)]) hO (c_X10_account l w hN1 a1 hq) hz_cal_X10_account hz_K_8 hz_sh_0 (hz_lt_0 hN1) tw_5_217 (Nat.le_of_ble_eq_true rfl) rfl rfl (Nat.le_of_ble_eq_true rfl) dL_account_4 ?_
    refine hz_i2l hO dL_account_7 ?_
    refine hz_last hO hz_sh_193 (hz_lt_193 hN) (by decide) dL_account_8 ?_
    refine hz_goto (tgt := 15) hO dL_account_9 (by decide) ?_
    refine hz_iconst (v := (0 : Int32)) hO dL_account_15 (by decide) ?_
    refine hz_up ?_
    exact hz_nameM (hz_some_e h).2.symm (hz_name (hz_some_e h).1.symm (hz_iret hO dL_account_16))
  · obtain ⟨t, M1, hq, h⟩ := hz_ct_e hx
    obtain ⟨hg, h⟩ := hz_gd_e h
    have ht : t = 1 := eq_of_beq hg
    subst ht
    refine hz_aload_n hO dL_account_0 rfl 2 rfl ?_
    refine hz_iconst (v := (0 : Int32)) hO dL_account_1 (by decide) ?_
    refine hz_aload_n hO dL_account_2 rfl 0 rfl ?_
    refine hz_iload_n hO dL_account_3 rfl 1 rfl ?_
    refine hz_tryV (as := [.int a1]) (rest := [.int 0, .ref (hz_ad w 193)]) hO hxt (cx_X10_account l hl w hN1 a1 hq) hz_cal_X10_account hz_K_8 hz_sh_0 (hz_lt_0 hN1) tw_5_217 (Nat.le_of_ble_eq_true rfl) rfl rfl (Nat.le_of_ble_eq_true rfl) dL_account_4 [] ⟨0, 9, 12, 13⟩ [] rfl (name := "java/lang/IllegalArgumentException") rfl (fun q hq => by cases hq) (by decide) (by decide) tw_5_31 (by decide) (fun q => ?_)
    refine hz_astore_n (ls1 := [(3, .ref q), (0, .ref (hz_ad w 0)), (1, .int a1), (2, .ref (hz_ad w 193))]) hO dL_account_12 rfl (Nat.le_of_ble_eq_true rfl) rfl ?_
    refine hz_iconst (v := (1 : Int32)) hO dL_account_13 (by decide) ?_
    exact hz_nameM (hz_some_e h).2.symm (hz_name (hz_some_e h).1.symm (hz_iret hO dL_account_14))
def f_L_heatIn (a1 : Int32) (M : hz_M) : hz_O := hz_xt (f_X10_heatIn a1 M) (hz_ct (fx_X10_heatIn a1 M) fun t M1 => hz_gd (t == 1) (some (1, M1))) fun r M1 => some (0, hz_set M1 193 0 r)
theorem hz_cal_L_heatIn : Cond.codeWith yL_heatIn cL_heatIn 4 (some .int) [(0, 9, 12, 13)] ∈ hz_TB := tw_5_223
set_option maxRecDepth 100000 in
set_option maxHeartbeats 4000000 in
theorem c_L_heatIn (l : Launch) (hl : l.stackTraces = false) (w : hz_C) {N : Nat} (hN : 194 ≤ N) (a1 : Int32) {M : hz_M} {rE : Int32} {ME : hz_M} (h : f_L_heatIn a1 M = some (rE, ME)) : hz_Cw l yL_heatIn cL_heatIn 4 (some .int) [(0, 9, 12, 13)] 8 w N [.ref (hz_ad w 0), .int a1, .ref (hz_ad w 193)] M (hz_Qi w N rE ME) := by
  have hN1 : 178 ≤ N := Nat.le_trans (Nat.le_of_ble_eq_true rfl) hN
  refine hz_ofH (by decide) rfl (Nat.le_of_ble_eq_true rfl) ?_
  intro p e s m args below meth c hO hxt
  show hz_G p l e 8 hz_z1 s m args below meth c w N 4 _ M 0 [(0, .ref (hz_ad w 0)), (1, .int a1), (2, .ref (hz_ad w 193))] []
  unfold f_L_heatIn at h
  rcases hz_xt_e h with ⟨r, M1, hq, h⟩ | hx
  · refine hz_aload_n hO dL_heatIn_0 rfl 2 rfl ?_
    refine hz_iconst (v := (0 : Int32)) hO dL_heatIn_1 (by decide) ?_
    refine hz_aload_n hO dL_heatIn_2 rfl 0 rfl ?_
    refine hz_iload_n hO dL_heatIn_3 rfl 1 rfl ?_
    refine hz_callVi (as := [.int a1]) (rest := [.int 0, .ref (hz_ad w 193)]) hO (c_X10_heatIn l w hN1 a1 hq) hz_cal_X10_heatIn hz_K_8 hz_sh_0 (hz_lt_0 hN1) tw_5_224 (Nat.le_of_ble_eq_true rfl) rfl rfl (Nat.le_of_ble_eq_true rfl) dL_heatIn_4 ?_
    refine hz_i2l hO dL_heatIn_7 ?_
    refine hz_last hO hz_sh_193 (hz_lt_193 hN) (by decide) dL_heatIn_8 ?_
    refine hz_goto (tgt := 15) hO dL_heatIn_9 (by decide) ?_
    refine hz_iconst (v := (0 : Int32)) hO dL_heatIn_15 (by decide) ?_
    refine hz_up ?_
    exact hz_nameM (hz_some_e h).2.symm (hz_name (hz_some_e h).1.symm (hz_iret hO dL_heatIn_16))
  · obtain ⟨t, M1, hq, h⟩ := hz_ct_e hx
    obtain ⟨hg, h⟩ := hz_gd_e h
    have ht : t = 1 := eq_of_beq hg
    subst ht
    refine hz_aload_n hO dL_heatIn_0 rfl 2 rfl ?_
    refine hz_iconst (v := (0 : Int32)) hO dL_heatIn_1 (by decide) ?_
    refine hz_aload_n hO dL_heatIn_2 rfl 0 rfl ?_
    refine hz_iload_n hO dL_heatIn_3 rfl 1 rfl ?_
    refine hz_tryV (as := [.int a1]) (rest := [.int 0, .ref (hz_ad w 193)]) hO hxt (cx_X10_heatIn l hl w hN1 a1 hq) hz_cal_X10_heatIn hz_K_8 hz_sh_0 (hz_lt_0 hN1) tw_5_224 (Nat.le_of_ble_eq_true rfl) rfl rfl (Nat.le_of_ble_eq_true rfl) dL_heatIn_4 [] ⟨0, 9, 12, 13⟩ [] rfl (name := "java/lang/IllegalArgumentException") rfl (fun q hq => by cases hq) (by decide) (by decide) tw_5_31 (by decide) (fun q => ?_)
    refine hz_astore_n (ls1 := [(3, .ref q), (0, .ref (hz_ad w 0)), (1, .int a1), (2, .ref (hz_ad w 193))]) hO dL_heatIn_12 rfl (Nat.le_of_ble_eq_true rfl) rfl ?_
    refine hz_iconst (v := (1 : Int32)) hO dL_heatIn_13 (by decide) ?_
    exact hz_nameM (hz_some_e h).2.symm (hz_name (hz_some_e h).1.symm (hz_iret hO dL_heatIn_14))
def f_L_downIn (a1 : Int32) (M : hz_M) : hz_O := hz_xt (f_X10_downIn a1 M) (hz_ct (fx_X10_downIn a1 M) fun t M1 => hz_gd (t == 1) (some (1, M1))) fun r M1 => some (0, hz_set M1 193 0 r)
theorem hz_cal_L_downIn : Cond.codeWith yL_downIn cL_downIn 4 (some .int) [(0, 9, 12, 13)] ∈ hz_TB := tw_5_232
set_option maxRecDepth 100000 in
set_option maxHeartbeats 4000000 in
theorem c_L_downIn (l : Launch) (hl : l.stackTraces = false) (w : hz_C) {N : Nat} (hN : 194 ≤ N) (a1 : Int32) {M : hz_M} {rE : Int32} {ME : hz_M} (h : f_L_downIn a1 M = some (rE, ME)) : hz_Cw l yL_downIn cL_downIn 4 (some .int) [(0, 9, 12, 13)] 8 w N [.ref (hz_ad w 0), .int a1, .ref (hz_ad w 193)] M (hz_Qi w N rE ME) := by
  have hN1 : 178 ≤ N := Nat.le_trans (Nat.le_of_ble_eq_true rfl) hN
  refine hz_ofH (by decide) rfl (Nat.le_of_ble_eq_true rfl) ?_
  intro p e s m args below meth c hO hxt
  show hz_G p l e 8 hz_z1 s m args below meth c w N 4 _ M 0 [(0, .ref (hz_ad w 0)), (1, .int a1), (2, .ref (hz_ad w 193))] []
  unfold f_L_downIn at h
  rcases hz_xt_e h with ⟨r, M1, hq, h⟩ | hx
  · refine hz_aload_n hO dL_downIn_0 rfl 2 rfl ?_
    refine hz_iconst (v := (0 : Int32)) hO dL_downIn_1 (by decide) ?_
    refine hz_aload_n hO dL_downIn_2 rfl 0 rfl ?_
    refine hz_iload_n hO dL_downIn_3 rfl 1 rfl ?_
    refine hz_callVi (as := [.int a1]) (rest := [.int 0, .ref (hz_ad w 193)]) hO (c_X10_downIn l w hN1 a1 hq) hz_cal_X10_downIn hz_K_8 hz_sh_0 (hz_lt_0 hN1) tw_5_233 (Nat.le_of_ble_eq_true rfl) rfl rfl (Nat.le_of_ble_eq_true rfl) dL_downIn_4 ?_
    refine hz_i2l hO dL_downIn_7 ?_
    refine hz_last hO hz_sh_193 (hz_lt_193 hN) (by decide) dL_downIn_8 ?_
    refine hz_goto (tgt := 15) hO dL_downIn_9 (by decide) ?_
    refine hz_iconst (v := (0 : Int32)) hO dL_downIn_15 (by decide) ?_
    refine hz_up ?_
    exact hz_nameM (hz_some_e h).2.symm (hz_name (hz_some_e h).1.symm (hz_iret hO dL_downIn_16))
  · obtain ⟨t, M1, hq, h⟩ := hz_ct_e hx
    obtain ⟨hg, h⟩ := hz_gd_e h
    have ht : t = 1 := eq_of_beq hg
    subst ht
    refine hz_aload_n hO dL_downIn_0 rfl 2 rfl ?_
    refine hz_iconst (v := (0 : Int32)) hO dL_downIn_1 (by decide) ?_
    refine hz_aload_n hO dL_downIn_2 rfl 0 rfl ?_
    refine hz_iload_n hO dL_downIn_3 rfl 1 rfl ?_
    refine hz_tryV (as := [.int a1]) (rest := [.int 0, .ref (hz_ad w 193)]) hO hxt (cx_X10_downIn l hl w hN1 a1 hq) hz_cal_X10_downIn hz_K_8 hz_sh_0 (hz_lt_0 hN1) tw_5_233 (Nat.le_of_ble_eq_true rfl) rfl rfl (Nat.le_of_ble_eq_true rfl) dL_downIn_4 [] ⟨0, 9, 12, 13⟩ [] rfl (name := "java/lang/IllegalArgumentException") rfl (fun q hq => by cases hq) (by decide) (by decide) tw_5_31 (by decide) (fun q => ?_)
    refine hz_astore_n (ls1 := [(3, .ref q), (0, .ref (hz_ad w 0)), (1, .int a1), (2, .ref (hz_ad w 193))]) hO dL_downIn_12 rfl (Nat.le_of_ble_eq_true rfl) rfl ?_
    refine hz_iconst (v := (1 : Int32)) hO dL_downIn_13 (by decide) ?_
    exact hz_nameM (hz_some_e h).2.symm (hz_name (hz_some_e h).1.symm (hz_iret hO dL_downIn_14))
def f_L_dryIn (a1 : Int32) (M : hz_M) : hz_O := hz_xt (f_X10_dryIn a1 M) (hz_ct (fx_X10_dryIn a1 M) fun t M1 => hz_gd (t == 1) (some (1, M1))) fun r M1 => some (0, hz_set M1 193 0 r)
theorem hz_cal_L_dryIn : Cond.codeWith yL_dryIn cL_dryIn 4 (some .int) [(0, 9, 12, 13)] ∈ hz_TB := tw_6_0
set_option maxRecDepth 100000 in
set_option maxHeartbeats 4000000 in
theorem c_L_dryIn (l : Launch) (hl : l.stackTraces = false) (w : hz_C) {N : Nat} (hN : 194 ≤ N) (a1 : Int32) {M : hz_M} {rE : Int32} {ME : hz_M} (h : f_L_dryIn a1 M = some (rE, ME)) : hz_Cw l yL_dryIn cL_dryIn 4 (some .int) [(0, 9, 12, 13)] 8 w N [.ref (hz_ad w 0), .int a1, .ref (hz_ad w 193)] M (hz_Qi w N rE ME) := by
  have hN1 : 178 ≤ N := Nat.le_trans (Nat.le_of_ble_eq_true rfl) hN
  refine hz_ofH (by decide) rfl (Nat.le_of_ble_eq_true rfl) ?_
  intro p e s m args below meth c hO hxt
  show hz_G p l e 8 hz_z1 s m args below meth c w N 4 _ M 0 [(0, .ref (hz_ad w 0)), (1, .int a1), (2, .ref (hz_ad w 193))] []
  unfold f_L_dryIn at h
  rcases hz_xt_e h with ⟨r, M1, hq, h⟩ | hx
  · refine hz_aload_n hO dL_dryIn_0 rfl 2 rfl ?_
    refine hz_iconst (v := (0 : Int32)) hO dL_dryIn_1 (by decide) ?_
    refine hz_aload_n hO dL_dryIn_2 rfl 0 rfl ?_
    refine hz_iload_n hO dL_dryIn_3 rfl 1 rfl ?_
    refine hz_callVi (as := [.int a1]) (rest := [.int 0, .ref (hz_ad w 193)]) hO (c_X10_dryIn l w hN1 a1 hq) hz_cal_X10_dryIn hz_K_8 hz_sh_0 (hz_lt_0 hN1) tw_6_1 (Nat.le_of_ble_eq_true rfl) rfl rfl (Nat.le_of_ble_eq_true rfl) dL_dryIn_4 ?_
    refine hz_i2l hO dL_dryIn_7 ?_
    refine hz_last hO hz_sh_193 (hz_lt_193 hN) (by decide) dL_dryIn_8 ?_
    refine hz_goto (tgt := 15) hO dL_dryIn_9 (by decide) ?_
    refine hz_iconst (v := (0 : Int32)) hO dL_dryIn_15 (by decide) ?_
    refine hz_up ?_
    exact hz_nameM (hz_some_e h).2.symm (hz_name (hz_some_e h).1.symm (hz_iret hO dL_dryIn_16))
  · obtain ⟨t, M1, hq, h⟩ := hz_ct_e hx
    obtain ⟨hg, h⟩ := hz_gd_e h
    have ht : t = 1 := eq_of_beq hg
    subst ht
    refine hz_aload_n hO dL_dryIn_0 rfl 2 rfl ?_
    refine hz_iconst (v := (0 : Int32)) hO dL_dryIn_1 (by decide) ?_
    refine hz_aload_n hO dL_dryIn_2 rfl 0 rfl ?_
    refine hz_iload_n hO dL_dryIn_3 rfl 1 rfl ?_
    refine hz_tryV (as := [.int a1]) (rest := [.int 0, .ref (hz_ad w 193)]) hO hxt (cx_X10_dryIn l hl w hN1 a1 hq) hz_cal_X10_dryIn hz_K_8 hz_sh_0 (hz_lt_0 hN1) tw_6_1 (Nat.le_of_ble_eq_true rfl) rfl rfl (Nat.le_of_ble_eq_true rfl) dL_dryIn_4 [] ⟨0, 9, 12, 13⟩ [] rfl (name := "java/lang/IllegalArgumentException") rfl (fun q hq => by cases hq) (by decide) (by decide) tw_5_31 (by decide) (fun q => ?_)
    refine hz_astore_n (ls1 := [(3, .ref q), (0, .ref (hz_ad w 0)), (1, .int a1), (2, .ref (hz_ad w 193))]) hO dL_dryIn_12 rfl (Nat.le_of_ble_eq_true rfl) rfl ?_
    refine hz_iconst (v := (1 : Int32)) hO dL_dryIn_13 (by decide) ?_
    exact hz_nameM (hz_some_e h).2.symm (hz_name (hz_some_e h).1.symm (hz_iret hO dL_dryIn_14))
def f_L_ifValve (a1 : Int32) (a2 : Int32) (M : hz_M) : hz_O := hz_xt (f_X10_ifValve a1 a2 M) (hz_ct (fx_X10_ifValve a1 a2 M) fun t M1 => hz_gd (t == 1) (some (1, M1))) fun r M1 => some (0, hz_set M1 193 0 r)
theorem hz_cal_L_ifValve : Cond.codeWith yL_ifValve cL_ifValve 5 (some .int) [(0, 10, 13, 13)] ∈ hz_TB := tw_6_8
set_option maxRecDepth 100000 in
set_option maxHeartbeats 4000000 in
theorem c_L_ifValve (l : Launch) (hl : l.stackTraces = false) (w : hz_C) {N : Nat} (hN : 194 ≤ N) (a1 : Int32) (a2 : Int32) {M : hz_M} {rE : Int32} {ME : hz_M} (h : f_L_ifValve a1 a2 M = some (rE, ME)) : hz_Cw l yL_ifValve cL_ifValve 5 (some .int) [(0, 10, 13, 13)] 8 w N [.ref (hz_ad w 0), .int a1, .int a2, .ref (hz_ad w 193)] M (hz_Qi w N rE ME) := by
  have hN1 : 178 ≤ N := Nat.le_trans (Nat.le_of_ble_eq_true rfl) hN
  refine hz_ofH (by decide) rfl (Nat.le_of_ble_eq_true rfl) ?_
  intro p e s m args below meth c hO hxt
  show hz_G p l e 8 hz_z1 s m args below meth c w N 5 _ M 0 [(0, .ref (hz_ad w 0)), (1, .int a1), (2, .int a2), (3, .ref (hz_ad w 193))] []
  unfold f_L_ifValve at h
  rcases hz_xt_e h with ⟨r, M1, hq, h⟩ | hx
  · refine hz_aload_n hO dL_ifValve_0 rfl 3 rfl ?_
    refine hz_iconst (v := (0 : Int32)) hO dL_ifValve_1 (by decide) ?_
    refine hz_aload_n hO dL_ifValve_2 rfl 0 rfl ?_
    refine hz_iload_n hO dL_ifValve_3 rfl 1 rfl ?_
    refine hz_iload_n hO dL_ifValve_4 rfl 2 rfl ?_
    refine hz_callVi (as := [.int a1, .int a2]) (rest := [.int 0, .ref (hz_ad w 193)]) hO (c_X10_ifValve l w hN1 a1 a2 hq) hz_cal_X10_ifValve hz_K_8 hz_sh_0 (hz_lt_0 hN1) tw_6_9 (Nat.le_of_ble_eq_true rfl) rfl rfl (Nat.le_of_ble_eq_true rfl) dL_ifValve_5 ?_
    refine hz_i2l hO dL_ifValve_8 ?_
    refine hz_last hO hz_sh_193 (hz_lt_193 hN) (by decide) dL_ifValve_9 ?_
    refine hz_goto (tgt := 17) hO dL_ifValve_10 (by decide) ?_
    refine hz_iconst (v := (0 : Int32)) hO dL_ifValve_17 (by decide) ?_
    refine hz_up ?_
    exact hz_nameM (hz_some_e h).2.symm (hz_name (hz_some_e h).1.symm (hz_iret hO dL_ifValve_18))
  · obtain ⟨t, M1, hq, h⟩ := hz_ct_e hx
    obtain ⟨hg, h⟩ := hz_gd_e h
    have ht : t = 1 := eq_of_beq hg
    subst ht
    refine hz_aload_n hO dL_ifValve_0 rfl 3 rfl ?_
    refine hz_iconst (v := (0 : Int32)) hO dL_ifValve_1 (by decide) ?_
    refine hz_aload_n hO dL_ifValve_2 rfl 0 rfl ?_
    refine hz_iload_n hO dL_ifValve_3 rfl 1 rfl ?_
    refine hz_iload_n hO dL_ifValve_4 rfl 2 rfl ?_
    refine hz_tryV (as := [.int a1, .int a2]) (rest := [.int 0, .ref (hz_ad w 193)]) hO hxt (cx_X10_ifValve l hl w hN1 a1 a2 hq) hz_cal_X10_ifValve hz_K_8 hz_sh_0 (hz_lt_0 hN1) tw_6_9 (Nat.le_of_ble_eq_true rfl) rfl rfl (Nat.le_of_ble_eq_true rfl) dL_ifValve_5 [] ⟨0, 10, 13, 13⟩ [] rfl (name := "java/lang/IllegalArgumentException") rfl (fun q hq => by cases hq) (by decide) (by decide) tw_5_31 (by decide) (fun q => ?_)
    refine hz_astore (ls1 := [(4, .ref q), (0, .ref (hz_ad w 0)), (1, .int a1), (2, .int a2), (3, .ref (hz_ad w 193))]) hO dL_ifValve_13 (Nat.le_of_ble_eq_true rfl) rfl ?_
    refine hz_iconst (v := (1 : Int32)) hO dL_ifValve_15 (by decide) ?_
    exact hz_nameM (hz_some_e h).2.symm (hz_name (hz_some_e h).1.symm (hz_iret hO dL_ifValve_16))
def f_L_enter (a1 : Int32) (M : hz_M) : hz_O := hz_xt (f_X10_enter a1 M) (hz_ct (fx_X10_enter a1 M) fun t M1 => hz_gd (t == 1) (some (1, M1))) fun r M1 => some (0, hz_set M1 193 0 r)
theorem hz_cal_L_enter : Cond.codeWith yL_enter cL_enter 4 (some .int) [(0, 9, 12, 13)] ∈ hz_TB := tw_6_18
set_option maxRecDepth 100000 in
set_option maxHeartbeats 4000000 in
theorem c_L_enter (l : Launch) (hl : l.stackTraces = false) (w : hz_C) {N : Nat} (hN : 194 ≤ N) (a1 : Int32) {M : hz_M} {rE : Int32} {ME : hz_M} (h : f_L_enter a1 M = some (rE, ME)) : hz_Cw l yL_enter cL_enter 4 (some .int) [(0, 9, 12, 13)] 8 w N [.ref (hz_ad w 0), .int a1, .ref (hz_ad w 193)] M (hz_Qi w N rE ME) := by
  have hN1 : 178 ≤ N := Nat.le_trans (Nat.le_of_ble_eq_true rfl) hN
  refine hz_ofH (by decide) rfl (Nat.le_of_ble_eq_true rfl) ?_
  intro p e s m args below meth c hO hxt
  show hz_G p l e 8 hz_z1 s m args below meth c w N 4 _ M 0 [(0, .ref (hz_ad w 0)), (1, .int a1), (2, .ref (hz_ad w 193))] []
  unfold f_L_enter at h
  rcases hz_xt_e h with ⟨r, M1, hq, h⟩ | hx
  · refine hz_aload_n hO dL_enter_0 rfl 2 rfl ?_
    refine hz_iconst (v := (0 : Int32)) hO dL_enter_1 (by decide) ?_
    refine hz_aload_n hO dL_enter_2 rfl 0 rfl ?_
    refine hz_iload_n hO dL_enter_3 rfl 1 rfl ?_
    refine hz_callVi (as := [.int a1]) (rest := [.int 0, .ref (hz_ad w 193)]) hO (c_X10_enter l w hN1 a1 hq) hz_cal_X10_enter hz_K_8 hz_sh_0 (hz_lt_0 hN1) tw_6_19 (Nat.le_of_ble_eq_true rfl) rfl rfl (Nat.le_of_ble_eq_true rfl) dL_enter_4 ?_
    refine hz_i2l hO dL_enter_7 ?_
    refine hz_last hO hz_sh_193 (hz_lt_193 hN) (by decide) dL_enter_8 ?_
    refine hz_goto (tgt := 15) hO dL_enter_9 (by decide) ?_
    refine hz_iconst (v := (0 : Int32)) hO dL_enter_15 (by decide) ?_
    refine hz_up ?_
    exact hz_nameM (hz_some_e h).2.symm (hz_name (hz_some_e h).1.symm (hz_iret hO dL_enter_16))
  · obtain ⟨t, M1, hq, h⟩ := hz_ct_e hx
    obtain ⟨hg, h⟩ := hz_gd_e h
    have ht : t = 1 := eq_of_beq hg
    subst ht
    refine hz_aload_n hO dL_enter_0 rfl 2 rfl ?_
    refine hz_iconst (v := (0 : Int32)) hO dL_enter_1 (by decide) ?_
    refine hz_aload_n hO dL_enter_2 rfl 0 rfl ?_
    refine hz_iload_n hO dL_enter_3 rfl 1 rfl ?_
    refine hz_tryV (as := [.int a1]) (rest := [.int 0, .ref (hz_ad w 193)]) hO hxt (cx_X10_enter l hl w hN1 a1 hq) hz_cal_X10_enter hz_K_8 hz_sh_0 (hz_lt_0 hN1) tw_6_19 (Nat.le_of_ble_eq_true rfl) rfl rfl (Nat.le_of_ble_eq_true rfl) dL_enter_4 [] ⟨0, 9, 12, 13⟩ [] rfl (name := "java/lang/IllegalArgumentException") rfl (fun q hq => by cases hq) (by decide) (by decide) tw_5_31 (by decide) (fun q => ?_)
    refine hz_astore_n (ls1 := [(3, .ref q), (0, .ref (hz_ad w 0)), (1, .int a1), (2, .ref (hz_ad w 193))]) hO dL_enter_12 rfl (Nat.le_of_ble_eq_true rfl) rfl ?_
    refine hz_iconst (v := (1 : Int32)) hO dL_enter_13 (by decide) ?_
    exact hz_nameM (hz_some_e h).2.symm (hz_name (hz_some_e h).1.symm (hz_iret hO dL_enter_14))
def f_L_sit (a1 : Int32) (a2 : Int32) (M : hz_M) : hz_O := hz_xt (f_X10_sit a1 a2 M) (hz_ct (fx_X10_sit a1 a2 M) fun t M1 => hz_gd (t == 1) (some (1, M1))) fun r M1 => some (0, hz_set M1 193 0 r)
theorem hz_cal_L_sit : Cond.codeWith yL_sit cL_sit 5 (some .int) [(0, 10, 13, 13)] ∈ hz_TB := tw_6_27
set_option maxRecDepth 100000 in
set_option maxHeartbeats 4000000 in
theorem c_L_sit (l : Launch) (hl : l.stackTraces = false) (w : hz_C) {N : Nat} (hN : 194 ≤ N) (a1 : Int32) (a2 : Int32) {M : hz_M} {rE : Int32} {ME : hz_M} (h : f_L_sit a1 a2 M = some (rE, ME)) : hz_Cw l yL_sit cL_sit 5 (some .int) [(0, 10, 13, 13)] 8 w N [.ref (hz_ad w 0), .int a1, .int a2, .ref (hz_ad w 193)] M (hz_Qi w N rE ME) := by
  have hN1 : 178 ≤ N := Nat.le_trans (Nat.le_of_ble_eq_true rfl) hN
  refine hz_ofH (by decide) rfl (Nat.le_of_ble_eq_true rfl) ?_
  intro p e s m args below meth c hO hxt
  show hz_G p l e 8 hz_z1 s m args below meth c w N 5 _ M 0 [(0, .ref (hz_ad w 0)), (1, .int a1), (2, .int a2), (3, .ref (hz_ad w 193))] []
  unfold f_L_sit at h
  rcases hz_xt_e h with ⟨r, M1, hq, h⟩ | hx
  · refine hz_aload_n hO dL_sit_0 rfl 3 rfl ?_
    refine hz_iconst (v := (0 : Int32)) hO dL_sit_1 (by decide) ?_
    refine hz_aload_n hO dL_sit_2 rfl 0 rfl ?_
    refine hz_iload_n hO dL_sit_3 rfl 1 rfl ?_
    refine hz_iload_n hO dL_sit_4 rfl 2 rfl ?_
    refine hz_callVi (as := [.int a1, .int a2]) (rest := [.int 0, .ref (hz_ad w 193)]) hO (c_X10_sit l w hN1 a1 a2 hq) hz_cal_X10_sit hz_K_8 hz_sh_0 (hz_lt_0 hN1) tw_6_28 (Nat.le_of_ble_eq_true rfl) rfl rfl (Nat.le_of_ble_eq_true rfl) dL_sit_5 ?_
    refine hz_i2l hO dL_sit_8 ?_
    refine hz_last hO hz_sh_193 (hz_lt_193 hN) (by decide) dL_sit_9 ?_
    refine hz_goto (tgt := 17) hO dL_sit_10 (by decide) ?_
    refine hz_iconst (v := (0 : Int32)) hO dL_sit_17 (by decide) ?_
    refine hz_up ?_
    exact hz_nameM (hz_some_e h).2.symm (hz_name (hz_some_e h).1.symm (hz_iret hO dL_sit_18))
  · obtain ⟨t, M1, hq, h⟩ := hz_ct_e hx
    obtain ⟨hg, h⟩ := hz_gd_e h
    have ht : t = 1 := eq_of_beq hg
    subst ht
    refine hz_aload_n hO dL_sit_0 rfl 3 rfl ?_
    refine hz_iconst (v := (0 : Int32)) hO dL_sit_1 (by decide) ?_
    refine hz_aload_n hO dL_sit_2 rfl 0 rfl ?_
    refine hz_iload_n hO dL_sit_3 rfl 1 rfl ?_
    refine hz_iload_n hO dL_sit_4 rfl 2 rfl ?_
    refine hz_tryV (as := [.int a1, .int a2]) (rest := [.int 0, .ref (hz_ad w 193)]) hO hxt (cx_X10_sit l hl w hN1 a1 a2 hq) hz_cal_X10_sit hz_K_8 hz_sh_0 (hz_lt_0 hN1) tw_6_28 (Nat.le_of_ble_eq_true rfl) rfl rfl (Nat.le_of_ble_eq_true rfl) dL_sit_5 [] ⟨0, 10, 13, 13⟩ [] rfl (name := "java/lang/IllegalArgumentException") rfl (fun q hq => by cases hq) (by decide) (by decide) tw_5_31 (by decide) (fun q => ?_)
    refine hz_astore (ls1 := [(4, .ref q), (0, .ref (hz_ad w 0)), (1, .int a1), (2, .int a2), (3, .ref (hz_ad w 193))]) hO dL_sit_13 (Nat.le_of_ble_eq_true rfl) rfl ?_
    refine hz_iconst (v := (1 : Int32)) hO dL_sit_15 (by decide) ?_
    exact hz_nameM (hz_some_e h).2.symm (hz_name (hz_some_e h).1.symm (hz_iret hO dL_sit_16))
def f_L_hall (a1 : Int32) (M : hz_M) : hz_O := hz_xt (f_X10_hall a1 M) (hz_ct (fx_X10_hall a1 M) fun t M1 => hz_gd (t == 1) (some (1, M1))) fun r M1 => some (0, hz_set M1 193 0 r)
theorem hz_cal_L_hall : Cond.codeWith yL_hall cL_hall 4 (some .int) [(0, 9, 12, 13)] ∈ hz_TB := tw_6_35
set_option maxRecDepth 100000 in
set_option maxHeartbeats 4000000 in
theorem c_L_hall (l : Launch) (hl : l.stackTraces = false) (w : hz_C) {N : Nat} (hN : 194 ≤ N) (a1 : Int32) {M : hz_M} {rE : Int32} {ME : hz_M} (h : f_L_hall a1 M = some (rE, ME)) : hz_Cw l yL_hall cL_hall 4 (some .int) [(0, 9, 12, 13)] 8 w N [.ref (hz_ad w 0), .int a1, .ref (hz_ad w 193)] M (hz_Qi w N rE ME) := by
  have hN1 : 178 ≤ N := Nat.le_trans (Nat.le_of_ble_eq_true rfl) hN
  refine hz_ofH (by decide) rfl (Nat.le_of_ble_eq_true rfl) ?_
  intro p e s m args below meth c hO hxt
  show hz_G p l e 8 hz_z1 s m args below meth c w N 4 _ M 0 [(0, .ref (hz_ad w 0)), (1, .int a1), (2, .ref (hz_ad w 193))] []
  unfold f_L_hall at h
  rcases hz_xt_e h with ⟨r, M1, hq, h⟩ | hx
  · refine hz_aload_n hO dL_hall_0 rfl 2 rfl ?_
    refine hz_iconst (v := (0 : Int32)) hO dL_hall_1 (by decide) ?_
    refine hz_aload_n hO dL_hall_2 rfl 0 rfl ?_
    refine hz_iload_n hO dL_hall_3 rfl 1 rfl ?_
    refine hz_callVi (as := [.int a1]) (rest := [.int 0, .ref (hz_ad w 193)]) hO (c_X10_hall l w hN1 a1 hq) hz_cal_X10_hall hz_K_8 hz_sh_0 (hz_lt_0 hN1) tw_6_36 (Nat.le_of_ble_eq_true rfl) rfl rfl (Nat.le_of_ble_eq_true rfl) dL_hall_4 ?_
    refine hz_i2l hO dL_hall_7 ?_
    refine hz_last hO hz_sh_193 (hz_lt_193 hN) (by decide) dL_hall_8 ?_
    refine hz_goto (tgt := 15) hO dL_hall_9 (by decide) ?_
    refine hz_iconst (v := (0 : Int32)) hO dL_hall_15 (by decide) ?_
    refine hz_up ?_
    exact hz_nameM (hz_some_e h).2.symm (hz_name (hz_some_e h).1.symm (hz_iret hO dL_hall_16))
  · obtain ⟨t, M1, hq, h⟩ := hz_ct_e hx
    obtain ⟨hg, h⟩ := hz_gd_e h
    have ht : t = 1 := eq_of_beq hg
    subst ht
    refine hz_aload_n hO dL_hall_0 rfl 2 rfl ?_
    refine hz_iconst (v := (0 : Int32)) hO dL_hall_1 (by decide) ?_
    refine hz_aload_n hO dL_hall_2 rfl 0 rfl ?_
    refine hz_iload_n hO dL_hall_3 rfl 1 rfl ?_
    refine hz_tryV (as := [.int a1]) (rest := [.int 0, .ref (hz_ad w 193)]) hO hxt (cx_X10_hall l hl w hN1 a1 hq) hz_cal_X10_hall hz_K_8 hz_sh_0 (hz_lt_0 hN1) tw_6_36 (Nat.le_of_ble_eq_true rfl) rfl rfl (Nat.le_of_ble_eq_true rfl) dL_hall_4 [] ⟨0, 9, 12, 13⟩ [] rfl (name := "java/lang/IllegalArgumentException") rfl (fun q hq => by cases hq) (by decide) (by decide) tw_5_31 (by decide) (fun q => ?_)
    refine hz_astore_n (ls1 := [(3, .ref q), (0, .ref (hz_ad w 0)), (1, .int a1), (2, .ref (hz_ad w 193))]) hO dL_hall_12 rfl (Nat.le_of_ble_eq_true rfl) rfl ?_
    refine hz_iconst (v := (1 : Int32)) hO dL_hall_13 (by decide) ?_
    exact hz_nameM (hz_some_e h).2.symm (hz_name (hz_some_e h).1.symm (hz_iret hO dL_hall_14))
def f_L_hang (a1 : Int32) (a2 : Int32) (M : hz_M) : hz_O := hz_xt (f_X10_hang a1 a2 M) (hz_ct (fx_X10_hang a1 a2 M) fun t M1 => hz_gd (t == 1) (some (1, M1))) fun r M1 => some (0, hz_set M1 193 0 r)
theorem hz_cal_L_hang : Cond.codeWith yL_hang cL_hang 5 (some .int) [(0, 10, 13, 13)] ∈ hz_TB := tw_6_44
set_option maxRecDepth 100000 in
set_option maxHeartbeats 4000000 in
theorem c_L_hang (l : Launch) (hl : l.stackTraces = false) (w : hz_C) {N : Nat} (hN : 194 ≤ N) (a1 : Int32) (a2 : Int32) {M : hz_M} {rE : Int32} {ME : hz_M} (h : f_L_hang a1 a2 M = some (rE, ME)) : hz_Cw l yL_hang cL_hang 5 (some .int) [(0, 10, 13, 13)] 8 w N [.ref (hz_ad w 0), .int a1, .int a2, .ref (hz_ad w 193)] M (hz_Qi w N rE ME) := by
  have hN1 : 178 ≤ N := Nat.le_trans (Nat.le_of_ble_eq_true rfl) hN
  refine hz_ofH (by decide) rfl (Nat.le_of_ble_eq_true rfl) ?_
  intro p e s m args below meth c hO hxt
  show hz_G p l e 8 hz_z1 s m args below meth c w N 5 _ M 0 [(0, .ref (hz_ad w 0)), (1, .int a1), (2, .int a2), (3, .ref (hz_ad w 193))] []
  unfold f_L_hang at h
  rcases hz_xt_e h with ⟨r, M1, hq, h⟩ | hx
  · refine hz_aload_n hO dL_hang_0 rfl 3 rfl ?_
    refine hz_iconst (v := (0 : Int32)) hO dL_hang_1 (by decide) ?_
    refine hz_aload_n hO dL_hang_2 rfl 0 rfl ?_
    refine hz_iload_n hO dL_hang_3 rfl 1 rfl ?_
    refine hz_iload_n hO dL_hang_4 rfl 2 rfl ?_
    refine hz_callVi (as := [.int a1, .int a2]) (rest := [.int 0, .ref (hz_ad w 193)]) hO (c_X10_hang l w hN1 a1 a2 hq) hz_cal_X10_hang hz_K_8 hz_sh_0 (hz_lt_0 hN1) tw_6_45 (Nat.le_of_ble_eq_true rfl) rfl rfl (Nat.le_of_ble_eq_true rfl) dL_hang_5 ?_
    refine hz_i2l hO dL_hang_8 ?_
    refine hz_last hO hz_sh_193 (hz_lt_193 hN) (by decide) dL_hang_9 ?_
    refine hz_goto (tgt := 17) hO dL_hang_10 (by decide) ?_
    refine hz_iconst (v := (0 : Int32)) hO dL_hang_17 (by decide) ?_
    refine hz_up ?_
    exact hz_nameM (hz_some_e h).2.symm (hz_name (hz_some_e h).1.symm (hz_iret hO dL_hang_18))
  · obtain ⟨t, M1, hq, h⟩ := hz_ct_e hx
    obtain ⟨hg, h⟩ := hz_gd_e h
    have ht : t = 1 := eq_of_beq hg
    subst ht
    refine hz_aload_n hO dL_hang_0 rfl 3 rfl ?_
    refine hz_iconst (v := (0 : Int32)) hO dL_hang_1 (by decide) ?_
    refine hz_aload_n hO dL_hang_2 rfl 0 rfl ?_
    refine hz_iload_n hO dL_hang_3 rfl 1 rfl ?_
    refine hz_iload_n hO dL_hang_4 rfl 2 rfl ?_
    refine hz_tryV (as := [.int a1, .int a2]) (rest := [.int 0, .ref (hz_ad w 193)]) hO hxt (cx_X10_hang l hl w hN1 a1 a2 hq) hz_cal_X10_hang hz_K_8 hz_sh_0 (hz_lt_0 hN1) tw_6_45 (Nat.le_of_ble_eq_true rfl) rfl rfl (Nat.le_of_ble_eq_true rfl) dL_hang_5 [] ⟨0, 10, 13, 13⟩ [] rfl (name := "java/lang/IllegalArgumentException") rfl (fun q hq => by cases hq) (by decide) (by decide) tw_5_31 (by decide) (fun q => ?_)
    refine hz_astore (ls1 := [(4, .ref q), (0, .ref (hz_ad w 0)), (1, .int a1), (2, .int a2), (3, .ref (hz_ad w 193))]) hO dL_hang_13 (Nat.le_of_ble_eq_true rfl) rfl ?_
    refine hz_iconst (v := (1 : Int32)) hO dL_hang_15 (by decide) ?_
    exact hz_nameM (hz_some_e h).2.symm (hz_name (hz_some_e h).1.symm (hz_iret hO dL_hang_16))
def f_L_take (a1 : Int32) (a2 : Int32) (M : hz_M) : hz_O := hz_xt (f_X10_take a1 a2 M) (hz_ct (fx_X10_take a1 a2 M) fun t M1 => hz_gd (t == 1) (some (1, M1))) fun r M1 => some (0, hz_set M1 193 0 r)
theorem hz_cal_L_take : Cond.codeWith yL_take cL_take 5 (some .int) [(0, 10, 13, 13)] ∈ hz_TB := tw_6_52
set_option maxRecDepth 100000 in
set_option maxHeartbeats 4000000 in
theorem c_L_take (l : Launch) (hl : l.stackTraces = false) (w : hz_C) {N : Nat} (hN : 194 ≤ N) (a1 : Int32) (a2 : Int32) {M : hz_M} {rE : Int32} {ME : hz_M} (h : f_L_take a1 a2 M = some (rE, ME)) : hz_Cw l yL_take cL_take 5 (some .int) [(0, 10, 13, 13)] 8 w N [.ref (hz_ad w 0), .int a1, .int a2, .ref (hz_ad w 193)] M (hz_Qi w N rE ME) := by
  have hN1 : 178 ≤ N := Nat.le_trans (Nat.le_of_ble_eq_true rfl) hN
  refine hz_ofH (by decide) rfl (Nat.le_of_ble_eq_true rfl) ?_
  intro p e s m args below meth c hO hxt
  show hz_G p l e 8 hz_z1 s m args below meth c w N 5 _ M 0 [(0, .ref (hz_ad w 0)), (1, .int a1), (2, .int a2), (3, .ref (hz_ad w 193))] []
  unfold f_L_take at h
  rcases hz_xt_e h with ⟨r, M1, hq, h⟩ | hx
  · refine hz_aload_n hO dL_take_0 rfl 3 rfl ?_
    refine hz_iconst (v := (0 : Int32)) hO dL_take_1 (by decide) ?_
    refine hz_aload_n hO dL_take_2 rfl 0 rfl ?_
    refine hz_iload_n hO dL_take_3 rfl 1 rfl ?_
    refine hz_iload_n hO dL_take_4 rfl 2 rfl ?_
    refine hz_callVi (as := [.int a1, .int a2]) (rest := [.int 0, .ref (hz_ad w 193)]) hO (c_X10_take l w hN1 a1 a2 hq) hz_cal_X10_take hz_K_8 hz_sh_0 (hz_lt_0 hN1) tw_6_53 (Nat.le_of_ble_eq_true rfl) rfl rfl (Nat.le_of_ble_eq_true rfl) dL_take_5 ?_
    refine hz_i2l hO dL_take_8 ?_
    refine hz_last hO hz_sh_193 (hz_lt_193 hN) (by decide) dL_take_9 ?_
    refine hz_goto (tgt := 17) hO dL_take_10 (by decide) ?_
    refine hz_iconst (v := (0 : Int32)) hO dL_take_17 (by decide) ?_
    refine hz_up ?_
    exact hz_nameM (hz_some_e h).2.symm (hz_name (hz_some_e h).1.symm (hz_iret hO dL_take_18))
  · obtain ⟨t, M1, hq, h⟩ := hz_ct_e hx
    obtain ⟨hg, h⟩ := hz_gd_e h
    have ht : t = 1 := eq_of_beq hg
    subst ht
    refine hz_aload_n hO dL_take_0 rfl 3 rfl ?_
    refine hz_iconst (v := (0 : Int32)) hO dL_take_1 (by decide) ?_
    refine hz_aload_n hO dL_take_2 rfl 0 rfl ?_
    refine hz_iload_n hO dL_take_3 rfl 1 rfl ?_
    refine hz_iload_n hO dL_take_4 rfl 2 rfl ?_
    refine hz_tryV (as := [.int a1, .int a2]) (rest := [.int 0, .ref (hz_ad w 193)]) hO hxt (cx_X10_take l hl w hN1 a1 a2 hq) hz_cal_X10_take hz_K_8 hz_sh_0 (hz_lt_0 hN1) tw_6_53 (Nat.le_of_ble_eq_true rfl) rfl rfl (Nat.le_of_ble_eq_true rfl) dL_take_5 [] ⟨0, 10, 13, 13⟩ [] rfl (name := "java/lang/IllegalArgumentException") rfl (fun q hq => by cases hq) (by decide) (by decide) tw_5_31 (by decide) (fun q => ?_)
    refine hz_astore (ls1 := [(4, .ref q), (0, .ref (hz_ad w 0)), (1, .int a1), (2, .int a2), (3, .ref (hz_ad w 193))]) hO dL_take_13 (Nat.le_of_ble_eq_true rfl) rfl ?_
    refine hz_iconst (v := (1 : Int32)) hO dL_take_15 (by decide) ?_
    exact hz_nameM (hz_some_e h).2.symm (hz_name (hz_some_e h).1.symm (hz_iret hO dL_take_16))
def f_L_leave (a1 : Int32) (M : hz_M) : hz_O := hz_xt (f_X10_leave a1 M) (hz_ct (fx_X10_leave a1 M) fun t M1 => hz_gd (t == 1) (some (1, M1))) fun r M1 => some (0, hz_set M1 193 0 r)
theorem hz_cal_L_leave : Cond.codeWith yL_leave cL_leave 4 (some .int) [(0, 9, 12, 13)] ∈ hz_TB := tw_6_60
set_option maxRecDepth 100000 in
set_option maxHeartbeats 4000000 in
theorem c_L_leave (l : Launch) (hl : l.stackTraces = false) (w : hz_C) {N : Nat} (hN : 194 ≤ N) (a1 : Int32) {M : hz_M} {rE : Int32} {ME : hz_M} (h : f_L_leave a1 M = some (rE, ME)) : hz_Cw l yL_leave cL_leave 4 (some .int) [(0, 9, 12, 13)] 8 w N [.ref (hz_ad w 0), .int a1, .ref (hz_ad w 193)] M (hz_Qi w N rE ME) := by
  have hN1 : 178 ≤ N := Nat.le_trans (Nat.le_of_ble_eq_true rfl) hN
  refine hz_ofH (by decide) rfl (Nat.le_of_ble_eq_true rfl) ?_
  intro p e s m args below meth c hO hxt
  show hz_G p l e 8 hz_z1 s m args below meth c w N 4 _ M 0 [(0, .ref (hz_ad w 0)), (1, .int a1), (2, .ref (hz_ad w 193))] []
  unfold f_L_leave at h
  rcases hz_xt_e h with ⟨r, M1, hq, h⟩ | hx
  · refine hz_aload_n hO dL_leave_0 rfl 2 rfl ?_
    refine hz_iconst (v := (0 : Int32)) hO dL_leave_1 (by decide) ?_
    refine hz_aload_n hO dL_leave_2 rfl 0 rfl ?_
    refine hz_iload_n hO dL_leave_3 rfl 1 rfl ?_
    refine hz_callVi (as := [.int a1]) (rest := [.int 0, .ref (hz_ad w 193)]) hO (c_X10_leave l w hN1 a1 hq) hz_cal_X10_leave hz_K_8 hz_sh_0 (hz_lt_0 hN1) tw_6_61 (Nat.le_of_ble_eq_true rfl) rfl rfl (Nat.le_of_ble_eq_true rfl) dL_leave_4 ?_
    refine hz_i2l hO dL_leave_7 ?_
    refine hz_last hO hz_sh_193 (hz_lt_193 hN) (by decide) dL_leave_8 ?_
    refine hz_goto (tgt := 15) hO dL_leave_9 (by decide) ?_
    refine hz_iconst (v := (0 : Int32)) hO dL_leave_15 (by decide) ?_
    refine hz_up ?_
    exact hz_nameM (hz_some_e h).2.symm (hz_name (hz_some_e h).1.symm (hz_iret hO dL_leave_16))
  · obtain ⟨t, M1, hq, h⟩ := hz_ct_e hx
    obtain ⟨hg, h⟩ := hz_gd_e h
    have ht : t = 1 := eq_of_beq hg
    subst ht
    refine hz_aload_n hO dL_leave_0 rfl 2 rfl ?_
    refine hz_iconst (v := (0 : Int32)) hO dL_leave_1 (by decide) ?_
    refine hz_aload_n hO dL_leave_2 rfl 0 rfl ?_
    refine hz_iload_n hO dL_leave_3 rfl 1 rfl ?_
    refine hz_tryV (as := [.int a1]) (rest := [.int 0, .ref (hz_ad w 193)]) hO hxt (cx_X10_leave l hl w hN1 a1 hq) hz_cal_X10_leave hz_K_8 hz_sh_0 (hz_lt_0 hN1) tw_6_61 (Nat.le_of_ble_eq_true rfl) rfl rfl (Nat.le_of_ble_eq_true rfl) dL_leave_4 [] ⟨0, 9, 12, 13⟩ [] rfl (name := "java/lang/IllegalArgumentException") rfl (fun q hq => by cases hq) (by decide) (by decide) tw_5_31 (by decide) (fun q => ?_)
    refine hz_astore_n (ls1 := [(3, .ref q), (0, .ref (hz_ad w 0)), (1, .int a1), (2, .ref (hz_ad w 193))]) hO dL_leave_12 rfl (Nat.le_of_ble_eq_true rfl) rfl ?_
    refine hz_iconst (v := (1 : Int32)) hO dL_leave_13 (by decide) ?_
    exact hz_nameM (hz_some_e h).2.symm (hz_name (hz_some_e h).1.symm (hz_iret hO dL_leave_14))
def f_L_speak (a1 : Int32) (M : hz_M) : hz_O := hz_xt (f_X10_speak a1 M) (hz_ct (fx_X10_speak a1 M) fun t M1 => hz_gd (t == 1) (some (1, M1))) fun r M1 => some (0, hz_set M1 193 0 r)
theorem hz_cal_L_speak : Cond.codeWith yL_speak cL_speak 4 (some .int) [(0, 9, 12, 13)] ∈ hz_TB := tw_6_69
set_option maxRecDepth 100000 in
set_option maxHeartbeats 4000000 in
theorem c_L_speak (l : Launch) (hl : l.stackTraces = false) (w : hz_C) {N : Nat} (hN : 194 ≤ N) (a1 : Int32) {M : hz_M} {rE : Int32} {ME : hz_M} (h : f_L_speak a1 M = some (rE, ME)) : hz_Cw l yL_speak cL_speak 4 (some .int) [(0, 9, 12, 13)] 8 w N [.ref (hz_ad w 0), .int a1, .ref (hz_ad w 193)] M (hz_Qi w N rE ME) := by
  have hN1 : 178 ≤ N := Nat.le_trans (Nat.le_of_ble_eq_true rfl) hN
  refine hz_ofH (by decide) rfl (Nat.le_of_ble_eq_true rfl) ?_
  intro p e s m args below meth c hO hxt
  show hz_G p l e 8 hz_z1 s m args below meth c w N 4 _ M 0 [(0, .ref (hz_ad w 0)), (1, .int a1), (2, .ref (hz_ad w 193))] []
  unfold f_L_speak at h
  rcases hz_xt_e h with ⟨r, M1, hq, h⟩ | hx
  · refine hz_aload_n hO dL_speak_0 rfl 2 rfl ?_
    refine hz_iconst (v := (0 : Int32)) hO dL_speak_1 (by decide) ?_
    refine hz_aload_n hO dL_speak_2 rfl 0 rfl ?_
    refine hz_iload_n hO dL_speak_3 rfl 1 rfl ?_
    refine hz_callVi (as := [.int a1]) (rest := [.int 0, .ref (hz_ad w 193)]) hO (c_X10_speak l w hN1 a1 hq) hz_cal_X10_speak hz_K_8 hz_sh_0 (hz_lt_0 hN1) tw_6_70 (Nat.le_of_ble_eq_true rfl) rfl rfl (Nat.le_of_ble_eq_true rfl) dL_speak_4 ?_
    refine hz_i2l hO dL_speak_7 ?_
    refine hz_last hO hz_sh_193 (hz_lt_193 hN) (by decide) dL_speak_8 ?_
    refine hz_goto (tgt := 15) hO dL_speak_9 (by decide) ?_
    refine hz_iconst (v := (0 : Int32)) hO dL_speak_15 (by decide) ?_
    refine hz_up ?_
    exact hz_nameM (hz_some_e h).2.symm (hz_name (hz_some_e h).1.symm (hz_iret hO dL_speak_16))
  · obtain ⟨t, M1, hq, h⟩ := hz_ct_e hx
    obtain ⟨hg, h⟩ := hz_gd_e h
    have ht : t = 1 := eq_of_beq hg
    subst ht
    refine hz_aload_n hO dL_speak_0 rfl 2 rfl ?_
    refine hz_iconst (v := (0 : Int32)) hO dL_speak_1 (by decide) ?_
    refine hz_aload_n hO dL_speak_2 rfl 0 rfl ?_
    refine hz_iload_n hO dL_speak_3 rfl 1 rfl ?_
    refine hz_tryV (as := [.int a1]) (rest := [.int 0, .ref (hz_ad w 193)]) hO hxt (cx_X10_speak l hl w hN1 a1 hq) hz_cal_X10_speak hz_K_8 hz_sh_0 (hz_lt_0 hN1) tw_6_70 (Nat.le_of_ble_eq_true rfl) rfl rfl (Nat.le_of_ble_eq_true rfl) dL_speak_4 [] ⟨0, 9, 12, 13⟩ [] rfl (name := "java/lang/IllegalArgumentException") rfl (fun q hq => by cases hq) (by decide) (by decide) tw_5_31 (by decide) (fun q => ?_)
    refine hz_astore_n (ls1 := [(3, .ref q), (0, .ref (hz_ad w 0)), (1, .int a1), (2, .ref (hz_ad w 193))]) hO dL_speak_12 rfl (Nat.le_of_ble_eq_true rfl) rfl ?_
    refine hz_iconst (v := (1 : Int32)) hO dL_speak_13 (by decide) ?_
    exact hz_nameM (hz_some_e h).2.symm (hz_name (hz_some_e h).1.symm (hz_iret hO dL_speak_14))
def f_L_valve (a1 : Int32) (a2 : Int32) (M : hz_M) : hz_O := hz_xt (f_X10_valve a1 a2 M) (hz_ct (fx_X10_valve a1 a2 M) fun t M1 => hz_gd (t == 1) (some (1, M1))) fun r M1 => some (0, hz_set M1 193 0 r)
theorem hz_cal_L_valve : Cond.codeWith yL_valve cL_valve 5 (some .int) [(0, 10, 13, 13)] ∈ hz_TB := tw_6_78
set_option maxRecDepth 100000 in
set_option maxHeartbeats 4000000 in
theorem c_L_valve (l : Launch) (hl : l.stackTraces = false) (w : hz_C) {N : Nat} (hN : 194 ≤ N) (a1 : Int32) (a2 : Int32) {M : hz_M} {rE : Int32} {ME : hz_M} (h : f_L_valve a1 a2 M = some (rE, ME)) : hz_Cw l yL_valve cL_valve 5 (some .int) [(0, 10, 13, 13)] 8 w N [.ref (hz_ad w 0), .int a1, .int a2, .ref (hz_ad w 193)] M (hz_Qi w N rE ME) := by
  have hN1 : 178 ≤ N := Nat.le_trans (Nat.le_of_ble_eq_true rfl) hN
  refine hz_ofH (by decide) rfl (Nat.le_of_ble_eq_true rfl) ?_
  intro p e s m args below meth c hO hxt
  show hz_G p l e 8 hz_z1 s m args below meth c w N 5 _ M 0 [(0, .ref (hz_ad w 0)), (1, .int a1), (2, .int a2), (3, .ref (hz_ad w 193))] []
  unfold f_L_valve at h
  rcases hz_xt_e h with ⟨r, M1, hq, h⟩ | hx
  · refine hz_aload_n hO dL_valve_0 rfl 3 rfl ?_
    refine hz_iconst (v := (0 : Int32)) hO dL_valve_1 (by decide) ?_
    refine hz_aload_n hO dL_valve_2 rfl 0 rfl ?_
    refine hz_iload_n hO dL_valve_3 rfl 1 rfl ?_
    refine hz_iload_n hO dL_valve_4 rfl 2 rfl ?_
    refine hz_callVi (as := [.int a1, .int a2]) (rest := [.int 0, .ref (hz_ad w 193)]) hO (c_X10_valve l w hN1 a1 a2 hq) hz_cal_X10_valve hz_K_8 hz_sh_0 (hz_lt_0 hN1) tw_6_79 (Nat.le_of_ble_eq_true rfl) rfl rfl (Nat.le_of_ble_eq_true rfl) dL_valve_5 ?_
    refine hz_i2l hO dL_valve_8 ?_
    refine hz_last hO hz_sh_193 (hz_lt_193 hN) (by decide) dL_valve_9 ?_
    refine hz_goto (tgt := 17) hO dL_valve_10 (by decide) ?_
    refine hz_iconst (v := (0 : Int32)) hO dL_valve_17 (by decide) ?_
    refine hz_up ?_
    exact hz_nameM (hz_some_e h).2.symm (hz_name (hz_some_e h).1.symm (hz_iret hO dL_valve_18))
  · obtain ⟨t, M1, hq, h⟩ := hz_ct_e hx
    obtain ⟨hg, h⟩ := hz_gd_e h
    have ht : t = 1 := eq_of_beq hg
    subst ht
    refine hz_aload_n hO dL_valve_0 rfl 3 rfl ?_
    refine hz_iconst (v := (0 : Int32)) hO dL_valve_1 (by decide) ?_
    refine hz_aload_n hO dL_valve_2 rfl 0 rfl ?_
    refine hz_iload_n hO dL_valve_3 rfl 1 rfl ?_
    refine hz_iload_n hO dL_valve_4 rfl 2 rfl ?_
    refine hz_tryV (as := [.int a1, .int a2]) (rest := [.int 0, .ref (hz_ad w 193)]) hO hxt (cx_X10_valve l hl w hN1 a1 a2 hq) hz_cal_X10_valve hz_K_8 hz_sh_0 (hz_lt_0 hN1) tw_6_79 (Nat.le_of_ble_eq_true rfl) rfl rfl (Nat.le_of_ble_eq_true rfl) dL_valve_5 [] ⟨0, 10, 13, 13⟩ [] rfl (name := "java/lang/IllegalArgumentException") rfl (fun q hq => by cases hq) (by decide) (by decide) tw_5_31 (by decide) (fun q => ?_)
    refine hz_astore (ls1 := [(4, .ref q), (0, .ref (hz_ad w 0)), (1, .int a1), (2, .int a2), (3, .ref (hz_ad w 193))]) hO dL_valve_13 (Nat.le_of_ble_eq_true rfl) rfl ?_
    refine hz_iconst (v := (1 : Int32)) hO dL_valve_15 (by decide) ?_
    exact hz_nameM (hz_some_e h).2.symm (hz_name (hz_some_e h).1.symm (hz_iret hO dL_valve_16))
def f_L_waits (a1 : Int32) (M : hz_M) : hz_O := hz_xt (f_X10_waits a1 M) (hz_ct (fx_X10_waits a1 M) fun t M1 => hz_gd (t == 1) (some (1, M1))) fun r M1 => some (0, hz_set M1 193 0 r)
theorem hz_cal_L_waits : Cond.codeWith yL_waits cL_waits 4 (some .int) [(0, 9, 12, 13)] ∈ hz_TB := tw_6_86
set_option maxRecDepth 100000 in
set_option maxHeartbeats 4000000 in
theorem c_L_waits (l : Launch) (hl : l.stackTraces = false) (w : hz_C) {N : Nat} (hN : 194 ≤ N) (a1 : Int32) {M : hz_M} {rE : Int32} {ME : hz_M} (h : f_L_waits a1 M = some (rE, ME)) : hz_Cw l yL_waits cL_waits 4 (some .int) [(0, 9, 12, 13)] 8 w N [.ref (hz_ad w 0), .int a1, .ref (hz_ad w 193)] M (hz_Qi w N rE ME) := by
  have hN1 : 178 ≤ N := Nat.le_trans (Nat.le_of_ble_eq_true rfl) hN
  refine hz_ofH (by decide) rfl (Nat.le_of_ble_eq_true rfl) ?_
  intro p e s m args below meth c hO hxt
  show hz_G p l e 8 hz_z1 s m args below meth c w N 4 _ M 0 [(0, .ref (hz_ad w 0)), (1, .int a1), (2, .ref (hz_ad w 193))] []
  unfold f_L_waits at h
  rcases hz_xt_e h with ⟨r, M1, hq, h⟩ | hx
  · refine hz_aload_n hO dL_waits_0 rfl 2 rfl ?_
    refine hz_iconst (v := (0 : Int32)) hO dL_waits_1 (by decide) ?_
    refine hz_aload_n hO dL_waits_2 rfl 0 rfl ?_
    refine hz_iload_n hO dL_waits_3 rfl 1 rfl ?_
    refine hz_callVi (as := [.int a1]) (rest := [.int 0, .ref (hz_ad w 193)]) hO (c_X10_waits l w hN1 a1 hq) hz_cal_X10_waits hz_K_8 hz_sh_0 (hz_lt_0 hN1) tw_6_87 (Nat.le_of_ble_eq_true rfl) rfl rfl (Nat.le_of_ble_eq_true rfl) dL_waits_4 ?_
    refine hz_i2l hO dL_waits_7 ?_
    refine hz_last hO hz_sh_193 (hz_lt_193 hN) (by decide) dL_waits_8 ?_
    refine hz_goto (tgt := 15) hO dL_waits_9 (by decide) ?_
    refine hz_iconst (v := (0 : Int32)) hO dL_waits_15 (by decide) ?_
    refine hz_up ?_
    exact hz_nameM (hz_some_e h).2.symm (hz_name (hz_some_e h).1.symm (hz_iret hO dL_waits_16))
  · obtain ⟨t, M1, hq, h⟩ := hz_ct_e hx
    obtain ⟨hg, h⟩ := hz_gd_e h
    have ht : t = 1 := eq_of_beq hg
    subst ht
    refine hz_aload_n hO dL_waits_0 rfl 2 rfl ?_
    refine hz_iconst (v := (0 : Int32)) hO dL_waits_1 (by decide) ?_
    refine hz_aload_n hO dL_waits_2 rfl 0 rfl ?_
    refine hz_iload_n hO dL_waits_3 rfl 1 rfl ?_
    refine hz_tryV (as := [.int a1]) (rest := [.int 0, .ref (hz_ad w 193)]) hO hxt (cx_X10_waits l hl w hN1 a1 hq) hz_cal_X10_waits hz_K_8 hz_sh_0 (hz_lt_0 hN1) tw_6_87 (Nat.le_of_ble_eq_true rfl) rfl rfl (Nat.le_of_ble_eq_true rfl) dL_waits_4 [] ⟨0, 9, 12, 13⟩ [] rfl (name := "java/lang/IllegalArgumentException") rfl (fun q hq => by cases hq) (by decide) (by decide) tw_5_31 (by decide) (fun q => ?_)
    refine hz_astore_n (ls1 := [(3, .ref q), (0, .ref (hz_ad w 0)), (1, .int a1), (2, .ref (hz_ad w 193))]) hO dL_waits_12 rfl (Nat.le_of_ble_eq_true rfl) rfl ?_
    refine hz_iconst (v := (1 : Int32)) hO dL_waits_13 (by decide) ?_
    exact hz_nameM (hz_some_e h).2.symm (hz_name (hz_some_e h).1.symm (hz_iret hO dL_waits_14))
def f_L_set (a1 : Int32) (a2 : Int32) (M : hz_M) : hz_O := hz_xt (f_X10_set a1 a2 M) (hz_ct (fx_X10_set a1 a2 M) fun t M1 => hz_gd (t == 1) (some (1, M1))) fun r M1 => some (0, hz_set M1 193 0 r)
theorem hz_cal_L_set : Cond.codeWith yL_set cL_set 5 (some .int) [(0, 10, 13, 13)] ∈ hz_TB := tw_6_95
set_option maxRecDepth 100000 in
set_option maxHeartbeats 4000000 in
theorem c_L_set (l : Launch) (hl : l.stackTraces = false) (w : hz_C) {N : Nat} (hN : 194 ≤ N) (a1 : Int32) (a2 : Int32) {M : hz_M} {rE : Int32} {ME : hz_M} (h : f_L_set a1 a2 M = some (rE, ME)) : hz_Cw l yL_set cL_set 5 (some .int) [(0, 10, 13, 13)] 8 w N [.ref (hz_ad w 0), .int a1, .int a2, .ref (hz_ad w 193)] M (hz_Qi w N rE ME) := by
  have hN1 : 178 ≤ N := Nat.le_trans (Nat.le_of_ble_eq_true rfl) hN
  refine hz_ofH (by decide) rfl (Nat.le_of_ble_eq_true rfl) ?_
  intro p e s m args below meth c hO hxt
  show hz_G p l e 8 hz_z1 s m args below meth c w N 5 _ M 0 [(0, .ref (hz_ad w 0)), (1, .int a1), (2, .int a2), (3, .ref (hz_ad w 193))] []
  unfold f_L_set at h
  rcases hz_xt_e h with ⟨r, M1, hq, h⟩ | hx
  · refine hz_aload_n hO dL_set_0 rfl 3 rfl ?_
    refine hz_iconst (v := (0 : Int32)) hO dL_set_1 (by decide) ?_
    refine hz_aload_n hO dL_set_2 rfl 0 rfl ?_
    refine hz_iload_n hO dL_set_3 rfl 1 rfl ?_
    refine hz_iload_n hO dL_set_4 rfl 2 rfl ?_
    refine hz_callVi (as := [.int a1, .int a2]) (rest := [.int 0, .ref (hz_ad w 193)]) hO (c_X10_set l w hN1 a1 a2 hq) hz_cal_X10_set hz_K_8 hz_sh_0 (hz_lt_0 hN1) tw_6_96 (Nat.le_of_ble_eq_true rfl) rfl rfl (Nat.le_of_ble_eq_true rfl) dL_set_5 ?_
    refine hz_i2l hO dL_set_8 ?_
    refine hz_last hO hz_sh_193 (hz_lt_193 hN) (by decide) dL_set_9 ?_
    refine hz_goto (tgt := 17) hO dL_set_10 (by decide) ?_
    refine hz_iconst (v := (0 : Int32)) hO dL_set_17 (by decide) ?_
    refine hz_up ?_
    exact hz_nameM (hz_some_e h).2.symm (hz_name (hz_some_e h).1.symm (hz_iret hO dL_set_18))
  · obtain ⟨t, M1, hq, h⟩ := hz_ct_e hx
    obtain ⟨hg, h⟩ := hz_gd_e h
    have ht : t = 1 := eq_of_beq hg
    subst ht
    refine hz_aload_n hO dL_set_0 rfl 3 rfl ?_
    refine hz_iconst (v := (0 : Int32)) hO dL_set_1 (by decide) ?_
    refine hz_aload_n hO dL_set_2 rfl 0 rfl ?_
    refine hz_iload_n hO dL_set_3 rfl 1 rfl ?_
    refine hz_iload_n hO dL_set_4 rfl 2 rfl ?_
    refine hz_tryV (as := [.int a1, .int a2]) (rest := [.int 0, .ref (hz_ad w 193)]) hO hxt (cx_X10_set l hl w hN1 a1 a2 hq) hz_cal_X10_set hz_K_8 hz_sh_0 (hz_lt_0 hN1) tw_6_96 (Nat.le_of_ble_eq_true rfl) rfl rfl (Nat.le_of_ble_eq_true rfl) dL_set_5 [] ⟨0, 10, 13, 13⟩ [] rfl (name := "java/lang/IllegalArgumentException") rfl (fun q hq => by cases hq) (by decide) (by decide) tw_5_31 (by decide) (fun q => ?_)
    refine hz_astore (ls1 := [(4, .ref q), (0, .ref (hz_ad w 0)), (1, .int a1), (2, .int a2), (3, .ref (hz_ad w 193))]) hO dL_set_13 (Nat.le_of_ble_eq_true rfl) rfl ?_
    refine hz_iconst (v := (1 : Int32)) hO dL_set_15 (by decide) ?_
    exact hz_nameM (hz_some_e h).2.symm (hz_name (hz_some_e h).1.symm (hz_iret hO dL_set_16))
def f_L_save (a1 : Int32) (M : hz_M) : hz_O := hz_xt (f_X10_save a1 M) (hz_ct (fx_X10_save a1 M) fun t M1 => hz_gd (t == 1) (some (1, M1))) fun r M1 => some (0, hz_set M1 193 0 r)
theorem hz_cal_L_save : Cond.codeWith yL_save cL_save 4 (some .int) [(0, 9, 12, 13)] ∈ hz_TB := tw_6_106
set_option maxRecDepth 100000 in
set_option maxHeartbeats 4000000 in
theorem c_L_save (l : Launch) (hl : l.stackTraces = false) (w : hz_C) {N : Nat} (hN : 194 ≤ N) (a1 : Int32) {M : hz_M} {rE : Int32} {ME : hz_M} (h : f_L_save a1 M = some (rE, ME)) : hz_Cw l yL_save cL_save 4 (some .int) [(0, 9, 12, 13)] 8 w N [.ref (hz_ad w 0), .int a1, .ref (hz_ad w 193)] M (hz_Qi w N rE ME) := by
  have hN1 : 178 ≤ N := Nat.le_trans (Nat.le_of_ble_eq_true rfl) hN
  refine hz_ofH (by decide) rfl (Nat.le_of_ble_eq_true rfl) ?_
  intro p e s m args below meth c hO hxt
  show hz_G p l e 8 hz_z1 s m args below meth c w N 4 _ M 0 [(0, .ref (hz_ad w 0)), (1, .int a1), (2, .ref (hz_ad w 193))] []
  unfold f_L_save at h
  rcases hz_xt_e h with ⟨r, M1, hq, h⟩ | hx
  · refine hz_aload_n hO dL_save_0 rfl 2 rfl ?_
    refine hz_iconst (v := (0 : Int32)) hO dL_save_1 (by decide) ?_
    refine hz_aload_n hO dL_save_2 rfl 0 rfl ?_
    refine hz_iload_n hO dL_save_3 rfl 1 rfl ?_
    refine hz_callVi (as := [.int a1]) (rest := [.int 0, .ref (hz_ad w 193)]) hO (c_X10_save l w hN1 a1 hq) hz_cal_X10_save hz_K_8 hz_sh_0 (hz_lt_0 hN1) tw_6_107 (Nat.le_of_ble_eq_true rfl) rfl rfl (Nat.le_of_ble_eq_true rfl) dL_save_4 ?_
    refine hz_i2l hO dL_save_7 ?_
    refine hz_last hO hz_sh_193 (hz_lt_193 hN) (by decide) dL_save_8 ?_
    refine hz_goto (tgt := 15) hO dL_save_9 (by decide) ?_
    refine hz_iconst (v := (0 : Int32)) hO dL_save_15 (by decide) ?_
    refine hz_up ?_
    exact hz_nameM (hz_some_e h).2.symm (hz_name (hz_some_e h).1.symm (hz_iret hO dL_save_16))
  · obtain ⟨t, M1, hq, h⟩ := hz_ct_e hx
    obtain ⟨hg, h⟩ := hz_gd_e h
    have ht : t = 1 := eq_of_beq hg
    subst ht
    refine hz_aload_n hO dL_save_0 rfl 2 rfl ?_
    refine hz_iconst (v := (0 : Int32)) hO dL_save_1 (by decide) ?_
    refine hz_aload_n hO dL_save_2 rfl 0 rfl ?_
    refine hz_iload_n hO dL_save_3 rfl 1 rfl ?_
    refine hz_tryV (as := [.int a1]) (rest := [.int 0, .ref (hz_ad w 193)]) hO hxt (cx_X10_save l hl w hN1 a1 hq) hz_cal_X10_save hz_K_8 hz_sh_0 (hz_lt_0 hN1) tw_6_107 (Nat.le_of_ble_eq_true rfl) rfl rfl (Nat.le_of_ble_eq_true rfl) dL_save_4 [] ⟨0, 9, 12, 13⟩ [] rfl (name := "java/lang/IllegalArgumentException") rfl (fun q hq => by cases hq) (by decide) (by decide) tw_5_31 (by decide) (fun q => ?_)
    refine hz_astore_n (ls1 := [(3, .ref q), (0, .ref (hz_ad w 0)), (1, .int a1), (2, .ref (hz_ad w 193))]) hO dL_save_12 rfl (Nat.le_of_ble_eq_true rfl) rfl ?_
    refine hz_iconst (v := (1 : Int32)) hO dL_save_13 (by decide) ?_
    exact hz_nameM (hz_some_e h).2.symm (hz_name (hz_some_e h).1.symm (hz_iret hO dL_save_14))
def f_L_restore (a1 : Int32) (M : hz_M) : hz_O := hz_xt (f_X10_restore a1 M) (hz_ct (fx_X10_restore a1 M) fun t M1 => some (if t = 1 then 1 else 2, M1)) fun r M1 => some (0, hz_set M1 193 0 r)
theorem hz_cal_L_restore : Cond.codeWith yL_restore cL_restore 4 (some .int) [(0, 9, 12, 13), (0, 9, 15, 95)] ∈ hz_TB := tw_6_120
set_option maxRecDepth 100000 in
set_option maxHeartbeats 4000000 in
theorem c_L_restore (l : Launch) (hl : l.stackTraces = false) (w : hz_C) {N : Nat} (hN : 194 ≤ N) (a1 : Int32) {M : hz_M} {rE : Int32} {ME : hz_M} (h : f_L_restore a1 M = some (rE, ME)) : hz_Cw l yL_restore cL_restore 4 (some .int) [(0, 9, 12, 13), (0, 9, 15, 95)] 8 w N [.ref (hz_ad w 0), .int a1, .ref (hz_ad w 193)] M (hz_Qi w N rE ME) := by
  have hN1 : 178 ≤ N := Nat.le_trans (Nat.le_of_ble_eq_true rfl) hN
  refine hz_ofH (by decide) rfl (Nat.le_of_ble_eq_true rfl) ?_
  intro p e s m args below meth c hO hxt
  show hz_G p l e 8 hz_z1 s m args below meth c w N 4 _ M 0 [(0, .ref (hz_ad w 0)), (1, .int a1), (2, .ref (hz_ad w 193))] []
  unfold f_L_restore at h
  rcases hz_xt_e h with ⟨r, M1, hq, h⟩ | hx
  · refine hz_aload_n hO dL_restore_0 rfl 2 rfl ?_
    refine hz_iconst (v := (0 : Int32)) hO dL_restore_1 (by decide) ?_
    refine hz_aload_n hO dL_restore_2 rfl 0 rfl ?_
    refine hz_iload_n hO dL_restore_3 rfl 1 rfl ?_
    refine hz_callVi (as := [.int a1]) (rest := [.int 0, .ref (hz_ad w 193)]) hO (c_X10_restore l w hN1 a1 hq) hz_cal_X10_restore hz_K_8 hz_sh_0 (hz_lt_0 hN1) tw_6_122 (Nat.le_of_ble_eq_true rfl) rfl rfl (Nat.le_of_ble_eq_true rfl) dL_restore_4 ?_
    refine hz_i2l hO dL_restore_7 ?_
    refine hz_last hO hz_sh_193 (hz_lt_193 hN) (by decide) dL_restore_8 ?_
    refine hz_goto (tgt := 18) hO dL_restore_9 (by decide) ?_
    refine hz_iconst (v := (0 : Int32)) hO dL_restore_18 (by decide) ?_
    refine hz_up ?_
    exact hz_nameM (hz_some_e h).2.symm (hz_name (hz_some_e h).1.symm (hz_iret hO dL_restore_19))
  · obtain ⟨t, M1, hq, h⟩ := hz_ct_e hx
    by_cases ht : t = 1
    · subst ht
      refine hz_aload_n hO dL_restore_0 rfl 2 rfl ?_
      refine hz_iconst (v := (0 : Int32)) hO dL_restore_1 (by decide) ?_
      refine hz_aload_n hO dL_restore_2 rfl 0 rfl ?_
      refine hz_iload_n hO dL_restore_3 rfl 1 rfl ?_
      refine hz_tryV (as := [.int a1]) (rest := [.int 0, .ref (hz_ad w 193)]) hO hxt (cx_X10_restore l hl w hN1 a1 hq) hz_cal_X10_restore hz_K_8 hz_sh_0 (hz_lt_0 hN1) tw_6_122 (Nat.le_of_ble_eq_true rfl) rfl rfl (Nat.le_of_ble_eq_true rfl) dL_restore_4 [] ⟨0, 9, 12, 13⟩ [⟨0, 9, 15, 95⟩] rfl (name := "java/lang/IllegalArgumentException") rfl (fun q hq => by cases hq) (by decide) (by decide) tw_5_31 (by decide) (fun q => ?_)
      refine hz_astore_n (ls1 := [(3, .ref q), (0, .ref (hz_ad w 0)), (1, .int a1), (2, .ref (hz_ad w 193))]) hO dL_restore_12 rfl (Nat.le_of_ble_eq_true rfl) rfl ?_
      refine hz_iconst (v := (1 : Int32)) hO dL_restore_13 (by decide) ?_
      exact hz_nameM (hz_some_e h).2.symm (hz_name (hz_some_e h).1.symm (hz_iret hO dL_restore_14))
    · rw [if_neg ht] at h
      refine hz_aload_n hO dL_restore_0 rfl 2 rfl ?_
      refine hz_iconst (v := (0 : Int32)) hO dL_restore_1 (by decide) ?_
      refine hz_aload_n hO dL_restore_2 rfl 0 rfl ?_
      refine hz_iload_n hO dL_restore_3 rfl 1 rfl ?_
      refine hz_tryV (as := [.int a1]) (rest := [.int 0, .ref (hz_ad w 193)]) hO hxt (cx_X10_restore l hl w hN1 a1 hq) hz_cal_X10_restore hz_K_8 hz_sh_0 (hz_lt_0 hN1) tw_6_122 (Nat.le_of_ble_eq_true rfl) rfl rfl (Nat.le_of_ble_eq_true rfl) dL_restore_4 [⟨0, 9, 12, 13⟩] ⟨0, 9, 15, 95⟩ [] rfl (name := "java/util/NoSuchElementException") (by rw [hz_xn, if_neg ht]) (fun q hq => by
      rcases List.mem_singleton.mp hq with rfl
      exact Or.inr ⟨by decide, _, tw_5_31, hO.2.2.2.1.2.2.2.2.2.2.2.2.2.2.2.1⟩) (by decide) (by decide) tw_6_121 (by decide) (fun q => ?_)
      refine hz_astore_n (ls1 := [(3, .ref q), (0, .ref (hz_ad w 0)), (1, .int a1), (2, .ref (hz_ad w 193))]) hO dL_restore_15 rfl (Nat.le_of_ble_eq_true rfl) rfl ?_
      refine hz_iconst (v := (2 : Int32)) hO dL_restore_16 (by decide) ?_
      exact hz_nameM (hz_some_e h).2.symm (hz_name (hz_some_e h).1.symm (hz_iret hO dL_restore_17))
