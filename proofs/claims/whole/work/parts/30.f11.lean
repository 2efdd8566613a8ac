-- X11_thrown X11_in X11_right X11_of X11_puts X11_ofT X11_putT X11_counts X11_isGuest X11_isPeg X11_isTowel X11_isValve X11_isStep X11_towelOn X11_holderOf X11_keeperOf X11_freeLocker X11_freePeg X11_driestOne X11_isInBasket X11_basket X11_warmthOf X11_bears X11_guestsOn X11_isSilence X11_today X11_noEntering X11_othersOn X11_yearsLacking X11_noSitting X11_noLeaving X11_noHanging X11_noTaking X11_reasonOf X11_firstOn X11_causeOf X11_isDeed X11_nextHeat X11_towelPasses X11_guestPasses
def f_X11_thrown (M : hz_M) : hz_O :=
  some ((M 178 8), M)
set_option maxRecDepth 100000 in
set_option maxHeartbeats 4000000 in
theorem c_X11_thrown (l : Launch) (w : hz_C) {N : Nat} (hN : 193 ≤ N) {M : hz_M} {rE : Int32} {ME : hz_M} (h : f_X11_thrown M = some (rE, ME)) : hz_Ct l yX11_thrown cX11_thrown 1 (some .int) 0 w N [.ref (hz_ad w 178)] M (hz_Qi w N rE ME) := by
  refine hz_ofW (by decide) rfl (Nat.le_of_ble_eq_true rfl) tw_7_77 ?_
  intro p e s m args below meth c hO
  show hz_G p l e 0 hz_z0 s m args below meth c w N 1 _ M 0 [(0, .ref (hz_ad w 178))] []
  unfold f_X11_thrown at h
  refine hz_aload_n hO dX11_thrown_0 rfl 0 rfl ?_
  refine hz_getI (k := 8) hO hz_K_9 hz_sh_178 (hz_lt_178 hN) rfl (Nat.le_of_ble_eq_true rfl) tw_6_237 rfl dX11_thrown_1 ?_
  exact hz_nameM (hz_some_e h).2.symm (hz_name (hz_some_e h).1.symm (hz_iret hO dX11_thrown_4))
def f_X11_in (a0 : Int32) (a1 : Int32) (a2 : Int32) (M : hz_M) : hz_O :=
  if a0 < a1 then
    some ((0 : Int32), M)
  else
    if a2 < a0 then
      some ((0 : Int32), M)
    else
      some ((1 : Int32), M)
set_option maxRecDepth 100000 in
set_option maxHeartbeats 4000000 in
theorem c_X11_in (l : Launch) (w : hz_C) {N : Nat} (hN : 193 ≤ N) (a0 : Int32) (a1 : Int32) (a2 : Int32) {M : hz_M} {rE : Int32} {ME : hz_M} (h : f_X11_in a0 a1 a2 M = some (rE, ME)) : hz_Ct l yX11_in cX11_in 3 (some .boolean) 0 w N [.int a0, .int a1, .int a2] M (hz_Qi w N rE ME) := by
  refine hz_ofW (by decide) rfl (Nat.le_of_ble_eq_true rfl) tw_6_173 ?_
  intro p e s m args below meth c hO
  show hz_G p l e 0 hz_z0 s m args below meth c w N 3 _ M 0 [(0, .int a0), (1, .int a1), (2, .int a2)] []
  unfold f_X11_in at h
  refine hz_iload_n hO dX11_in_0 rfl 1 rfl ?_
  refine hz_iload_n hO dX11_in_1 rfl 0 rfl ?_
  refine hz_icmp_gt (tgt := 14) hO dX11_in_2 (by decide) (fun hc1 => ?_) (fun hc1 => ?_)
  · rw [if_pos hc1] at h
    refine hz_iconst (v := (0 : Int32)) hO dX11_in_14 (by decide) ?_
    exact hz_nameM (hz_some_e h).2.symm (hz_name (hz_some_e h).1.symm (hz_zret hO (by rw [← (hz_some_e h).1]; decide) dX11_in_15))
  · rw [if_neg hc1] at h
    refine hz_iload_n hO dX11_in_5 rfl 0 rfl ?_
    refine hz_iload_n hO dX11_in_6 rfl 2 rfl ?_
    refine hz_icmp_gt (tgt := 14) hO dX11_in_7 (by decide) (fun hc2 => ?_) (fun hc2 => ?_)
    · rw [if_pos hc2] at h
      refine hz_iconst (v := (0 : Int32)) hO dX11_in_14 (by decide) ?_
      exact hz_nameM (hz_some_e h).2.symm (hz_name (hz_some_e h).1.symm (hz_zret hO (by rw [← (hz_some_e h).1]; decide) dX11_in_15))
    · rw [if_neg hc2] at h
      refine hz_iconst (v := (1 : Int32)) hO dX11_in_10 (by decide) ?_
      refine hz_goto (tgt := 15) hO dX11_in_11 (by decide) ?_
      exact hz_nameM (hz_some_e h).2.symm (hz_name (hz_some_e h).1.symm (hz_zret hO (by rw [← (hz_some_e h).1]; decide) dX11_in_15))
def f_X11_right (a1 : Int32) (M : hz_M) : hz_O :=
  if a1 = 0 then
    hz_lm (hz_set M 178 8 (1 : Int32)) fun M3 =>
    hz_gd (hz_bt a1) <|
    some (a1, M3)
  else
    hz_gd (hz_bt a1) <|
    some (a1, M)
set_option maxRecDepth 100000 in
set_option maxHeartbeats 4000000 in
theorem c_X11_right (l : Launch) (w : hz_C) {N : Nat} (hN : 193 ≤ N) (a1 : Int32) {M : hz_M} {rE : Int32} {ME : hz_M} (h : f_X11_right a1 M = some (rE, ME)) : hz_Ct l yX11_right cX11_right 2 (some .boolean) 0 w N [.ref (hz_ad w 178), .int a1] M (hz_Qi w N rE ME) := by
  refine hz_ofW (by decide) rfl (Nat.le_of_ble_eq_true rfl) tw_8_85 ?_
  intro p e s m args below meth c hO
  show hz_G p l e 0 hz_z0 s m args below meth c w N 2 _ M 0 [(0, .ref (hz_ad w 178)), (1, .int a1)] []
  unfold f_X11_right at h
  refine hz_iload_n hO dX11_right_0 rfl 1 rfl ?_
  refine hz_if_ne (tgt := 9) hO dX11_right_1 (by decide) (fun hc1 => ?_) (fun hc1 => ?_)
  · rw [if_neg hc1] at h
    refine hz_iload_n hO dX11_right_9 rfl 1 rfl ?_
    obtain ⟨hg2, h⟩ := hz_gd_e h
    exact hz_nameM (hz_some_e h).2.symm (hz_name (hz_some_e h).1.symm (hz_zret hO (by rw [← (hz_some_e h).1]; exact hg2) dX11_right_10))
  · rw [if_pos hc1] at h
    refine hz_aload_n hO dX11_right_4 rfl 0 rfl ?_
    refine hz_iconst (v := (1 : Int32)) hO dX11_right_5 (by decide) ?_
    obtain ⟨M3, h_M3, h⟩ := hz_lm_e h
    refine hz_putI (k := 8) (ty := .int) hO hz_K_9 tyX11_ok nmX11 hz_sh_178 (hz_lt_178 hN) rfl (Nat.le_of_ble_eq_true rfl) tw_6_237 rfl rfl rfl rfl rfl dX11_right_6 ?_
    refine hz_nameM h_M3 ?_
    refine hz_iload_n hO dX11_right_9 rfl 1 rfl ?_
    obtain ⟨hg4, h⟩ := hz_gd_e h
    exact hz_nameM (hz_some_e h).2.symm (hz_name (hz_some_e h).1.symm (hz_zret hO (by rw [← (hz_some_e h).1]; exact hg4) dX11_right_10))
def f_X11_of (a1 : Int32) (a2 : Int32) (M : hz_M) : hz_O :=
  hz_gd (hz_in (((25 : Int32) + ((8 : Int32) * a1)) + a2) 185) <|
  some ((M 179 (Int32.toNatClampNeg (((25 : Int32) + ((8 : Int32) * a1)) + a2))), M)
set_option maxRecDepth 100000 in
set_option maxHeartbeats 4000000 in
theorem c_X11_of (l : Launch) (w : hz_C) {N : Nat} (hN : 193 ≤ N) (a1 : Int32) (a2 : Int32) {M : hz_M} {rE : Int32} {ME : hz_M} (h : f_X11_of a1 a2 M = some (rE, ME)) : hz_Ct l yX11_of cX11_of 3 (some .int) 0 w N [.ref (hz_ad w 178), .int a1, .int a2] M (hz_Qi w N rE ME) := by
  refine hz_ofW (by decide) rfl (Nat.le_of_ble_eq_true rfl) tw_6_220 ?_
  intro p e s m args below meth c hO
  show hz_G p l e 0 hz_z0 s m args below meth c w N 3 _ M 0 [(0, .ref (hz_ad w 178)), (1, .int a1), (2, .int a2)] []
  unfold f_X11_of at h
  refine hz_aload_n hO dX11_of_0 rfl 0 rfl ?_
  refine hz_getR (k := 0) hO 179 hz_K_9 hz_sh_178 (hz_lt_178 hN) rfl (Nat.le_of_ble_eq_true rfl) tw_6_229 rfl dX11_of_1 ?_
  refine hz_bipush (v := (25 : Int32)) hO dX11_of_4 (by decide) ?_
  refine hz_bipush (v := (8 : Int32)) hO dX11_of_6 (by decide) ?_
  refine hz_iload_n hO dX11_of_8 rfl 1 rfl ?_
  refine hz_imul hO dX11_of_9 ?_
  refine hz_iadd hO dX11_of_10 ?_
  refine hz_iload_n hO dX11_of_11 rfl 2 rfl ?_
  refine hz_iadd hO dX11_of_12 ?_
  obtain ⟨hg1, h⟩ := hz_gd_e h
  refine hz_iald hO hz_sh_179 (hz_lt_179 hN) hg1 dX11_of_13 ?_
  exact hz_nameM (hz_some_e h).2.symm (hz_name (hz_some_e h).1.symm (hz_iret hO dX11_of_14))
def f_X11_puts (a1 : Int32) (a2 : Int32) (a3 : Int32) (M : hz_M) : hz_O :=
  hz_gd (hz_in (((25 : Int32) + ((8 : Int32) * a1)) + a2) 185) <|
  hz_lm (hz_set M 179 (Int32.toNatClampNeg (((25 : Int32) + ((8 : Int32) * a1)) + a2)) a3) fun M2 =>
  some (0, M2)
set_option maxRecDepth 100000 in
set_option maxHeartbeats 4000000 in
theorem c_X11_puts (l : Launch) (w : hz_C) {N : Nat} (hN : 193 ≤ N) (a1 : Int32) (a2 : Int32) (a3 : Int32) {M : hz_M} {rE : Int32} {ME : hz_M} (h : f_X11_puts a1 a2 a3 M = some (rE, ME)) : hz_Ct l yX11_puts cX11_puts 4 none 0 w N [.ref (hz_ad w 178), .int a1, .int a2, .int a3] M (hz_Qv w N ME) := by
  refine hz_ofW (by decide) rfl (Nat.le_of_ble_eq_true rfl) tw_6_224 ?_
  intro p e s m args below meth c hO
  show hz_G p l e 0 hz_z0 s m args below meth c w N 4 _ M 0 [(0, .ref (hz_ad w 178)), (1, .int a1), (2, .int a2), (3, .int a3)] []
  unfold f_X11_puts at h
  refine hz_aload_n hO dX11_puts_0 rfl 0 rfl ?_
  refine hz_getR (k := 0) hO 179 hz_K_9 hz_sh_178 (hz_lt_178 hN) rfl (Nat.le_of_ble_eq_true rfl) tw_6_229 rfl dX11_puts_1 ?_
  refine hz_bipush (v := (25 : Int32)) hO dX11_puts_4 (by decide) ?_
  refine hz_bipush (v := (8 : Int32)) hO dX11_puts_6 (by decide) ?_
  refine hz_iload_n hO dX11_puts_8 rfl 1 rfl ?_
  refine hz_imul hO dX11_puts_9 ?_
  refine hz_iadd hO dX11_puts_10 ?_
  refine hz_iload_n hO dX11_puts_11 rfl 2 rfl ?_
  refine hz_iadd hO dX11_puts_12 ?_
  refine hz_iload_n hO dX11_puts_13 rfl 3 rfl ?_
  obtain ⟨hg1, h⟩ := hz_gd_e h
  obtain ⟨M2, h_M2, h⟩ := hz_lm_e h
  refine hz_iast hO hz_sh_179 (hz_lt_179 hN) hg1 dX11_puts_14 ?_
  refine hz_nameM h_M2 ?_
  exact hz_nameM (hz_some_e h).2.symm (hz_vret hO dX11_puts_15)
def f_X11_ofT (a1 : Int32) (a2 : Int32) (M : hz_M) : hz_O :=
  hz_gd (hz_in (((153 : Int32) + ((2 : Int32) * a1)) + a2) 185) <|
  some ((M 179 (Int32.toNatClampNeg (((153 : Int32) + ((2 : Int32) * a1)) + a2))), M)
set_option maxRecDepth 100000 in
set_option maxHeartbeats 4000000 in
theorem c_X11_ofT (l : Launch) (w : hz_C) {N : Nat} (hN : 193 ≤ N) (a1 : Int32) (a2 : Int32) {M : hz_M} {rE : Int32} {ME : hz_M} (h : f_X11_ofT a1 a2 M = some (rE, ME)) : hz_Ct l yX11_ofT cX11_ofT 3 (some .int) 0 w N [.ref (hz_ad w 178), .int a1, .int a2] M (hz_Qi w N rE ME) := by
  refine hz_ofW (by decide) rfl (Nat.le_of_ble_eq_true rfl) tw_7_164 ?_
  intro p e s m args below meth c hO
  show hz_G p l e 0 hz_z0 s m args below meth c w N 3 _ M 0 [(0, .ref (hz_ad w 178)), (1, .int a1), (2, .int a2)] []
  unfold f_X11_ofT at h
  refine hz_aload_n hO dX11_ofT_0 rfl 0 rfl ?_
  refine hz_getR (k := 0) hO 179 hz_K_9 hz_sh_178 (hz_lt_178 hN) rfl (Nat.le_of_ble_eq_true rfl) tw_6_229 rfl dX11_ofT_1 ?_
  refine hz_sipush (v := (153 : Int32)) hO dX11_ofT_4 (by decide) ?_
  refine hz_iconst (v := (2 : Int32)) hO dX11_ofT_7 (by decide) ?_
  refine hz_iload_n hO dX11_ofT_8 rfl 1 rfl ?_
  refine hz_imul hO dX11_ofT_9 ?_
  refine hz_iadd hO dX11_ofT_10 ?_
  refine hz_iload_n hO dX11_ofT_11 rfl 2 rfl ?_
  refine hz_iadd hO dX11_ofT_12 ?_
  obtain ⟨hg1, h⟩ := hz_gd_e h
  refine hz_iald hO hz_sh_179 (hz_lt_179 hN) hg1 dX11_ofT_13 ?_
  exact hz_nameM (hz_some_e h).2.symm (hz_name (hz_some_e h).1.symm (hz_iret hO dX11_ofT_14))
def f_X11_putT (a1 : Int32) (a2 : Int32) (a3 : Int32) (M : hz_M) : hz_O :=
  hz_gd (hz_in (((153 : Int32) + ((2 : Int32) * a1)) + a2) 185) <|
  hz_lm (hz_set M 179 (Int32.toNatClampNeg (((153 : Int32) + ((2 : Int32) * a1)) + a2)) a3) fun M2 =>
  some (0, M2)
set_option maxRecDepth 100000 in
set_option maxHeartbeats 4000000 in
theorem c_X11_putT (l : Launch) (w : hz_C) {N : Nat} (hN : 193 ≤ N) (a1 : Int32) (a2 : Int32) (a3 : Int32) {M : hz_M} {rE : Int32} {ME : hz_M} (h : f_X11_putT a1 a2 a3 M = some (rE, ME)) : hz_Ct l yX11_putT cX11_putT 4 none 0 w N [.ref (hz_ad w 178), .int a1, .int a2, .int a3] M (hz_Qv w N ME) := by
  refine hz_ofW (by decide) rfl (Nat.le_of_ble_eq_true rfl) tw_6_228 ?_
  intro p e s m args below meth c hO
  show hz_G p l e 0 hz_z0 s m args below meth c w N 4 _ M 0 [(0, .ref (hz_ad w 178)), (1, .int a1), (2, .int a2), (3, .int a3)] []
  unfold f_X11_putT at h
  refine hz_aload_n hO dX11_putT_0 rfl 0 rfl ?_
  refine hz_getR (k := 0) hO 179 hz_K_9 hz_sh_178 (hz_lt_178 hN) rfl (Nat.le_of_ble_eq_true rfl) tw_6_229 rfl dX11_putT_1 ?_
  refine hz_sipush (v := (153 : Int32)) hO dX11_putT_4 (by decide) ?_
  refine hz_iconst (v := (2 : Int32)) hO dX11_putT_7 (by decide) ?_
  refine hz_iload_n hO dX11_putT_8 rfl 1 rfl ?_
  refine hz_imul hO dX11_putT_9 ?_
  refine hz_iadd hO dX11_putT_10 ?_
  refine hz_iload_n hO dX11_putT_11 rfl 2 rfl ?_
  refine hz_iadd hO dX11_putT_12 ?_
  refine hz_iload_n hO dX11_putT_13 rfl 3 rfl ?_
  obtain ⟨hg1, h⟩ := hz_gd_e h
  obtain ⟨M2, h_M2, h⟩ := hz_lm_e h
  refine hz_iast hO hz_sh_179 (hz_lt_179 hN) hg1 dX11_putT_14 ?_
  refine hz_nameM h_M2 ?_
  exact hz_nameM (hz_some_e h).2.symm (hz_vret hO dX11_putT_15)
def f_X11_counts (a1 : Int32) (a2 : Int32) (M : hz_M) : hz_O :=
  hz_lt (((12 : Int32) + a1)) fun x1 =>
  hz_gd (hz_in x1 185) <|
  hz_gd (hz_in x1 185) <|
  hz_lm (hz_set M 179 (Int32.toNatClampNeg x1) ((M 179 (Int32.toNatClampNeg x1)) + a2)) fun M4 =>
  some (0, M4)
set_option maxRecDepth 100000 in
set_option maxHeartbeats 4000000 in
theorem c_X11_counts (l : Launch) (w : hz_C) {N : Nat} (hN : 193 ≤ N) (a1 : Int32) (a2 : Int32) {M : hz_M} {rE : Int32} {ME : hz_M} (h : f_X11_counts a1 a2 M = some (rE, ME)) : hz_Ct l yX11_counts cX11_counts 3 none 0 w N [.ref (hz_ad w 178), .int a1, .int a2] M (hz_Qv w N ME) := by
  refine hz_ofW (by decide) rfl (Nat.le_of_ble_eq_true rfl) tw_7_180 ?_
  intro p e s m args below meth c hO
  show hz_G p l e 0 hz_z0 s m args below meth c w N 3 _ M 0 [(0, .ref (hz_ad w 178)), (1, .int a1), (2, .int a2)] []
  unfold f_X11_counts at h
  refine hz_aload_n hO dX11_counts_0 rfl 0 rfl ?_
  refine hz_getR (k := 0) hO 179 hz_K_9 hz_sh_178 (hz_lt_178 hN) rfl (Nat.le_of_ble_eq_true rfl) tw_6_229 rfl dX11_counts_1 ?_
  refine hz_bipush (v := (12 : Int32)) hO dX11_counts_4 (by decide) ?_
  refine hz_iload_n hO dX11_counts_6 rfl 1 rfl ?_
  refine hz_iadd hO dX11_counts_7 ?_
  obtain ⟨x1, h_x1, h⟩ := hz_lt_e h
  refine hz_name h_x1 ?_
  refine hz_dup2 hO dX11_counts_8 rfl rfl ?_
  obtain ⟨hg2, h⟩ := hz_gd_e h
  refine hz_iald hO hz_sh_179 (hz_lt_179 hN) hg2 dX11_counts_9 ?_
  refine hz_iload_n hO dX11_counts_10 rfl 2 rfl ?_
  refine hz_iadd hO dX11_counts_11 ?_
  obtain ⟨hg3, h⟩ := hz_gd_e h
  obtain ⟨M4, h_M4, h⟩ := hz_lm_e h
  refine hz_iast hO hz_sh_179 (hz_lt_179 hN) hg3 dX11_counts_12 ?_
  refine hz_nameM h_M4 ?_
  exact hz_nameM (hz_some_e h).2.symm (hz_vret hO dX11_counts_13)
def f_X11_isGuest (a1 : Int32) (M : hz_M) : hz_O :=
  hz_ct (f_X11_in a1 (0 : Int32) ((M 179 (Int32.toNatClampNeg (11 : Int32))) - (1 : Int32)) M) fun r1 M2 =>
  hz_gd (hz_bt r1) <|
  some (r1, M2)
set_option maxRecDepth 100000 in
set_option maxHeartbeats 4000000 in
theorem c_X11_isGuest (l : Launch) (w : hz_C) {N : Nat} (hN : 193 ≤ N) (a1 : Int32) {M : hz_M} {rE : Int32} {ME : hz_M} (h : f_X11_isGuest a1 M = some (rE, ME)) : hz_Ct l yX11_isGuest cX11_isGuest 2 (some .boolean) 1 w N [.ref (hz_ad w 178), .int a1] M (hz_Qi w N rE ME) := by
  refine hz_ofW (by decide) rfl (Nat.le_of_ble_eq_true rfl) tw_8_105 ?_
  intro p e s m args below meth c hO
  show hz_G p l e 1 hz_z0 s m args below meth c w N 2 _ M 0 [(0, .ref (hz_ad w 178)), (1, .int a1)] []
  unfold f_X11_isGuest at h
  refine hz_iload_n hO dX11_isGuest_0 rfl 1 rfl ?_
  refine hz_iconst (v := (0 : Int32)) hO dX11_isGuest_1 (by decide) ?_
  refine hz_aload_n hO dX11_isGuest_2 rfl 0 rfl ?_
  refine hz_getR (k := 0) hO 179 hz_K_9 hz_sh_178 (hz_lt_178 hN) rfl (Nat.le_of_ble_eq_true rfl) tw_6_229 rfl dX11_isGuest_3 ?_
  refine hz_bipush (v := (11 : Int32)) hO dX11_isGuest_6 (by decide) ?_
  refine hz_iald hO hz_sh_179 (hz_lt_179 hN) (by decide) dX11_isGuest_8 ?_
  refine hz_iconst (v := (1 : Int32)) hO dX11_isGuest_9 (by decide) ?_
  refine hz_isub hO dX11_isGuest_10 ?_
  obtain ⟨r1, M2, hq3, h⟩ := hz_ct_e h
  refine hz_callSi (as := [.int a1, .int (0 : Int32), .int ((M 179 (Int32.toNatClampNeg (11 : Int32))) - (1 : Int32))]) (rest := []) hO (c_X11_in l w hN a1 (0 : Int32) ((M 179 (Int32.toNatClampNeg (11 : Int32))) - (1 : Int32)) hq3) hz_cal_X11_in tw_6_171 (Nat.le_of_ble_eq_true rfl) rfl rfl (Nat.le_of_ble_eq_true rfl) dX11_isGuest_11 ?_
  obtain ⟨hg4, h⟩ := hz_gd_e h
  exact hz_nameM (hz_some_e h).2.symm (hz_name (hz_some_e h).1.symm (hz_zret hO (by rw [← (hz_some_e h).1]; exact hg4) dX11_isGuest_14))
def f_X11_isPeg (a1 : Int32) (M : hz_M) : hz_O :=
  hz_ct (f_X11_in a1 (0 : Int32) ((M 179 (Int32.toNatClampNeg (1 : Int32))) - (1 : Int32)) M) fun r1 M2 =>
  hz_gd (hz_bt r1) <|
  some (r1, M2)
set_option maxRecDepth 100000 in
set_option maxHeartbeats 4000000 in
theorem c_X11_isPeg (l : Launch) (w : hz_C) {N : Nat} (hN : 193 ≤ N) (a1 : Int32) {M : hz_M} {rE : Int32} {ME : hz_M} (h : f_X11_isPeg a1 M = some (rE, ME)) : hz_Ct l yX11_isPeg cX11_isPeg 2 (some .boolean) 1 w N [.ref (hz_ad w 178), .int a1] M (hz_Qi w N rE ME) := by
  refine hz_ofW (by decide) rfl (Nat.le_of_ble_eq_true rfl) tw_8_41 ?_
  intro p e s m args below meth c hO
  show hz_G p l e 1 hz_z0 s m args below meth c w N 2 _ M 0 [(0, .ref (hz_ad w 178)), (1, .int a1)] []
  unfold f_X11_isPeg at h
  refine hz_iload_n hO dX11_isPeg_0 rfl 1 rfl ?_
  refine hz_iconst (v := (0 : Int32)) hO dX11_isPeg_1 (by decide) ?_
  refine hz_aload_n hO dX11_isPeg_2 rfl 0 rfl ?_
  refine hz_getR (k := 0) hO 179 hz_K_9 hz_sh_178 (hz_lt_178 hN) rfl (Nat.le_of_ble_eq_true rfl) tw_6_229 rfl dX11_isPeg_3 ?_
  refine hz_iconst (v := (1 : Int32)) hO dX11_isPeg_6 (by decide) ?_
  refine hz_iald hO hz_sh_179 (hz_lt_179 hN) (by decide) dX11_isPeg_7 ?_
  refine hz_iconst (v := (1 : Int32)) hO dX11_isPeg_8 (by decide) ?_
  refine hz_isub hO dX11_isPeg_9 ?_
  obtain ⟨r1, M2, hq3, h⟩ := hz_ct_e h
  refine hz_callSi (as := [.int a1, .int (0 : Int32), .int ((M 179 (Int32.toNatClampNeg (1 : Int32))) - (1 : Int32))]) (rest := []) hO (c_X11_in l w hN a1 (0 : Int32) ((M 179 (Int32.toNatClampNeg (1 : Int32))) - (1 : Int32)) hq3) hz_cal_X11_in tw_6_171 (Nat.le_of_ble_eq_true rfl) rfl rfl (Nat.le_of_ble_eq_true rfl) dX11_isPeg_10 ?_
  obtain ⟨hg4, h⟩ := hz_gd_e h
  exact hz_nameM (hz_some_e h).2.symm (hz_name (hz_some_e h).1.symm (hz_zret hO (by rw [← (hz_some_e h).1]; exact hg4) dX11_isPeg_13))
def f_X11_isTowel (a1 : Int32) (M : hz_M) : hz_O :=
  hz_ct (f_X11_in a1 (0 : Int32) ((M 179 (Int32.toNatClampNeg (2 : Int32))) - (1 : Int32)) M) fun r1 M2 =>
  hz_gd (hz_bt r1) <|
  some (r1, M2)
set_option maxRecDepth 100000 in
set_option maxHeartbeats 4000000 in
theorem c_X11_isTowel (l : Launch) (w : hz_C) {N : Nat} (hN : 193 ≤ N) (a1 : Int32) {M : hz_M} {rE : Int32} {ME : hz_M} (h : f_X11_isTowel a1 M = some (rE, ME)) : hz_Ct l yX11_isTowel cX11_isTowel 2 (some .boolean) 1 w N [.ref (hz_ad w 178), .int a1] M (hz_Qi w N rE ME) := by
  refine hz_ofW (by decide) rfl (Nat.le_of_ble_eq_true rfl) tw_8_113 ?_
  intro p e s m args below meth c hO
  show hz_G p l e 1 hz_z0 s m args below meth c w N 2 _ M 0 [(0, .ref (hz_ad w 178)), (1, .int a1)] []
  unfold f_X11_isTowel at h
  refine hz_iload_n hO dX11_isTowel_0 rfl 1 rfl ?_
  refine hz_iconst (v := (0 : Int32)) hO dX11_isTowel_1 (by decide) ?_
  refine hz_aload_n hO dX11_isTowel_2 rfl 0 rfl ?_
  refine hz_getR (k := 0) hO 179 hz_K_9 hz_sh_178 (hz_lt_178 hN) rfl (Nat.le_of_ble_eq_true rfl) tw_6_229 rfl dX11_isTowel_3 ?_
  refine hz_iconst (v := (2 : Int32)) hO dX11_isTowel_6 (by decide) ?_
  refine hz_iald hO hz_sh_179 (hz_lt_179 hN) (by decide) dX11_isTowel_7 ?_
  refine hz_iconst (v := (1 : Int32)) hO dX11_isTowel_8 (by decide) ?_
  refine hz_isub hO dX11_isTowel_9 ?_
  obtain ⟨r1, M2, hq3, h⟩ := hz_ct_e h
  refine hz_callSi (as := [.int a1, .int (0 : Int32), .int ((M 179 (Int32.toNatClampNeg (2 : Int32))) - (1 : Int32))]) (rest := []) hO (c_X11_in l w hN a1 (0 : Int32) ((M 179 (Int32.toNatClampNeg (2 : Int32))) - (1 : Int32)) hq3) hz_cal_X11_in tw_6_171 (Nat.le_of_ble_eq_true rfl) rfl rfl (Nat.le_of_ble_eq_true rfl) dX11_isTowel_10 ?_
  obtain ⟨hg4, h⟩ := hz_gd_e h
  exact hz_nameM (hz_some_e h).2.symm (hz_name (hz_some_e h).1.symm (hz_zret hO (by rw [← (hz_some_e h).1]; exact hg4) dX11_isTowel_13))
def f_X11_isValve (a1 : Int32) (M : hz_M) : hz_O :=
  hz_ct (f_X11_in a1 (0 : Int32) ((M 179 (Int32.toNatClampNeg (3 : Int32))) - (1 : Int32)) M) fun r1 M2 =>
  hz_gd (hz_bt r1) <|
  some (r1, M2)
set_option maxRecDepth 100000 in
set_option maxHeartbeats 4000000 in
theorem c_X11_isValve (l : Launch) (w : hz_C) {N : Nat} (hN : 193 ≤ N) (a1 : Int32) {M : hz_M} {rE : Int32} {ME : hz_M} (h : f_X11_isValve a1 M = some (rE, ME)) : hz_Ct l yX11_isValve cX11_isValve 2 (some .boolean) 1 w N [.ref (hz_ad w 178), .int a1] M (hz_Qi w N rE ME) := by
  refine hz_ofW (by decide) rfl (Nat.le_of_ble_eq_true rfl) tw_7_184 ?_
  intro p e s m args below meth c hO
  show hz_G p l e 1 hz_z0 s m args below meth c w N 2 _ M 0 [(0, .ref (hz_ad w 178)), (1, .int a1)] []
  unfold f_X11_isValve at h
  refine hz_iload_n hO dX11_isValve_0 rfl 1 rfl ?_
  refine hz_iconst (v := (0 : Int32)) hO dX11_isValve_1 (by decide) ?_
  refine hz_aload_n hO dX11_isValve_2 rfl 0 rfl ?_
  refine hz_getR (k := 0) hO 179 hz_K_9 hz_sh_178 (hz_lt_178 hN) rfl (Nat.le_of_ble_eq_true rfl) tw_6_229 rfl dX11_isValve_3 ?_
  refine hz_iconst (v := (3 : Int32)) hO dX11_isValve_6 (by decide) ?_
  refine hz_iald hO hz_sh_179 (hz_lt_179 hN) (by decide) dX11_isValve_7 ?_
  refine hz_iconst (v := (1 : Int32)) hO dX11_isValve_8 (by decide) ?_
  refine hz_isub hO dX11_isValve_9 ?_
  obtain ⟨r1, M2, hq3, h⟩ := hz_ct_e h
  refine hz_callSi (as := [.int a1, .int (0 : Int32), .int ((M 179 (Int32.toNatClampNeg (3 : Int32))) - (1 : Int32))]) (rest := []) hO (c_X11_in l w hN a1 (0 : Int32) ((M 179 (Int32.toNatClampNeg (3 : Int32))) - (1 : Int32)) hq3) hz_cal_X11_in tw_6_171 (Nat.le_of_ble_eq_true rfl) rfl rfl (Nat.le_of_ble_eq_true rfl) dX11_isValve_10 ?_
  obtain ⟨hg4, h⟩ := hz_gd_e h
  exact hz_nameM (hz_some_e h).2.symm (hz_name (hz_some_e h).1.symm (hz_zret hO (by rw [← (hz_some_e h).1]; exact hg4) dX11_isValve_13))
def f_X11_isStep (a1 : Int32) (M : hz_M) : hz_O :=
  hz_ct (f_X11_in a1 (1 : Int32) (M 179 (Int32.toNatClampNeg (4 : Int32))) M) fun r1 M2 =>
  hz_gd (hz_bt r1) <|
  some (r1, M2)
set_option maxRecDepth 100000 in
set_option maxHeartbeats 4000000 in
theorem c_X11_isStep (l : Launch) (w : hz_C) {N : Nat} (hN : 193 ≤ N) (a1 : Int32) {M : hz_M} {rE : Int32} {ME : hz_M} (h : f_X11_isStep a1 M = some (rE, ME)) : hz_Ct l yX11_isStep cX11_isStep 2 (some .boolean) 1 w N [.ref (hz_ad w 178), .int a1] M (hz_Qi w N rE ME) := by
  refine hz_ofW (by decide) rfl (Nat.le_of_ble_eq_true rfl) tw_8_17 ?_
  intro p e s m args below meth c hO
  show hz_G p l e 1 hz_z0 s m args below meth c w N 2 _ M 0 [(0, .ref (hz_ad w 178)), (1, .int a1)] []
  unfold f_X11_isStep at h
  refine hz_iload_n hO dX11_isStep_0 rfl 1 rfl ?_
  refine hz_iconst (v := (1 : Int32)) hO dX11_isStep_1 (by decide) ?_
  refine hz_aload_n hO dX11_isStep_2 rfl 0 rfl ?_
  refine hz_getR (k := 0) hO 179 hz_K_9 hz_sh_178 (hz_lt_178 hN) rfl (Nat.le_of_ble_eq_true rfl) tw_6_229 rfl dX11_isStep_3 ?_
  refine hz_iconst (v := (4 : Int32)) hO dX11_isStep_6 (by decide) ?_
  refine hz_iald hO hz_sh_179 (hz_lt_179 hN) (by decide) dX11_isStep_7 ?_
  obtain ⟨r1, M2, hq3, h⟩ := hz_ct_e h
  refine hz_callSi (as := [.int a1, .int (1 : Int32), .int (M 179 (Int32.toNatClampNeg (4 : Int32)))]) (rest := []) hO (c_X11_in l w hN a1 (1 : Int32) (M 179 (Int32.toNatClampNeg (4 : Int32))) hq3) hz_cal_X11_in tw_6_171 (Nat.le_of_ble_eq_true rfl) rfl rfl (Nat.le_of_ble_eq_true rfl) dX11_isStep_8 ?_
  obtain ⟨hg4, h⟩ := hz_gd_e h
  exact hz_nameM (hz_some_e h).2.symm (hz_name (hz_some_e h).1.symm (hz_zret hO (by rw [← (hz_some_e h).1]; exact hg4) dX11_isStep_11))
def f_X11_towelOn_L2 : Nat → Int32 → Int32 → hz_M → hz_O
  | 0, _, _, _ => none
  | n + 1, v1_1, v2_2, M3 =>
    if (M3 179 (Int32.toNatClampNeg (2 : Int32))) ≤ v2_2 then
      some ((-1 : Int32), M3)
    else
      hz_ct (f_X11_ofT v2_2 (1 : Int32) M3) fun r5 M6 =>
      if r5 = v1_1 then
        some (v2_2, M6)
      else
        hz_lt (v2_2 + (1 : Int32)) fun x9 =>
        f_X11_towelOn_L2 n v1_1 x9 M6
def f_X11_towelOn (a1 : Int32) (M : hz_M) : hz_O :=
  f_X11_towelOn_L2 hz_FU a1 (0 : Int32) M
set_option maxRecDepth 100000 in
set_option maxHeartbeats 4000000 in
theorem g_X11_towelOn_L2 {p : Program} {l : Launch} {e : Env} {s : State} {m : MethodId} {args : Array Value} {below : List Frame} {meth : Method} {c : Code} {w : hz_C} {N : Nat} (hN : 193 ≤ N) {rE : Int32} {ME : hz_M} (hO : hz_Ok p s m args meth c w cX11_towelOn 3 RX11 (some .int)) : ∀ (n : Nat) (v1_1 : Int32) (v2_2 : Int32) (M3 : hz_M), f_X11_towelOn_L2 n v1_1 v2_2 M3 = some (rE, ME) → hz_G p l e 1 hz_z0 s m args below meth c w N 3 (MQ below (hz_Qi w N rE ME) args s 0 0 (hz_A w)) M3 2 [(0, .ref (hz_ad w 178)), (1, .int v1_1), (2, .int v2_2)] [] := by
  intro n
  induction n with
  | zero =>
    intro v1_1 v2_2 M3 h
    rw [f_X11_towelOn_L2] at h
    cases h
  | succ n ih =>
    intro v1_1 v2_2 M3 h
    rw [f_X11_towelOn_L2] at h
    refine hz_iload_n hO dX11_towelOn_2 rfl 2 rfl ?_
    refine hz_aload_n hO dX11_towelOn_3 rfl 0 rfl ?_
    refine hz_getR (k := 0) hO 179 hz_K_9 hz_sh_178 (hz_lt_178 hN) rfl (Nat.le_of_ble_eq_true rfl) tw_6_229 rfl dX11_towelOn_4 ?_
    refine hz_iconst (v := (2 : Int32)) hO dX11_towelOn_7 (by decide) ?_
    refine hz_iald hO hz_sh_179 (hz_lt_179 hN) (by decide) dX11_towelOn_8 ?_
    refine hz_icmp_ge (tgt := 30) hO dX11_towelOn_9 (by decide) (fun hc4 => ?_) (fun hc4 => ?_)
    · rw [if_pos hc4] at h
      refine hz_iconst (v := (-1 : Int32)) hO dX11_towelOn_30 (by decide) ?_
      exact hz_nameM (hz_some_e h).2.symm (hz_name (hz_some_e h).1.symm (hz_iret hO dX11_towelOn_31))
    · rw [if_neg hc4] at h
      refine hz_aload_n hO dX11_towelOn_12 rfl 0 rfl ?_
      refine hz_iload_n hO dX11_towelOn_13 rfl 2 rfl ?_
      refine hz_iconst (v := (1 : Int32)) hO dX11_towelOn_14 (by decide) ?_
      obtain ⟨r5, M6, hq7, h⟩ := hz_ct_e h
      refine hz_callVi (as := [.int v2_2, .int (1 : Int32)]) (rest := []) hO (c_X11_ofT l w hN v2_2 (1 : Int32) hq7) hz_cal_X11_ofT hz_K_9 hz_sh_178 (hz_lt_178 hN) tw_7_161 (Nat.le_of_ble_eq_true rfl) rfl rfl (Nat.le_of_ble_eq_true rfl) dX11_towelOn_15 ?_
      refine hz_iload_n hO dX11_towelOn_18 rfl 1 rfl ?_
      refine hz_icmp_ne (tgt := 24) hO dX11_towelOn_19 (by decide) (fun hc8 => ?_) (fun hc8 => ?_)
      · rw [if_neg hc8] at h
        obtain ⟨x9, h_x9, h⟩ := hz_lt_e h
        refine hz_iinc (k := 2) (v := x9) (ls1 := [(2, .int x9), (0, .ref (hz_ad w 178)), (1, .int v1_1)]) hO dX11_towelOn_24 rfl (by rw [h_x9]; rfl) (Nat.le_of_ble_eq_true rfl) rfl ?_
        refine hz_goto (tgt := 2) hO dX11_towelOn_27 (by decide) ?_
        exact hz_ls [1, 2, 0] rfl (ih v1_1 x9 M6 h)
      · rw [if_pos hc8] at h
        refine hz_iload_n hO dX11_towelOn_22 rfl 2 rfl ?_
        exact hz_nameM (hz_some_e h).2.symm (hz_name (hz_some_e h).1.symm (hz_iret hO dX11_towelOn_23))
set_option maxRecDepth 100000 in
set_option maxHeartbeats 4000000 in
theorem c_X11_towelOn (l : Launch) (w : hz_C) {N : Nat} (hN : 193 ≤ N) (a1 : Int32) {M : hz_M} {rE : Int32} {ME : hz_M} (h : f_X11_towelOn a1 M = some (rE, ME)) : hz_Ct l yX11_towelOn cX11_towelOn 3 (some .int) 1 w N [.ref (hz_ad w 178), .int a1] M (hz_Qi w N rE ME) := by
  refine hz_ofW (by decide) rfl (Nat.le_of_ble_eq_true rfl) tw_7_176 ?_
  intro p e s m args below meth c hO
  show hz_G p l e 1 hz_z0 s m args below meth c w N 3 _ M 0 [(0, .ref (hz_ad w 178)), (1, .int a1)] []
  unfold f_X11_towelOn at h
  refine hz_iconst (v := (0 : Int32)) hO dX11_towelOn_0 (by decide) ?_
  refine hz_istore_n (ls1 := [(2, .int (0 : Int32)), (0, .ref (hz_ad w 178)), (1, .int a1)]) hO dX11_towelOn_1 rfl (Nat.le_of_ble_eq_true rfl) rfl ?_
  exact hz_ls [1, 2, 0] rfl (g_X11_towelOn_L2 hN hO _ a1 (0 : Int32) M h)
def f_X11_holderOf_L2 : Nat → Int32 → Int32 → hz_M → hz_O
  | 0, _, _, _ => none
  | n + 1, v1_1, v2_2, M3 =>
    if (M3 179 (Int32.toNatClampNeg (11 : Int32))) ≤ v2_2 then
      some ((-1 : Int32), M3)
    else
      hz_ct (f_X11_of v2_2 (4 : Int32) M3) fun r5 M6 =>
      if r5 = v1_1 then
        some (v2_2, M6)
      else
        hz_lt (v2_2 + (1 : Int32)) fun x9 =>
        f_X11_holderOf_L2 n v1_1 x9 M6
def f_X11_holderOf (a1 : Int32) (M : hz_M) : hz_O :=
  f_X11_holderOf_L2 hz_FU a1 (0 : Int32) M
set_option maxRecDepth 100000 in
set_option maxHeartbeats 4000000 in
theorem g_X11_holderOf_L2 {p : Program} {l : Launch} {e : Env} {s : State} {m : MethodId} {args : Array Value} {below : List Frame} {meth : Method} {c : Code} {w : hz_C} {N : Nat} (hN : 193 ≤ N) {rE : Int32} {ME : hz_M} (hO : hz_Ok p s m args meth c w cX11_holderOf 3 RX11 (some .int)) : ∀ (n : Nat) (v1_1 : Int32) (v2_2 : Int32) (M3 : hz_M), f_X11_holderOf_L2 n v1_1 v2_2 M3 = some (rE, ME) → hz_G p l e 1 hz_z0 s m args below meth c w N 3 (MQ below (hz_Qi w N rE ME) args s 0 0 (hz_A w)) M3 2 [(0, .ref (hz_ad w 178)), (1, .int v1_1), (2, .int v2_2)] [] := by
  intro n
  induction n with
  | zero =>
    intro v1_1 v2_2 M3 h
    rw [f_X11_holderOf_L2] at h
    cases h
  | succ n ih =>
    intro v1_1 v2_2 M3 h
    rw [f_X11_holderOf_L2] at h
    refine hz_iload_n hO dX11_holderOf_2 rfl 2 rfl ?_
    refine hz_aload_n hO dX11_holderOf_3 rfl 0 rfl ?_
    refine hz_getR (k := 0) hO 179 hz_K_9 hz_sh_178 (hz_lt_178 hN) rfl (Nat.le_of_ble_eq_true rfl) tw_6_229 rfl dX11_holderOf_4 ?_
    refine hz_bipush (v := (11 : Int32)) hO dX11_holderOf_7 (by decide) ?_
    refine hz_iald hO hz_sh_179 (hz_lt_179 hN) (by decide) dX11_holderOf_9 ?_
    refine hz_icmp_ge (tgt := 31) hO dX11_holderOf_10 (by decide) (fun hc4 => ?_) (fun hc4 => ?_)
    · rw [if_pos hc4] at h
      refine hz_iconst (v := (-1 : Int32)) hO dX11_holderOf_31 (by decide) ?_
      exact hz_nameM (hz_some_e h).2.symm (hz_name (hz_some_e h).1.symm (hz_iret hO dX11_holderOf_32))
    · rw [if_neg hc4] at h
      refine hz_aload_n hO dX11_holderOf_13 rfl 0 rfl ?_
      refine hz_iload_n hO dX11_holderOf_14 rfl 2 rfl ?_
      refine hz_iconst (v := (4 : Int32)) hO dX11_holderOf_15 (by decide) ?_
      obtain ⟨r5, M6, hq7, h⟩ := hz_ct_e h
      refine hz_callVi (as := [.int v2_2, .int (4 : Int32)]) (rest := []) hO (c_X11_of l w hN v2_2 (4 : Int32) hq7) hz_cal_X11_of hz_K_9 hz_sh_178 (hz_lt_178 hN) tw_6_217 (Nat.le_of_ble_eq_true rfl) rfl rfl (Nat.le_of_ble_eq_true rfl) dX11_holderOf_16 ?_
      refine hz_iload_n hO dX11_holderOf_19 rfl 1 rfl ?_
      refine hz_icmp_ne (tgt := 25) hO dX11_holderOf_20 (by decide) (fun hc8 => ?_) (fun hc8 => ?_)
      · rw [if_neg hc8] at h
        obtain ⟨x9, h_x9, h⟩ := hz_lt_e h
        refine hz_iinc (k := 2) (v := x9) (ls1 := [(2, .int x9), (0, .ref (hz_ad w 178)), (1, .int v1_1)]) hO dX11_holderOf_25 rfl (by rw [h_x9]; rfl) (Nat.le_of_ble_eq_true rfl) rfl ?_
        refine hz_goto (tgt := 2) hO dX11_holderOf_28 (by decide) ?_
        exact hz_ls [1, 2, 0] rfl (ih v1_1 x9 M6 h)
      · rw [if_pos hc8] at h
        refine hz_iload_n hO dX11_holderOf_23 rfl 2 rfl ?_
        exact hz_nameM (hz_some_e h).2.symm (hz_name (hz_some_e h).1.symm (hz_iret hO dX11_holderOf_24))
set_option maxRecDepth 100000 in
set_option maxHeartbeats 4000000 in
theorem c_X11_holderOf (l : Launch) (w : hz_C) {N : Nat} (hN : 193 ≤ N) (a1 : Int32) {M : hz_M} {rE : Int32} {ME : hz_M} (h : f_X11_holderOf a1 M = some (rE, ME)) : hz_Ct l yX11_holderOf cX11_holderOf 3 (some .int) 1 w N [.ref (hz_ad w 178), .int a1] M (hz_Qi w N rE ME) := by
  refine hz_ofW (by decide) rfl (Nat.le_of_ble_eq_true rfl) tw_7_168 ?_
  intro p e s m args below meth c hO
  show hz_G p l e 1 hz_z0 s m args below meth c w N 3 _ M 0 [(0, .ref (hz_ad w 178)), (1, .int a1)] []
  unfold f_X11_holderOf at h
  refine hz_iconst (v := (0 : Int32)) hO dX11_holderOf_0 (by decide) ?_
  refine hz_istore_n (ls1 := [(2, .int (0 : Int32)), (0, .ref (hz_ad w 178)), (1, .int a1)]) hO dX11_holderOf_1 rfl (Nat.le_of_ble_eq_true rfl) rfl ?_
  exact hz_ls [1, 2, 0] rfl (g_X11_holderOf_L2 hN hO _ a1 (0 : Int32) M h)
def f_X11_keeperOf_L2 : Nat → Int32 → Int32 → hz_M → hz_O
  | 0, _, _, _ => none
  | n + 1, v1_1, v2_2, M3 =>
    if (M3 179 (Int32.toNatClampNeg (11 : Int32))) ≤ v2_2 then
      some ((-1 : Int32), M3)
    else
      hz_ct (f_X11_of v2_2 (3 : Int32) M3) fun r5 M6 =>
      if r5 = v1_1 then
        some (v2_2, M6)
      else
        hz_lt (v2_2 + (1 : Int32)) fun x9 =>
        f_X11_keeperOf_L2 n v1_1 x9 M6
def f_X11_keeperOf (a1 : Int32) (M : hz_M) : hz_O :=
  f_X11_keeperOf_L2 hz_FU a1 (0 : Int32) M
set_option maxRecDepth 100000 in
set_option maxHeartbeats 4000000 in
theorem g_X11_keeperOf_L2 {p : Program} {l : Launch} {e : Env} {s : State} {m : MethodId} {args : Array Value} {below : List Frame} {meth : Method} {c : Code} {w : hz_C} {N : Nat} (hN : 193 ≤ N) {rE : Int32} {ME : hz_M} (hO : hz_Ok p s m args meth c w cX11_keeperOf 3 RX11 (some .int)) : ∀ (n : Nat) (v1_1 : Int32) (v2_2 : Int32) (M3 : hz_M), f_X11_keeperOf_L2 n v1_1 v2_2 M3 = some (rE, ME) → hz_G p l e 1 hz_z0 s m args below meth c w N 3 (MQ below (hz_Qi w N rE ME) args s 0 0 (hz_A w)) M3 2 [(0, .ref (hz_ad w 178)), (1, .int v1_1), (2, .int v2_2)] [] := by
  intro n
  induction n with
  | zero =>
    intro v1_1 v2_2 M3 h
    rw [f_X11_keeperOf_L2] at h
    cases h
  | succ n ih =>
    intro v1_1 v2_2 M3 h
    rw [f_X11_keeperOf_L2] at h
    refine hz_iload_n hO dX11_keeperOf_2 rfl 2 rfl ?_
    refine hz_aload_n hO dX11_keeperOf_3 rfl 0 rfl ?_
    refine hz_getR (k := 0) hO 179 hz_K_9 hz_sh_178 (hz_lt_178 hN) rfl (Nat.le_of_ble_eq_true rfl) tw_6_229 rfl dX11_keeperOf_4 ?_
    refine hz_bipush (v := (11 : Int32)) hO dX11_keeperOf_7 (by decide) ?_
    refine hz_iald hO hz_sh_179 (hz_lt_179 hN) (by decide) dX11_keeperOf_9 ?_
    refine hz_icmp_ge (tgt := 31) hO dX11_keeperOf_10 (by decide) (fun hc4 => ?_) (fun hc4 => ?_)
    · rw [if_pos hc4] at h
      refine hz_iconst (v := (-1 : Int32)) hO dX11_keeperOf_31 (by decide) ?_
      exact hz_nameM (hz_some_e h).2.symm (hz_name (hz_some_e h).1.symm (hz_iret hO dX11_keeperOf_32))
    · rw [if_neg hc4] at h
      refine hz_aload_n hO dX11_keeperOf_13 rfl 0 rfl ?_
      refine hz_iload_n hO dX11_keeperOf_14 rfl 2 rfl ?_
      refine hz_iconst (v := (3 : Int32)) hO dX11_keeperOf_15 (by decide) ?_
      obtain ⟨r5, M6, hq7, h⟩ := hz_ct_e h
      refine hz_callVi (as := [.int v2_2, .int (3 : Int32)]) (rest := []) hO (c_X11_of l w hN v2_2 (3 : Int32) hq7) hz_cal_X11_of hz_K_9 hz_sh_178 (hz_lt_178 hN) tw_6_217 (Nat.le_of_ble_eq_true rfl) rfl rfl (Nat.le_of_ble_eq_true rfl) dX11_keeperOf_16 ?_
      refine hz_iload_n hO dX11_keeperOf_19 rfl 1 rfl ?_
      refine hz_icmp_ne (tgt := 25) hO dX11_keeperOf_20 (by decide) (fun hc8 => ?_) (fun hc8 => ?_)
      · rw [if_neg hc8] at h
        obtain ⟨x9, h_x9, h⟩ := hz_lt_e h
        refine hz_iinc (k := 2) (v := x9) (ls1 := [(2, .int x9), (0, .ref (hz_ad w 178)), (1, .int v1_1)]) hO dX11_keeperOf_25 rfl (by rw [h_x9]; rfl) (Nat.le_of_ble_eq_true rfl) rfl ?_
        refine hz_goto (tgt := 2) hO dX11_keeperOf_28 (by decide) ?_
        exact hz_ls [1, 2, 0] rfl (ih v1_1 x9 M6 h)
      · rw [if_pos hc8] at h
        refine hz_iload_n hO dX11_keeperOf_23 rfl 2 rfl ?_
        exact hz_nameM (hz_some_e h).2.symm (hz_name (hz_some_e h).1.symm (hz_iret hO dX11_keeperOf_24))
set_option maxRecDepth 100000 in
set_option maxHeartbeats 4000000 in
theorem c_X11_keeperOf (l : Launch) (w : hz_C) {N : Nat} (hN : 193 ≤ N) (a1 : Int32) {M : hz_M} {rE : Int32} {ME : hz_M} (h : f_X11_keeperOf a1 M = some (rE, ME)) : hz_Ct l yX11_keeperOf cX11_keeperOf 3 (some .int) 1 w N [.ref (hz_ad w 178), .int a1] M (hz_Qi w N rE ME) := by
  refine hz_ofW (by decide) rfl (Nat.le_of_ble_eq_true rfl) tw_8_9 ?_
  intro p e s m args below meth c hO
  show hz_G p l e 1 hz_z0 s m args below meth c w N 3 _ M 0 [(0, .ref (hz_ad w 178)), (1, .int a1)] []
  unfold f_X11_keeperOf at h
  refine hz_iconst (v := (0 : Int32)) hO dX11_keeperOf_0 (by decide) ?_
  refine hz_istore_n (ls1 := [(2, .int (0 : Int32)), (0, .ref (hz_ad w 178)), (1, .int a1)]) hO dX11_keeperOf_1 rfl (Nat.le_of_ble_eq_true rfl) rfl ?_
  exact hz_ls [1, 2, 0] rfl (g_X11_keeperOf_L2 hN hO _ a1 (0 : Int32) M h)
def f_X11_freeLocker_L2 : Nat → Int32 → hz_M → hz_O
  | 0, _, _ => none
  | n + 1, v1_1, M2 =>
    if (M2 179 (Int32.toNatClampNeg (0 : Int32))) ≤ v1_1 then
      some ((-1 : Int32), M2)
    else
      hz_ct (f_X11_keeperOf v1_1 M2) fun r4 M5 =>
      if r4 = (-1 : Int32) then
        some (v1_1, M5)
      else
        hz_lt (v1_1 + (1 : Int32)) fun x8 =>
        f_X11_freeLocker_L2 n x8 M5
def f_X11_freeLocker (M : hz_M) : hz_O :=
  f_X11_freeLocker_L2 hz_FU (0 : Int32) M
set_option maxRecDepth 100000 in
set_option maxHeartbeats 4000000 in
theorem g_X11_freeLocker_L2 {p : Program} {l : Launch} {e : Env} {s : State} {m : MethodId} {args : Array Value} {below : List Frame} {meth : Method} {c : Code} {w : hz_C} {N : Nat} (hN : 193 ≤ N) {rE : Int32} {ME : hz_M} (hO : hz_Ok p s m args meth c w cX11_freeLocker 2 RX11 (some .int)) : ∀ (n : Nat) (v1_1 : Int32) (M2 : hz_M), f_X11_freeLocker_L2 n v1_1 M2 = some (rE, ME) → hz_G p l e 2 hz_z0 s m args below meth c w N 2 (MQ below (hz_Qi w N rE ME) args s 0 0 (hz_A w)) M2 2 [(0, .ref (hz_ad w 178)), (1, .int v1_1)] [] := by
  intro n
  induction n with
  | zero =>
    intro v1_1 M2 h
    rw [f_X11_freeLocker_L2] at h
    cases h
  | succ n ih =>
    intro v1_1 M2 h
    rw [f_X11_freeLocker_L2] at h
    refine hz_iload_n hO dX11_freeLocker_2 rfl 1 rfl ?_
    refine hz_aload_n hO dX11_freeLocker_3 rfl 0 rfl ?_
    refine hz_getR (k := 0) hO 179 hz_K_9 hz_sh_178 (hz_lt_178 hN) rfl (Nat.le_of_ble_eq_true rfl) tw_6_229 rfl dX11_freeLocker_4 ?_
    refine hz_iconst (v := (0 : Int32)) hO dX11_freeLocker_7 (by decide) ?_
    refine hz_iald hO hz_sh_179 (hz_lt_179 hN) (by decide) dX11_freeLocker_8 ?_
    refine hz_icmp_ge (tgt := 29) hO dX11_freeLocker_9 (by decide) (fun hc3 => ?_) (fun hc3 => ?_)
    · rw [if_pos hc3] at h
      refine hz_iconst (v := (-1 : Int32)) hO dX11_freeLocker_29 (by decide) ?_
      exact hz_nameM (hz_some_e h).2.symm (hz_name (hz_some_e h).1.symm (hz_iret hO dX11_freeLocker_30))
    · rw [if_neg hc3] at h
      refine hz_aload_n hO dX11_freeLocker_12 rfl 0 rfl ?_
      refine hz_iload_n hO dX11_freeLocker_13 rfl 1 rfl ?_
      obtain ⟨r4, M5, hq6, h⟩ := hz_ct_e h
      refine hz_callVi (as := [.int v1_1]) (rest := []) hO (c_X11_keeperOf l w hN v1_1 hq6) hz_cal_X11_keeperOf hz_K_9 hz_sh_178 (hz_lt_178 hN) tw_8_6 (Nat.le_of_ble_eq_true rfl) rfl rfl (Nat.le_of_ble_eq_true rfl) dX11_freeLocker_14 ?_
      refine hz_iconst (v := (-1 : Int32)) hO dX11_freeLocker_17 (by decide) ?_
      refine hz_icmp_ne (tgt := 23) hO dX11_freeLocker_18 (by decide) (fun hc7 => ?_) (fun hc7 => ?_)
      · rw [if_neg hc7] at h
        obtain ⟨x8, h_x8, h⟩ := hz_lt_e h
        refine hz_iinc (k := 1) (v := x8) (ls1 := [(1, .int x8), (0, .ref (hz_ad w 178))]) hO dX11_freeLocker_23 rfl (by rw [h_x8]; rfl) (Nat.le_of_ble_eq_true rfl) rfl ?_
        refine hz_goto (tgt := 2) hO dX11_freeLocker_26 (by decide) ?_
        exact hz_ls [1, 0] rfl (ih x8 M5 h)
      · rw [if_pos hc7] at h
        refine hz_iload_n hO dX11_freeLocker_21 rfl 1 rfl ?_
        exact hz_nameM (hz_some_e h).2.symm (hz_name (hz_some_e h).1.symm (hz_iret hO dX11_freeLocker_22))
set_option maxRecDepth 100000 in
set_option maxHeartbeats 4000000 in
theorem c_X11_freeLocker (l : Launch) (w : hz_C) {N : Nat} (hN : 193 ≤ N) {M : hz_M} {rE : Int32} {ME : hz_M} (h : f_X11_freeLocker M = some (rE, ME)) : hz_Ct l yX11_freeLocker cX11_freeLocker 2 (some .int) 2 w N [.ref (hz_ad w 178)] M (hz_Qi w N rE ME) := by
  refine hz_ofW (by decide) rfl (Nat.le_of_ble_eq_true rfl) tw_8_5 ?_
  intro p e s m args below meth c hO
  show hz_G p l e 2 hz_z0 s m args below meth c w N 2 _ M 0 [(0, .ref (hz_ad w 178))] []
  unfold f_X11_freeLocker at h
  refine hz_iconst (v := (0 : Int32)) hO dX11_freeLocker_0 (by decide) ?_
  refine hz_istore_n (ls1 := [(1, .int (0 : Int32)), (0, .ref (hz_ad w 178))]) hO dX11_freeLocker_1 rfl (Nat.le_of_ble_eq_true rfl) rfl ?_
  exact hz_ls [1, 0] rfl (g_X11_freeLocker_L2 hN hO _ (0 : Int32) M h)
def f_X11_freePeg_L2 : Nat → Int32 → hz_M → hz_O
  | 0, _, _ => none
  | n + 1, v1_1, M2 =>
    if (M2 179 (Int32.toNatClampNeg (1 : Int32))) ≤ v1_1 then
      some ((-1 : Int32), M2)
    else
      hz_ct (f_X11_towelOn v1_1 M2) fun r4 M5 =>
      if r4 = (-1 : Int32) then
        some (v1_1, M5)
      else
        hz_lt (v1_1 + (1 : Int32)) fun x8 =>
        f_X11_freePeg_L2 n x8 M5
def f_X11_freePeg (M : hz_M) : hz_O :=
  f_X11_freePeg_L2 hz_FU (0 : Int32) M
set_option maxRecDepth 100000 in
set_option maxHeartbeats 4000000 in
theorem g_X11_freePeg_L2 {p : Program} {l : Launch} {e : Env} {s : State} {m : MethodId} {args : Array Value} {below : List Frame} {meth : Method} {c : Code} {w : hz_C} {N : Nat} (hN : 193 ≤ N) {rE : Int32} {ME : hz_M} (hO : hz_Ok p s m args meth c w cX11_freePeg 2 RX11 (some .int)) : ∀ (n : Nat) (v1_1 : Int32) (M2 : hz_M), f_X11_freePeg_L2 n v1_1 M2 = some (rE, ME) → hz_G p l e 2 hz_z0 s m args below meth c w N 2 (MQ below (hz_Qi w N rE ME) args s 0 0 (hz_A w)) M2 2 [(0, .ref (hz_ad w 178)), (1, .int v1_1)] [] := by
  intro n
  induction n with
  | zero =>
    intro v1_1 M2 h
    rw [f_X11_freePeg_L2] at h
    cases h
  | succ n ih =>
    intro v1_1 M2 h
    rw [f_X11_freePeg_L2] at h
    refine hz_iload_n hO dX11_freePeg_2 rfl 1 rfl ?_
    refine hz_aload_n hO dX11_freePeg_3 rfl 0 rfl ?_
    refine hz_getR (k := 0) hO 179 hz_K_9 hz_sh_178 (hz_lt_178 hN) rfl (Nat.le_of_ble_eq_true rfl) tw_6_229 rfl dX11_freePeg_4 ?_
    refine hz_iconst (v := (1 : Int32)) hO dX11_freePeg_7 (by decide) ?_
    refine hz_iald hO hz_sh_179 (hz_lt_179 hN) (by decide) dX11_freePeg_8 ?_
    refine hz_icmp_ge (tgt := 29) hO dX11_freePeg_9 (by decide) (fun hc3 => ?_) (fun hc3 => ?_)
    · rw [if_pos hc3] at h
      refine hz_iconst (v := (-1 : Int32)) hO dX11_freePeg_29 (by decide) ?_
      exact hz_nameM (hz_some_e h).2.symm (hz_name (hz_some_e h).1.symm (hz_iret hO dX11_freePeg_30))
    · rw [if_neg hc3] at h
      refine hz_aload_n hO dX11_freePeg_12 rfl 0 rfl ?_
      refine hz_iload_n hO dX11_freePeg_13 rfl 1 rfl ?_
      obtain ⟨r4, M5, hq6, h⟩ := hz_ct_e h
      refine hz_callVi (as := [.int v1_1]) (rest := []) hO (c_X11_towelOn l w hN v1_1 hq6) hz_cal_X11_towelOn hz_K_9 hz_sh_178 (hz_lt_178 hN) tw_7_173 (Nat.le_of_ble_eq_true rfl) rfl rfl (Nat.le_of_ble_eq_true rfl) dX11_freePeg_14 ?_
      refine hz_iconst (v := (-1 : Int32)) hO dX11_freePeg_17 (by decide) ?_
      refine hz_icmp_ne (tgt := 23) hO dX11_freePeg_18 (by decide) (fun hc7 => ?_) (fun hc7 => ?_)
      · rw [if_neg hc7] at h
        obtain ⟨x8, h_x8, h⟩ := hz_lt_e h
        refine hz_iinc (k := 1) (v := x8) (ls1 := [(1, .int x8), (0, .ref (hz_ad w 178))]) hO dX11_freePeg_23 rfl (by rw [h_x8]; rfl) (Nat.le_of_ble_eq_true rfl) rfl ?_
        refine hz_goto (tgt := 2) hO dX11_freePeg_26 (by decide) ?_
        exact hz_ls [1, 0] rfl (ih x8 M5 h)
      · rw [if_pos hc7] at h
        refine hz_iload_n hO dX11_freePeg_21 rfl 1 rfl ?_
        exact hz_nameM (hz_some_e h).2.symm (hz_name (hz_some_e h).1.symm (hz_iret hO dX11_freePeg_22))
set_option maxRecDepth 100000 in
set_option maxHeartbeats 4000000 in
theorem c_X11_freePeg (l : Launch) (w : hz_C) {N : Nat} (hN : 193 ≤ N) {M : hz_M} {rE : Int32} {ME : hz_M} (h : f_X11_freePeg M = some (rE, ME)) : hz_Ct l yX11_freePeg cX11_freePeg 2 (some .int) 2 w N [.ref (hz_ad w 178)] M (hz_Qi w N rE ME) := by
  refine hz_ofW (by decide) rfl (Nat.le_of_ble_eq_true rfl) tw_7_172 ?_
  intro p e s m args below meth c hO
  show hz_G p l e 2 hz_z0 s m args below meth c w N 2 _ M 0 [(0, .ref (hz_ad w 178))] []
  unfold f_X11_freePeg at h
  refine hz_iconst (v := (0 : Int32)) hO dX11_freePeg_0 (by decide) ?_
  refine hz_istore_n (ls1 := [(1, .int (0 : Int32)), (0, .ref (hz_ad w 178))]) hO dX11_freePeg_1 rfl (Nat.le_of_ble_eq_true rfl) rfl ?_
  exact hz_ls [1, 0] rfl (g_X11_freePeg_L2 hN hO _ (0 : Int32) M h)
def f_X11_driestOne_L4 : Nat → Int32 → Int32 → hz_M → hz_O
  | 0, _, _, _ => none
  | n + 1, v1_1, v2_2, M3 =>
    if (M3 179 (Int32.toNatClampNeg (1 : Int32))) ≤ v2_2 then
      some (v1_1, M3)
    else
      hz_ct (f_X11_towelOn v2_2 M3) fun r5 M6 =>
      hz_jn (fun (v1_8 : Int32) (v2_9 : Int32) (M10 : hz_M) =>
        hz_lt (v2_9 + (1 : Int32)) fun x11 =>
        f_X11_driestOne_L4 n v1_8 x11 M10
        ) fun k12 =>
      if r5 = (-1 : Int32) then
        k12 v1_1 v2_2 M6
      else
        hz_ct (f_X11_ofT r5 (0 : Int32) M6) fun r14 M15 =>
        if (2 : Int32) < r14 then
          k12 v1_1 v2_2 M15
        else
          hz_jn (fun (v2_18 : Int32) (v3_19 : Int32) (M20 : hz_M) =>
            k12 v3_19 v2_18 M20
            ) fun k21 =>
          if v1_1 = (-1 : Int32) then
            k21 v2_2 r5 M15
          else
            hz_ct (f_X11_ofT r5 (0 : Int32) M15) fun r23 M24 =>
            hz_ct (f_X11_ofT v1_1 (0 : Int32) M24) fun r26 M27 =>
            if r26 ≤ r23 then
              k12 v1_1 v2_2 M27
            else
              k21 v2_2 r5 M27
def f_X11_driestOne (M : hz_M) : hz_O :=
  f_X11_driestOne_L4 hz_FU (-1 : Int32) (0 : Int32) M
set_option maxRecDepth 100000 in
set_option maxHeartbeats 4000000 in
theorem g_X11_driestOne_L4 {p : Program} {l : Launch} {e : Env} {s : State} {m : MethodId} {args : Array Value} {below : List Frame} {meth : Method} {c : Code} {w : hz_C} {N : Nat} (hN : 193 ≤ N) {rE : Int32} {ME : hz_M} (hO : hz_Ok p s m args meth c w cX11_driestOne 4 RX11 (some .int)) : ∀ (n : Nat) (v1_1 : Int32) (v2_2 : Int32) (M3 : hz_M), f_X11_driestOne_L4 n v1_1 v2_2 M3 = some (rE, ME) → hz_G p l e 2 hz_z0 s m args below meth c w N 4 (MQ below (hz_Qi w N rE ME) args s 0 0 (hz_A w)) M3 4 [(0, .ref (hz_ad w 178)), (1, .int v1_1), (2, .int v2_2)] [] := by
  intro n
  induction n with
  | zero =>
    intro v1_1 v2_2 M3 h
    rw [f_X11_driestOne_L4] at h
    cases h
  | succ n ih =>
    intro v1_1 v2_2 M3 h
    rw [f_X11_driestOne_L4] at h
    refine hz_iload_n hO dX11_driestOne_4 rfl 2 rfl ?_
    refine hz_aload_n hO dX11_driestOne_5 rfl 0 rfl ?_
    refine hz_getR (k := 0) hO 179 hz_K_9 hz_sh_178 (hz_lt_178 hN) rfl (Nat.le_of_ble_eq_true rfl) tw_6_229 rfl dX11_driestOne_6 ?_
    refine hz_iconst (v := (1 : Int32)) hO dX11_driestOne_9 (by decide) ?_
    refine hz_iald hO hz_sh_179 (hz_lt_179 hN) (by decide) dX11_driestOne_10 ?_
    refine hz_icmp_ge (tgt := 63) hO dX11_driestOne_11 (by decide) (fun hc4 => ?_) (fun hc4 => ?_)
    · rw [if_pos hc4] at h
      refine hz_iload_n hO dX11_driestOne_63 rfl 1 rfl ?_
      exact hz_nameM (hz_some_e h).2.symm (hz_name (hz_some_e h).1.symm (hz_iret hO dX11_driestOne_64))
    · rw [if_neg hc4] at h
      refine hz_aload_n hO dX11_driestOne_14 rfl 0 rfl ?_
      refine hz_iload_n hO dX11_driestOne_15 rfl 2 rfl ?_
      obtain ⟨r5, M6, hq7, h⟩ := hz_ct_e h
      refine hz_callVi (as := [.int v2_2]) (rest := []) hO (c_X11_towelOn l w hN v2_2 hq7) hz_cal_X11_towelOn hz_K_9 hz_sh_178 (hz_lt_178 hN) tw_7_173 (Nat.le_of_ble_eq_true rfl) rfl rfl (Nat.le_of_ble_eq_true rfl) dX11_driestOne_16 ?_
      refine hz_istore_n (ls1 := [(3, .int r5), (0, .ref (hz_ad w 178)), (1, .int v1_1), (2, .int v2_2)]) hO dX11_driestOne_19 rfl (Nat.le_of_ble_eq_true rfl) rfl ?_
      refine hz_iload_n hO dX11_driestOne_20 rfl 0 rfl ?_
      refine hz_iconst (v := (-1 : Int32)) hO dX11_driestOne_21 (by decide) ?_
      obtain ⟨k12, hk12, h⟩ := hz_jn_e h
      have gk12 : ∀ (v1_8 : Int32) (v2_9 : Int32) (M10 : hz_M), k12 v1_8 v2_9 M10 = some (rE, ME) → hz_G p l e 2 hz_z0 s m args below meth c w N 4 (MQ below (hz_Qi w N rE ME) args s 0 0 (hz_A w)) M10 57 [(0, .ref (hz_ad w 178)), (1, .int v1_8), (2, .int v2_9)] [] := by
        intro v1_8 v2_9 M10 h
        rw [hk12] at h
        dsimp only at h
        obtain ⟨x11, h_x11, h⟩ := hz_lt_e h
        refine hz_iinc (k := 2) (v := x11) (ls1 := [(2, .int x11), (0, .ref (hz_ad w 178)), (1, .int v1_8)]) hO dX11_driestOne_57 rfl (by rw [h_x11]; rfl) (Nat.le_of_ble_eq_true rfl) rfl ?_
        refine hz_goto (tgt := 4) hO dX11_driestOne_60 (by decide) ?_
        exact hz_ls [1, 2, 0] rfl (ih v1_8 x11 M10 h)
      clear hk12
      refine hz_icmp_eq (tgt := 57) hO dX11_driestOne_22 (by decide) (fun hc13 => ?_) (fun hc13 => ?_)
      · rw [if_pos hc13] at h
        exact hz_ls [1, 2, 3] rfl (gk12 v1_1 v2_2 M6 h)
      · rw [if_neg hc13] at h
        refine hz_aload_n hO dX11_driestOne_25 rfl 1 rfl ?_
        refine hz_iload_n hO dX11_driestOne_26 rfl 0 rfl ?_
        refine hz_iconst (v := (0 : Int32)) hO dX11_driestOne_27 (by decide) ?_
        obtain ⟨r14, M15, hq16, h⟩ := hz_ct_e h
        refine hz_callVi (as := [.int r5, .int (0 : Int32)]) (rest := []) hO (c_X11_ofT l w hN r5 (0 : Int32) hq16) hz_cal_X11_ofT hz_K_9 hz_sh_178 (hz_lt_178 hN) tw_7_161 (Nat.le_of_ble_eq_true rfl) rfl rfl (Nat.le_of_ble_eq_true rfl) dX11_driestOne_28 ?_
        refine hz_iconst (v := (2 : Int32)) hO dX11_driestOne_31 (by decide) ?_
        refine hz_icmp_gt (tgt := 57) hO dX11_driestOne_32 (by decide) (fun hc17 => ?_) (fun hc17 => ?_)
        · rw [if_pos hc17] at h
          exact hz_ls [1, 2, 3] rfl (gk12 v1_1 v2_2 M15 h)
        · rw [if_neg hc17] at h
          refine hz_iload_n hO dX11_driestOne_35 rfl 2 rfl ?_
          refine hz_iconst (v := (-1 : Int32)) hO dX11_driestOne_36 (by decide) ?_
          obtain ⟨k21, hk21, h⟩ := hz_jn_e h
          have gk21 : ∀ (v2_18 : Int32) (v3_19 : Int32) (M20 : hz_M), k21 v2_18 v3_19 M20 = some (rE, ME) → hz_G p l e 2 hz_z0 s m args below meth c w N 4 (MQ below (hz_Qi w N rE ME) args s 0 0 (hz_A w)) M20 55 [(0, .ref (hz_ad w 178)), (2, .int v2_18), (3, .int v3_19)] [] := by
            intro v2_18 v3_19 M20 h
            rw [hk21] at h
            dsimp only at h
            refine hz_iload_n hO dX11_driestOne_55 rfl 2 rfl ?_
            refine hz_istore_n (ls1 := [(1, .int v3_19), (0, .ref (hz_ad w 178)), (2, .int v2_18), (3, .int v3_19)]) hO dX11_driestOne_56 rfl (Nat.le_of_ble_eq_true rfl) rfl ?_
            exact hz_ls [1, 0, 2] rfl (gk12 v3_19 v2_18 M20 h)
          clear hk21
          refine hz_icmp_eq (tgt := 55) hO dX11_driestOne_37 (by decide) (fun hc22 => ?_) (fun hc22 => ?_)
          · rw [if_pos hc22] at h
            exact hz_ls [1, 3, 0] rfl (gk21 v2_2 r5 M15 h)
          · rw [if_neg hc22] at h
            refine hz_aload_n hO dX11_driestOne_40 rfl 1 rfl ?_
            refine hz_iload_n hO dX11_driestOne_41 rfl 0 rfl ?_
            refine hz_iconst (v := (0 : Int32)) hO dX11_driestOne_42 (by decide) ?_
            obtain ⟨r23, M24, hq25, h⟩ := hz_ct_e h
            refine hz_callVi (as := [.int r5, .int (0 : Int32)]) (rest := []) hO (c_X11_ofT l w hN r5 (0 : Int32) hq25) hz_cal_X11_ofT hz_K_9 hz_sh_178 (hz_lt_178 hN) tw_7_161 (Nat.le_of_ble_eq_true rfl) rfl rfl (Nat.le_of_ble_eq_true rfl) dX11_driestOne_43 ?_
            refine hz_aload_n hO dX11_driestOne_46 rfl 1 rfl ?_
            refine hz_iload_n hO dX11_driestOne_47 rfl 2 rfl ?_
            refine hz_iconst (v := (0 : Int32)) hO dX11_driestOne_48 (by decide) ?_
            obtain ⟨r26, M27, hq28, h⟩ := hz_ct_e h
            refine hz_callVi (as := [.int v1_1, .int (0 : Int32)]) (rest := [.int r23]) hO (c_X11_ofT l w hN v1_1 (0 : Int32) hq28) hz_cal_X11_ofT hz_K_9 hz_sh_178 (hz_lt_178 hN) tw_7_161 (Nat.le_of_ble_eq_true rfl) rfl rfl (Nat.le_of_ble_eq_true rfl) dX11_driestOne_49 ?_
            refine hz_icmp_ge (tgt := 57) hO dX11_driestOne_52 (by decide) (fun hc29 => ?_) (fun hc29 => ?_)
            · rw [if_pos hc29] at h
              exact hz_ls [1, 2, 3] rfl (gk12 v1_1 v2_2 M27 h)
            · rw [if_neg hc29] at h
              exact hz_ls [1, 3, 0] rfl (gk21 v2_2 r5 M27 h)
set_option maxRecDepth 100000 in
set_option maxHeartbeats 4000000 in
theorem c_X11_driestOne (l : Launch) (w : hz_C) {N : Nat} (hN : 193 ≤ N) {M : hz_M} {rE : Int32} {ME : hz_M} (h : f_X11_driestOne M = some (rE, ME)) : hz_Ct l yX11_driestOne cX11_driestOne 4 (some .int) 2 w N [.ref (hz_ad w 178)] M (hz_Qi w N rE ME) := by
  refine hz_ofW (by decide) rfl (Nat.le_of_ble_eq_true rfl) tw_8_13 ?_
  intro p e s m args below meth c hO
  show hz_G p l e 2 hz_z0 s m args below meth c w N 4 _ M 0 [(0, .ref (hz_ad w 178))] []
  unfold f_X11_driestOne at h
  refine hz_iconst (v := (-1 : Int32)) hO dX11_driestOne_0 (by decide) ?_
  refine hz_istore_n (ls1 := [(1, .int (-1 : Int32)), (0, .ref (hz_ad w 178))]) hO dX11_driestOne_1 rfl (Nat.le_of_ble_eq_true rfl) rfl ?_
  refine hz_iconst (v := (0 : Int32)) hO dX11_driestOne_2 (by decide) ?_
  refine hz_istore_n (ls1 := [(2, .int (0 : Int32)), (1, .int (-1 : Int32)), (0, .ref (hz_ad w 178))]) hO dX11_driestOne_3 rfl (Nat.le_of_ble_eq_true rfl) rfl ?_
  exact hz_ls [2, 1, 0] rfl (g_X11_driestOne_L4 hN hO _ (-1 : Int32) (0 : Int32) M h)
def f_X11_isInBasket (a1 : Int32) (M : hz_M) : hz_O :=
  hz_ct (f_X11_ofT a1 (1 : Int32) M) fun r1 M2 =>
  if r1 = (-1 : Int32) then
    hz_ct (f_X11_holderOf a1 M2) fun r5 M6 =>
    if r5 = (-1 : Int32) then
      some ((1 : Int32), M6)
    else
      some ((0 : Int32), M6)
  else
    some ((0 : Int32), M2)
set_option maxRecDepth 100000 in
set_option maxHeartbeats 4000000 in
theorem c_X11_isInBasket (l : Launch) (w : hz_C) {N : Nat} (hN : 193 ≤ N) (a1 : Int32) {M : hz_M} {rE : Int32} {ME : hz_M} (h : f_X11_isInBasket a1 M = some (rE, ME)) : hz_Ct l yX11_isInBasket cX11_isInBasket 2 (some .boolean) 2 w N [.ref (hz_ad w 178), .int a1] M (hz_Qi w N rE ME) := by
  refine hz_ofW (by decide) rfl (Nat.le_of_ble_eq_true rfl) tw_7_160 ?_
  intro p e s m args below meth c hO
  show hz_G p l e 2 hz_z0 s m args below meth c w N 2 _ M 0 [(0, .ref (hz_ad w 178)), (1, .int a1)] []
  unfold f_X11_isInBasket at h
  refine hz_aload_n hO dX11_isInBasket_0 rfl 0 rfl ?_
  refine hz_iload_n hO dX11_isInBasket_1 rfl 1 rfl ?_
  refine hz_iconst (v := (1 : Int32)) hO dX11_isInBasket_2 (by decide) ?_
  obtain ⟨r1, M2, hq3, h⟩ := hz_ct_e h
  refine hz_callVi (as := [.int a1, .int (1 : Int32)]) (rest := []) hO (c_X11_ofT l w hN a1 (1 : Int32) hq3) hz_cal_X11_ofT hz_K_9 hz_sh_178 (hz_lt_178 hN) tw_7_161 (Nat.le_of_ble_eq_true rfl) rfl rfl (Nat.le_of_ble_eq_true rfl) dX11_isInBasket_3 ?_
  refine hz_iconst (v := (-1 : Int32)) hO dX11_isInBasket_6 (by decide) ?_
  refine hz_icmp_ne (tgt := 23) hO dX11_isInBasket_7 (by decide) (fun hc4 => ?_) (fun hc4 => ?_)
  · rw [if_neg hc4] at h
    refine hz_iconst (v := (0 : Int32)) hO dX11_isInBasket_23 (by decide) ?_
    exact hz_nameM (hz_some_e h).2.symm (hz_name (hz_some_e h).1.symm (hz_zret hO (by rw [← (hz_some_e h).1]; decide) dX11_isInBasket_24))
  · rw [if_pos hc4] at h
    refine hz_aload_n hO dX11_isInBasket_10 rfl 0 rfl ?_
    refine hz_iload_n hO dX11_isInBasket_11 rfl 1 rfl ?_
    obtain ⟨r5, M6, hq7, h⟩ := hz_ct_e h
    refine hz_callVi (as := [.int a1]) (rest := []) hO (c_X11_holderOf l w hN a1 hq7) hz_cal_X11_holderOf hz_K_9 hz_sh_178 (hz_lt_178 hN) tw_7_165 (Nat.le_of_ble_eq_true rfl) rfl rfl (Nat.le_of_ble_eq_true rfl) dX11_isInBasket_12 ?_
    refine hz_iconst (v := (-1 : Int32)) hO dX11_isInBasket_15 (by decide) ?_
    refine hz_icmp_ne (tgt := 23) hO dX11_isInBasket_16 (by decide) (fun hc8 => ?_) (fun hc8 => ?_)
    · rw [if_neg hc8] at h
      refine hz_iconst (v := (0 : Int32)) hO dX11_isInBasket_23 (by decide) ?_
      exact hz_nameM (hz_some_e h).2.symm (hz_name (hz_some_e h).1.symm (hz_zret hO (by rw [← (hz_some_e h).1]; decide) dX11_isInBasket_24))
    · rw [if_pos hc8] at h
      refine hz_iconst (v := (1 : Int32)) hO dX11_isInBasket_19 (by decide) ?_
      refine hz_goto (tgt := 24) hO dX11_isInBasket_20 (by decide) ?_
      exact hz_nameM (hz_some_e h).2.symm (hz_name (hz_some_e h).1.symm (hz_zret hO (by rw [← (hz_some_e h).1]; decide) dX11_isInBasket_24))
def f_X11_basket_L4 : Nat → Int32 → Int32 → hz_M → hz_O
  | 0, _, _, _ => none
  | n + 1, v1_1, v2_2, M3 =>
    if (M3 179 (Int32.toNatClampNeg (2 : Int32))) ≤ v2_2 then
      some (v1_1, M3)
    else
      hz_ct (f_X11_isInBasket v2_2 M3) fun r5 M6 =>
      hz_jn (fun (v1_8 : Int32) (v2_9 : Int32) (M10 : hz_M) =>
        hz_lt (v2_9 + (1 : Int32)) fun x11 =>
        f_X11_basket_L4 n v1_8 x11 M10
        ) fun k12 =>
      if r5 = 0 then
        k12 v1_1 v2_2 M6
      else
        hz_lt (v1_1 + (1 : Int32)) fun x14 =>
        k12 x14 v2_2 M6
def f_X11_basket (M : hz_M) : hz_O :=
  f_X11_basket_L4 hz_FU (0 : Int32) (0 : Int32) M
set_option maxRecDepth 100000 in
set_option maxHeartbeats 4000000 in
theorem g_X11_basket_L4 {p : Program} {l : Launch} {e : Env} {s : State} {m : MethodId} {args : Array Value} {below : List Frame} {meth : Method} {c : Code} {w : hz_C} {N : Nat} (hN : 193 ≤ N) {rE : Int32} {ME : hz_M} (hO : hz_Ok p s m args meth c w cX11_basket 3 RX11 (some .int)) : ∀ (n : Nat) (v1_1 : Int32) (v2_2 : Int32) (M3 : hz_M), f_X11_basket_L4 n v1_1 v2_2 M3 = some (rE, ME) → hz_G p l e 3 hz_z0 s m args below meth c w N 3 (MQ below (hz_Qi w N rE ME) args s 0 0 (hz_A w)) M3 4 [(0, .ref (hz_ad w 178)), (1, .int v1_1), (2, .int v2_2)] [] := by
  intro n
  induction n with
  | zero =>
    intro v1_1 v2_2 M3 h
    rw [f_X11_basket_L4] at h
    cases h
  | succ n ih =>
    intro v1_1 v2_2 M3 h
    rw [f_X11_basket_L4] at h
    refine hz_iload_n hO dX11_basket_4 rfl 2 rfl ?_
    refine hz_aload_n hO dX11_basket_5 rfl 0 rfl ?_
    refine hz_getR (k := 0) hO 179 hz_K_9 hz_sh_178 (hz_lt_178 hN) rfl (Nat.le_of_ble_eq_true rfl) tw_6_229 rfl dX11_basket_6 ?_
    refine hz_iconst (v := (2 : Int32)) hO dX11_basket_9 (by decide) ?_
    refine hz_iald hO hz_sh_179 (hz_lt_179 hN) (by decide) dX11_basket_10 ?_
    refine hz_icmp_ge (tgt := 31) hO dX11_basket_11 (by decide) (fun hc4 => ?_) (fun hc4 => ?_)
    · rw [if_pos hc4] at h
      refine hz_iload_n hO dX11_basket_31 rfl 1 rfl ?_
      exact hz_nameM (hz_some_e h).2.symm (hz_name (hz_some_e h).1.symm (hz_iret hO dX11_basket_32))
    · rw [if_neg hc4] at h
      refine hz_aload_n hO dX11_basket_14 rfl 0 rfl ?_
      refine hz_iload_n hO dX11_basket_15 rfl 2 rfl ?_
      obtain ⟨r5, M6, hq7, h⟩ := hz_ct_e h
      refine hz_callVi (as := [.int v2_2]) (rest := []) hO (c_X11_isInBasket l w hN v2_2 hq7) hz_cal_X11_isInBasket hz_K_9 hz_sh_178 (hz_lt_178 hN) tw_7_157 (Nat.le_of_ble_eq_true rfl) rfl rfl (Nat.le_of_ble_eq_true rfl) dX11_basket_16 ?_
      obtain ⟨k12, hk12, h⟩ := hz_jn_e h
      have gk12 : ∀ (v1_8 : Int32) (v2_9 : Int32) (M10 : hz_M), k12 v1_8 v2_9 M10 = some (rE, ME) → hz_G p l e 3 hz_z0 s m args below meth c w N 3 (MQ below (hz_Qi w N rE ME) args s 0 0 (hz_A w)) M10 25 [(0, .ref (hz_ad w 178)), (1, .int v1_8), (2, .int v2_9)] [] := by
        intro v1_8 v2_9 M10 h
        rw [hk12] at h
        dsimp only at h
        obtain ⟨x11, h_x11, h⟩ := hz_lt_e h
        refine hz_iinc (k := 2) (v := x11) (ls1 := [(2, .int x11), (0, .ref (hz_ad w 178)), (1, .int v1_8)]) hO dX11_basket_25 rfl (by rw [h_x11]; rfl) (Nat.le_of_ble_eq_true rfl) rfl ?_
        refine hz_goto (tgt := 4) hO dX11_basket_28 (by decide) ?_
        exact hz_ls [1, 2, 0] rfl (ih v1_8 x11 M10 h)
      clear hk12
      refine hz_if_eq (tgt := 25) hO dX11_basket_19 (by decide) (fun hc13 => ?_) (fun hc13 => ?_)
      · rw [if_pos hc13] at h
        exact hz_ls [0, 1, 2] rfl (gk12 v1_1 v2_2 M6 h)
      · rw [if_neg hc13] at h
        obtain ⟨x14, h_x14, h⟩ := hz_lt_e h
        refine hz_iinc (k := 1) (v := x14) (ls1 := [(1, .int x14), (0, .ref (hz_ad w 178)), (2, .int v2_2)]) hO dX11_basket_22 rfl (by rw [h_x14]; rfl) (Nat.le_of_ble_eq_true rfl) rfl ?_
        exact hz_ls [1, 0, 2] rfl (gk12 x14 v2_2 M6 h)
set_option maxRecDepth 100000 in
set_option maxHeartbeats 4000000 in
theorem c_X11_basket (l : Launch) (w : hz_C) {N : Nat} (hN : 193 ≤ N) {M : hz_M} {rE : Int32} {ME : hz_M} (h : f_X11_basket M = some (rE, ME)) : hz_Ct l yX11_basket cX11_basket 3 (some .int) 3 w N [.ref (hz_ad w 178)] M (hz_Qi w N rE ME) := by
  refine hz_ofW (by decide) rfl (Nat.le_of_ble_eq_true rfl) tw_8_93 ?_
  intro p e s m args below meth c hO
  show hz_G p l e 3 hz_z0 s m args below meth c w N 3 _ M 0 [(0, .ref (hz_ad w 178))] []
  unfold f_X11_basket at h
  refine hz_iconst (v := (0 : Int32)) hO dX11_basket_0 (by decide) ?_
  refine hz_istore_n (ls1 := [(1, .int (0 : Int32)), (0, .ref (hz_ad w 178))]) hO dX11_basket_1 rfl (Nat.le_of_ble_eq_true rfl) rfl ?_
  refine hz_iconst (v := (0 : Int32)) hO dX11_basket_2 (by decide) ?_
  refine hz_istore_n (ls1 := [(2, .int (0 : Int32)), (1, .int (0 : Int32)), (0, .ref (hz_ad w 178))]) hO dX11_basket_3 rfl (Nat.le_of_ble_eq_true rfl) rfl ?_
  exact hz_ls [2, 1, 0] rfl (g_X11_basket_L4 hN hO _ (0 : Int32) (0 : Int32) M h)
def f_X11_warmthOf (a1 : Int32) (M : hz_M) : hz_O :=
  some (((M 179 (Int32.toNatClampNeg (9 : Int32))) + ((6 : Int32) * a1)), M)
set_option maxRecDepth 100000 in
set_option maxHeartbeats 4000000 in
theorem c_X11_warmthOf (l : Launch) (w : hz_C) {N : Nat} (hN : 193 ≤ N) (a1 : Int32) {M : hz_M} {rE : Int32} {ME : hz_M} (h : f_X11_warmthOf a1 M = some (rE, ME)) : hz_Ct l yX11_warmthOf cX11_warmthOf 2 (some .int) 0 w N [.ref (hz_ad w 178), .int a1] M (hz_Qi w N rE ME) := by
  refine hz_ofW (by decide) rfl (Nat.le_of_ble_eq_true rfl) tw_7_217 ?_
  intro p e s m args below meth c hO
  show hz_G p l e 0 hz_z0 s m args below meth c w N 2 _ M 0 [(0, .ref (hz_ad w 178)), (1, .int a1)] []
  unfold f_X11_warmthOf at h
  refine hz_aload_n hO dX11_warmthOf_0 rfl 0 rfl ?_
  refine hz_getR (k := 0) hO 179 hz_K_9 hz_sh_178 (hz_lt_178 hN) rfl (Nat.le_of_ble_eq_true rfl) tw_6_229 rfl dX11_warmthOf_1 ?_
  refine hz_bipush (v := (9 : Int32)) hO dX11_warmthOf_4 (by decide) ?_
  refine hz_iald hO hz_sh_179 (hz_lt_179 hN) (by decide) dX11_warmthOf_6 ?_
  refine hz_bipush (v := (6 : Int32)) hO dX11_warmthOf_7 (by decide) ?_
  refine hz_iload_n hO dX11_warmthOf_9 rfl 1 rfl ?_
  refine hz_imul hO dX11_warmthOf_10 ?_
  refine hz_iadd hO dX11_warmthOf_11 ?_
  exact hz_nameM (hz_some_e h).2.symm (hz_name (hz_some_e h).1.symm (hz_iret hO dX11_warmthOf_12))
def f_X11_bears (a1 : Int32) (M : hz_M) : hz_O :=
  hz_ct (f_X11_of a1 (1 : Int32) M) fun r1 M2 =>
  some (((60 : Int32) + (r1 / (4 : Int32))), M2)
set_option maxRecDepth 100000 in
set_option maxHeartbeats 4000000 in
theorem c_X11_bears (l : Launch) (w : hz_C) {N : Nat} (hN : 193 ≤ N) (a1 : Int32) {M : hz_M} {rE : Int32} {ME : hz_M} (h : f_X11_bears a1 M = some (rE, ME)) : hz_Ct l yX11_bears cX11_bears 2 (some .int) 1 w N [.ref (hz_ad w 178), .int a1] M (hz_Qi w N rE ME) := by
  refine hz_ofW (by decide) rfl (Nat.le_of_ble_eq_true rfl) tw_7_221 ?_
  intro p e s m args below meth c hO
  show hz_G p l e 1 hz_z0 s m args below meth c w N 2 _ M 0 [(0, .ref (hz_ad w 178)), (1, .int a1)] []
  unfold f_X11_bears at h
  refine hz_bipush (v := (60 : Int32)) hO dX11_bears_0 (by decide) ?_
  refine hz_aload_n hO dX11_bears_2 rfl 0 rfl ?_
  refine hz_iload_n hO dX11_bears_3 rfl 1 rfl ?_
  refine hz_iconst (v := (1 : Int32)) hO dX11_bears_4 (by decide) ?_
  obtain ⟨r1, M2, hq3, h⟩ := hz_ct_e h
  refine hz_callVi (as := [.int a1, .int (1 : Int32)]) (rest := [.int (60 : Int32)]) hO (c_X11_of l w hN a1 (1 : Int32) hq3) hz_cal_X11_of hz_K_9 hz_sh_178 (hz_lt_178 hN) tw_6_217 (Nat.le_of_ble_eq_true rfl) rfl rfl (Nat.le_of_ble_eq_true rfl) dX11_bears_5 ?_
  refine hz_iconst (v := (4 : Int32)) hO dX11_bears_8 (by decide) ?_
  refine hz_idiv hO dX11_bears_9 (by decide) ?_
  refine hz_iadd hO dX11_bears_10 ?_
  exact hz_nameM (hz_some_e h).2.symm (hz_name (hz_some_e h).1.symm (hz_iret hO dX11_bears_11))
def f_X11_guestsOn_L4 : Nat → Int32 → Int32 → Int32 → hz_M → hz_O
  | 0, _, _, _, _ => none
  | n + 1, v1_1, v2_2, v3_3, M4 =>
    if (M4 179 (Int32.toNatClampNeg (11 : Int32))) ≤ v3_3 then
      some (v2_2, M4)
    else
      hz_ct (f_X11_of v3_3 (2 : Int32) M4) fun r6 M7 =>
      hz_jn (fun (v1_9 : Int32) (v2_10 : Int32) (v3_11 : Int32) (M12 : hz_M) =>
        hz_lt (v3_11 + (1 : Int32)) fun x13 =>
        f_X11_guestsOn_L4 n v1_9 v2_10 x13 M12
        ) fun k14 =>
      if r6 = v1_1 then
        hz_lt (v2_2 + (1 : Int32)) fun x16 =>
        k14 v1_1 x16 v3_3 M7
      else
        k14 v1_1 v2_2 v3_3 M7
def f_X11_guestsOn (a1 : Int32) (M : hz_M) : hz_O :=
  f_X11_guestsOn_L4 hz_FU a1 (0 : Int32) (0 : Int32) M
set_option maxRecDepth 100000 in
set_option maxHeartbeats 4000000 in
theorem g_X11_guestsOn_L4 {p : Program} {l : Launch} {e : Env} {s : State} {m : MethodId} {args : Array Value} {below : List Frame} {meth : Method} {c : Code} {w : hz_C} {N : Nat} (hN : 193 ≤ N) {rE : Int32} {ME : hz_M} (hO : hz_Ok p s m args meth c w cX11_guestsOn 4 RX11 (some .int)) : ∀ (n : Nat) (v1_1 : Int32) (v2_2 : Int32) (v3_3 : Int32) (M4 : hz_M), f_X11_guestsOn_L4 n v1_1 v2_2 v3_3 M4 = some (rE, ME) → hz_G p l e 1 hz_z0 s m args below meth c w N 4 (MQ below (hz_Qi w N rE ME) args s 0 0 (hz_A w)) M4 4 [(0, .ref (hz_ad w 178)), (1, .int v1_1), (2, .int v2_2), (3, .int v3_3)] [] := by
  intro n
  induction n with
  | zero =>
    intro v1_1 v2_2 v3_3 M4 h
    rw [f_X11_guestsOn_L4] at h
    cases h
  | succ n ih =>
    intro v1_1 v2_2 v3_3 M4 h
    rw [f_X11_guestsOn_L4] at h
    refine hz_iload_n hO dX11_guestsOn_4 rfl 3 rfl ?_
    refine hz_aload_n hO dX11_guestsOn_5 rfl 0 rfl ?_
    refine hz_getR (k := 0) hO 179 hz_K_9 hz_sh_178 (hz_lt_178 hN) rfl (Nat.le_of_ble_eq_true rfl) tw_6_229 rfl dX11_guestsOn_6 ?_
    refine hz_bipush (v := (11 : Int32)) hO dX11_guestsOn_9 (by decide) ?_
    refine hz_iald hO hz_sh_179 (hz_lt_179 hN) (by decide) dX11_guestsOn_11 ?_
    refine hz_icmp_ge (tgt := 34) hO dX11_guestsOn_12 (by decide) (fun hc5 => ?_) (fun hc5 => ?_)
    · rw [if_pos hc5] at h
      refine hz_iload_n hO dX11_guestsOn_34 rfl 2 rfl ?_
      exact hz_nameM (hz_some_e h).2.symm (hz_name (hz_some_e h).1.symm (hz_iret hO dX11_guestsOn_35))
    · rw [if_neg hc5] at h
      refine hz_aload_n hO dX11_guestsOn_15 rfl 0 rfl ?_
      refine hz_iload_n hO dX11_guestsOn_16 rfl 3 rfl ?_
      refine hz_iconst (v := (2 : Int32)) hO dX11_guestsOn_17 (by decide) ?_
      obtain ⟨r6, M7, hq8, h⟩ := hz_ct_e h
      refine hz_callVi (as := [.int v3_3, .int (2 : Int32)]) (rest := []) hO (c_X11_of l w hN v3_3 (2 : Int32) hq8) hz_cal_X11_of hz_K_9 hz_sh_178 (hz_lt_178 hN) tw_6_217 (Nat.le_of_ble_eq_true rfl) rfl rfl (Nat.le_of_ble_eq_true rfl) dX11_guestsOn_18 ?_
      refine hz_iload_n hO dX11_guestsOn_21 rfl 1 rfl ?_
      obtain ⟨k14, hk14, h⟩ := hz_jn_e h
      have gk14 : ∀ (v1_9 : Int32) (v2_10 : Int32) (v3_11 : Int32) (M12 : hz_M), k14 v1_9 v2_10 v3_11 M12 = some (rE, ME) → hz_G p l e 1 hz_z0 s m args below meth c w N 4 (MQ below (hz_Qi w N rE ME) args s 0 0 (hz_A w)) M12 28 [(0, .ref (hz_ad w 178)), (1, .int v1_9), (2, .int v2_10), (3, .int v3_11)] [] := by
        intro v1_9 v2_10 v3_11 M12 h
        rw [hk14] at h
        dsimp only at h
        obtain ⟨x13, h_x13, h⟩ := hz_lt_e h
        refine hz_iinc (k := 3) (v := x13) (ls1 := [(3, .int x13), (0, .ref (hz_ad w 178)), (1, .int v1_9), (2, .int v2_10)]) hO dX11_guestsOn_28 rfl (by rw [h_x13]; rfl) (Nat.le_of_ble_eq_true rfl) rfl ?_
        refine hz_goto (tgt := 4) hO dX11_guestsOn_31 (by decide) ?_
        exact hz_ls [1, 2, 3, 0] rfl (ih v1_9 v2_10 x13 M12 h)
      clear hk14
      refine hz_icmp_ne (tgt := 28) hO dX11_guestsOn_22 (by decide) (fun hc15 => ?_) (fun hc15 => ?_)
      · rw [if_neg hc15] at h
        exact hz_ls [0, 1, 2, 3] rfl (gk14 v1_1 v2_2 v3_3 M7 h)
      · rw [if_pos hc15] at h
        obtain ⟨x16, h_x16, h⟩ := hz_lt_e h
        refine hz_iinc (k := 2) (v := x16) (ls1 := [(2, .int x16), (0, .ref (hz_ad w 178)), (1, .int v1_1), (3, .int v3_3)]) hO dX11_guestsOn_25 rfl (by rw [h_x16]; rfl) (Nat.le_of_ble_eq_true rfl) rfl ?_
        exact hz_ls [1, 2, 0, 3] rfl (gk14 v1_1 x16 v3_3 M7 h)
set_option maxRecDepth 100000 in
set_option maxHeartbeats 4000000 in
theorem c_X11_guestsOn (l : Launch) (w : hz_C) {N : Nat} (hN : 193 ≤ N) (a1 : Int32) {M : hz_M} {rE : Int32} {ME : hz_M} (h : f_X11_guestsOn a1 M = some (rE, ME)) : hz_Ct l yX11_guestsOn cX11_guestsOn 4 (some .int) 1 w N [.ref (hz_ad w 178), .int a1] M (hz_Qi w N rE ME) := by
  refine hz_ofW (by decide) rfl (Nat.le_of_ble_eq_true rfl) tw_7_225 ?_
  intro p e s m args below meth c hO
  show hz_G p l e 1 hz_z0 s m args below meth c w N 4 _ M 0 [(0, .ref (hz_ad w 178)), (1, .int a1)] []
  unfold f_X11_guestsOn at h
  refine hz_iconst (v := (0 : Int32)) hO dX11_guestsOn_0 (by decide) ?_
  refine hz_istore_n (ls1 := [(2, .int (0 : Int32)), (0, .ref (hz_ad w 178)), (1, .int a1)]) hO dX11_guestsOn_1 rfl (Nat.le_of_ble_eq_true rfl) rfl ?_
  refine hz_iconst (v := (0 : Int32)) hO dX11_guestsOn_2 (by decide) ?_
  refine hz_istore_n (ls1 := [(3, .int (0 : Int32)), (2, .int (0 : Int32)), (0, .ref (hz_ad w 178)), (1, .int a1)]) hO dX11_guestsOn_3 rfl (Nat.le_of_ble_eq_true rfl) rfl ?_
  exact hz_ls [2, 3, 1, 0] rfl (g_X11_guestsOn_L4 hN hO _ a1 (0 : Int32) (0 : Int32) M h)
def f_X11_isSilence (M : hz_M) : hz_O :=
  if (M 179 (Int32.toNatClampNeg (10 : Int32))) = (-1 : Int32) then
    some ((0 : Int32), M)
  else
    if ((M 179 (Int32.toNatClampNeg (10 : Int32))) + (M 179 (Int32.toNatClampNeg (7 : Int32)))) ≤ (M 179 (Int32.toNatClampNeg (8 : Int32))) then
      some ((0 : Int32), M)
    else
      some ((1 : Int32), M)
set_option maxRecDepth 100000 in
set_option maxHeartbeats 4000000 in
theorem c_X11_isSilence (l : Launch) (w : hz_C) {N : Nat} (hN : 193 ≤ N) {M : hz_M} {rE : Int32} {ME : hz_M} (h : f_X11_isSilence M = some (rE, ME)) : hz_Ct l yX11_isSilence cX11_isSilence 1 (some .boolean) 0 w N [.ref (hz_ad w 178)] M (hz_Qi w N rE ME) := by
  refine hz_ofW (by decide) rfl (Nat.le_of_ble_eq_true rfl) tw_8_77 ?_
  intro p e s m args below meth c hO
  show hz_G p l e 0 hz_z0 s m args below meth c w N 1 _ M 0 [(0, .ref (hz_ad w 178))] []
  unfold f_X11_isSilence at h
  refine hz_aload_n hO dX11_isSilence_0 rfl 0 rfl ?_
  refine hz_getR (k := 0) hO 179 hz_K_9 hz_sh_178 (hz_lt_178 hN) rfl (Nat.le_of_ble_eq_true rfl) tw_6_229 rfl dX11_isSilence_1 ?_
  refine hz_bipush (v := (10 : Int32)) hO dX11_isSilence_4 (by decide) ?_
  refine hz_iald hO hz_sh_179 (hz_lt_179 hN) (by decide) dX11_isSilence_6 ?_
  refine hz_iconst (v := (-1 : Int32)) hO dX11_isSilence_7 (by decide) ?_
  refine hz_icmp_eq (tgt := 40) hO dX11_isSilence_8 (by decide) (fun hc1 => ?_) (fun hc1 => ?_)
  · rw [if_pos hc1] at h
    refine hz_iconst (v := (0 : Int32)) hO dX11_isSilence_40 (by decide) ?_
    exact hz_nameM (hz_some_e h).2.symm (hz_name (hz_some_e h).1.symm (hz_zret hO (by rw [← (hz_some_e h).1]; decide) dX11_isSilence_41))
  · rw [if_neg hc1] at h
    refine hz_aload_n hO dX11_isSilence_11 rfl 0 rfl ?_
    refine hz_getR (k := 0) hO 179 hz_K_9 hz_sh_178 (hz_lt_178 hN) rfl (Nat.le_of_ble_eq_true rfl) tw_6_229 rfl dX11_isSilence_12 ?_
    refine hz_bipush (v := (8 : Int32)) hO dX11_isSilence_15 (by decide) ?_
    refine hz_iald hO hz_sh_179 (hz_lt_179 hN) (by decide) dX11_isSilence_17 ?_
    refine hz_aload_n hO dX11_isSilence_18 rfl 0 rfl ?_
    refine hz_getR (k := 0) hO 179 hz_K_9 hz_sh_178 (hz_lt_178 hN) rfl (Nat.le_of_ble_eq_true rfl) tw_6_229 rfl dX11_isSilence_19 ?_
    refine hz_bipush (v := (10 : Int32)) hO dX11_isSilence_22 (by decide) ?_
    refine hz_iald hO hz_sh_179 (hz_lt_179 hN) (by decide) dX11_isSilence_24 ?_
    refine hz_aload_n hO dX11_isSilence_25 rfl 0 rfl ?_
    refine hz_getR (k := 0) hO 179 hz_K_9 hz_sh_178 (hz_lt_178 hN) rfl (Nat.le_of_ble_eq_true rfl) tw_6_229 rfl dX11_isSilence_26 ?_
    refine hz_bipush (v := (7 : Int32)) hO dX11_isSilence_29 (by decide) ?_
    refine hz_iald hO hz_sh_179 (hz_lt_179 hN) (by decide) dX11_isSilence_31 ?_
    refine hz_iadd hO dX11_isSilence_32 ?_
    refine hz_icmp_ge (tgt := 40) hO dX11_isSilence_33 (by decide) (fun hc2 => ?_) (fun hc2 => ?_)
    · rw [if_pos hc2] at h
      refine hz_iconst (v := (0 : Int32)) hO dX11_isSilence_40 (by decide) ?_
      exact hz_nameM (hz_some_e h).2.symm (hz_name (hz_some_e h).1.symm (hz_zret hO (by rw [← (hz_some_e h).1]; decide) dX11_isSilence_41))
    · rw [if_neg hc2] at h
      refine hz_iconst (v := (1 : Int32)) hO dX11_isSilence_36 (by decide) ?_
      refine hz_goto (tgt := 41) hO dX11_isSilence_37 (by decide) ?_
      exact hz_nameM (hz_some_e h).2.symm (hz_name (hz_some_e h).1.symm (hz_zret hO (by rw [← (hz_some_e h).1]; decide) dX11_isSilence_41))
def f_X11_today (M : hz_M) : hz_O :=
  some (((M 179 (Int32.toNatClampNeg (8 : Int32))) / (600 : Int32)), M)
set_option maxRecDepth 100000 in
set_option maxHeartbeats 4000000 in
theorem c_X11_today (l : Launch) (w : hz_C) {N : Nat} (hN : 193 ≤ N) {M : hz_M} {rE : Int32} {ME : hz_M} (h : f_X11_today M = some (rE, ME)) : hz_Ct l yX11_today cX11_today 1 (some .int) 0 w N [.ref (hz_ad w 178)] M (hz_Qi w N rE ME) := by
  refine hz_ofW (by decide) rfl (Nat.le_of_ble_eq_true rfl) tw_8_1 ?_
  intro p e s m args below meth c hO
  show hz_G p l e 0 hz_z0 s m args below meth c w N 1 _ M 0 [(0, .ref (hz_ad w 178))] []
  unfold f_X11_today at h
  refine hz_aload_n hO dX11_today_0 rfl 0 rfl ?_
  refine hz_getR (k := 0) hO 179 hz_K_9 hz_sh_178 (hz_lt_178 hN) rfl (Nat.le_of_ble_eq_true rfl) tw_6_229 rfl dX11_today_1 ?_
  refine hz_bipush (v := (8 : Int32)) hO dX11_today_4 (by decide) ?_
  refine hz_iald hO hz_sh_179 (hz_lt_179 hN) (by decide) dX11_today_6 ?_
  refine hz_sipush (v := (600 : Int32)) hO dX11_today_7 (by decide) ?_
  refine hz_idiv hO dX11_today_10 (by decide) ?_
  exact hz_nameM (hz_some_e h).2.symm (hz_name (hz_some_e h).1.symm (hz_iret hO dX11_today_11))
def f_X11_noEntering (a1 : Int32) (M : hz_M) : hz_O :=
  hz_ct (f_X11_of a1 (2 : Int32) M) fun r1 M2 =>
  if r1 = (-1 : Int32) then
    hz_ct (f_X11_of a1 (7 : Int32) M2) fun r5 M6 =>
    hz_ct (f_X11_today M6) fun r8 M9 =>
    if r5 = r8 then
      some ((2 : Int32), M9)
    else
      hz_ct (f_X11_freeLocker M9) fun r12 M13 =>
      if r12 = (-1 : Int32) then
        some ((3 : Int32), M13)
      else
        hz_ct (f_X11_driestOne M13) fun r16 M17 =>
        if r16 = (-1 : Int32) then
          some ((4 : Int32), M17)
        else
          some ((0 : Int32), M17)
  else
    some ((1 : Int32), M2)
set_option maxRecDepth 100000 in
set_option maxHeartbeats 4000000 in
theorem c_X11_noEntering (l : Launch) (w : hz_C) {N : Nat} (hN : 193 ≤ N) (a1 : Int32) {M : hz_M} {rE : Int32} {ME : hz_M} (h : f_X11_noEntering a1 M = some (rE, ME)) : hz_Ct l yX11_noEntering cX11_noEntering 2 (some .int) 3 w N [.ref (hz_ad w 178), .int a1] M (hz_Qi w N rE ME) := by
  refine hz_ofW (by decide) rfl (Nat.le_of_ble_eq_true rfl) tw_7_237 ?_
  intro p e s m args below meth c hO
  show hz_G p l e 3 hz_z0 s m args below meth c w N 2 _ M 0 [(0, .ref (hz_ad w 178)), (1, .int a1)] []
  unfold f_X11_noEntering at h
  refine hz_aload_n hO dX11_noEntering_0 rfl 0 rfl ?_
  refine hz_iload_n hO dX11_noEntering_1 rfl 1 rfl ?_
  refine hz_iconst (v := (2 : Int32)) hO dX11_noEntering_2 (by decide) ?_
  obtain ⟨r1, M2, hq3, h⟩ := hz_ct_e h
  refine hz_callVi (as := [.int a1, .int (2 : Int32)]) (rest := []) hO (c_X11_of l w hN a1 (2 : Int32) hq3) hz_cal_X11_of hz_K_9 hz_sh_178 (hz_lt_178 hN) tw_6_217 (Nat.le_of_ble_eq_true rfl) rfl rfl (Nat.le_of_ble_eq_true rfl) dX11_noEntering_3 ?_
  refine hz_iconst (v := (-1 : Int32)) hO dX11_noEntering_6 (by decide) ?_
  refine hz_icmp_eq (tgt := 12) hO dX11_noEntering_7 (by decide) (fun hc4 => ?_) (fun hc4 => ?_)
  · rw [if_pos hc4] at h
    refine hz_aload_n hO dX11_noEntering_12 rfl 0 rfl ?_
    refine hz_iload_n hO dX11_noEntering_13 rfl 1 rfl ?_
    refine hz_bipush (v := (7 : Int32)) hO dX11_noEntering_14 (by decide) ?_
    obtain ⟨r5, M6, hq7, h⟩ := hz_ct_e h
    refine hz_callVi (as := [.int a1, .int (7 : Int32)]) (rest := []) hO (c_X11_of l w hN a1 (7 : Int32) hq7) hz_cal_X11_of hz_K_9 hz_sh_178 (hz_lt_178 hN) tw_6_217 (Nat.le_of_ble_eq_true rfl) rfl rfl (Nat.le_of_ble_eq_true rfl) dX11_noEntering_16 ?_
    refine hz_aload_n hO dX11_noEntering_19 rfl 0 rfl ?_
    obtain ⟨r8, M9, hq10, h⟩ := hz_ct_e h
    refine hz_callVi (as := []) (rest := [.int r5]) hO (c_X11_today l w hN hq10) hz_cal_X11_today hz_K_9 hz_sh_178 (hz_lt_178 hN) tw_7_238 (Nat.le_of_ble_eq_true rfl) rfl rfl (Nat.le_of_ble_eq_true rfl) dX11_noEntering_20 ?_
    refine hz_icmp_ne (tgt := 28) hO dX11_noEntering_23 (by decide) (fun hc11 => ?_) (fun hc11 => ?_)
    · rw [if_neg hc11] at h
      refine hz_aload_n hO dX11_noEntering_28 rfl 0 rfl ?_
      obtain ⟨r12, M13, hq14, h⟩ := hz_ct_e h
      refine hz_callVi (as := []) (rest := []) hO (c_X11_freeLocker l w hN hq14) hz_cal_X11_freeLocker hz_K_9 hz_sh_178 (hz_lt_178 hN) tw_8_2 (Nat.le_of_ble_eq_true rfl) rfl rfl (Nat.le_of_ble_eq_true rfl) dX11_noEntering_29 ?_
      refine hz_iconst (v := (-1 : Int32)) hO dX11_noEntering_32 (by decide) ?_
      refine hz_icmp_ne (tgt := 38) hO dX11_noEntering_33 (by decide) (fun hc15 => ?_) (fun hc15 => ?_)
      · rw [if_neg hc15] at h
        refine hz_aload_n hO dX11_noEntering_38 rfl 0 rfl ?_
        obtain ⟨r16, M17, hq18, h⟩ := hz_ct_e h
        refine hz_callVi (as := []) (rest := []) hO (c_X11_driestOne l w hN hq18) hz_cal_X11_driestOne hz_K_9 hz_sh_178 (hz_lt_178 hN) tw_8_10 (Nat.le_of_ble_eq_true rfl) rfl rfl (Nat.le_of_ble_eq_true rfl) dX11_noEntering_39 ?_
        refine hz_iconst (v := (-1 : Int32)) hO dX11_noEntering_42 (by decide) ?_
        refine hz_icmp_ne (tgt := 50) hO dX11_noEntering_43 (by decide) (fun hc19 => ?_) (fun hc19 => ?_)
        · rw [if_neg hc19] at h
          refine hz_iconst (v := (0 : Int32)) hO dX11_noEntering_50 (by decide) ?_
          exact hz_nameM (hz_some_e h).2.symm (hz_name (hz_some_e h).1.symm (hz_iret hO dX11_noEntering_51))
        · rw [if_pos hc19] at h
          refine hz_iconst (v := (4 : Int32)) hO dX11_noEntering_46 (by decide) ?_
          refine hz_goto (tgt := 51) hO dX11_noEntering_47 (by decide) ?_
          exact hz_nameM (hz_some_e h).2.symm (hz_name (hz_some_e h).1.symm (hz_iret hO dX11_noEntering_51))
      · rw [if_pos hc15] at h
        refine hz_iconst (v := (3 : Int32)) hO dX11_noEntering_36 (by decide) ?_
        exact hz_nameM (hz_some_e h).2.symm (hz_name (hz_some_e h).1.symm (hz_iret hO dX11_noEntering_37))
    · rw [if_pos hc11] at h
      refine hz_iconst (v := (2 : Int32)) hO dX11_noEntering_26 (by decide) ?_
      exact hz_nameM (hz_some_e h).2.symm (hz_name (hz_some_e h).1.symm (hz_iret hO dX11_noEntering_27))
  · rw [if_neg hc4] at h
    refine hz_iconst (v := (1 : Int32)) hO dX11_noEntering_10 (by decide) ?_
    exact hz_nameM (hz_some_e h).2.symm (hz_name (hz_some_e h).1.symm (hz_iret hO dX11_noEntering_11))
def f_X11_othersOn (a1 : Int32) (a2 : Int32) (M : hz_M) : hz_O :=
  hz_ct (f_X11_guestsOn a2 M) fun r1 M2 =>
  hz_ct (f_X11_of a1 (2 : Int32) M2) fun r4 M5 =>
  hz_jn (fun (q7 : Int32) (q8 : Int32) (M9 : hz_M) =>
    some ((q8 - q7), M9)
    ) fun k10 =>
  if r4 = a2 then
    k10 (1 : Int32) r1 M5
  else
    k10 (0 : Int32) r1 M5
set_option maxRecDepth 100000 in
set_option maxHeartbeats 4000000 in
theorem c_X11_othersOn (l : Launch) (w : hz_C) {N : Nat} (hN : 193 ≤ N) (a1 : Int32) (a2 : Int32) {M : hz_M} {rE : Int32} {ME : hz_M} (h : f_X11_othersOn a1 a2 M = some (rE, ME)) : hz_Ct l yX11_othersOn cX11_othersOn 3 (some .int) 2 w N [.ref (hz_ad w 178), .int a1, .int a2] M (hz_Qi w N rE ME) := by
  refine hz_ofW (by decide) rfl (Nat.le_of_ble_eq_true rfl) tw_8_33 ?_
  intro p e s m args below meth c hO
  show hz_G p l e 2 hz_z0 s m args below meth c w N 3 _ M 0 [(0, .ref (hz_ad w 178)), (1, .int a1), (2, .int a2)] []
  unfold f_X11_othersOn at h
  refine hz_aload_n hO dX11_othersOn_0 rfl 0 rfl ?_
  refine hz_iload_n hO dX11_othersOn_1 rfl 2 rfl ?_
  obtain ⟨r1, M2, hq3, h⟩ := hz_ct_e h
  refine hz_callVi (as := [.int a2]) (rest := []) hO (c_X11_guestsOn l w hN a2 hq3) hz_cal_X11_guestsOn hz_K_9 hz_sh_178 (hz_lt_178 hN) tw_7_222 (Nat.le_of_ble_eq_true rfl) rfl rfl (Nat.le_of_ble_eq_true rfl) dX11_othersOn_2 ?_
  refine hz_aload_n hO dX11_othersOn_5 rfl 0 rfl ?_
  refine hz_iload_n hO dX11_othersOn_6 rfl 1 rfl ?_
  refine hz_iconst (v := (2 : Int32)) hO dX11_othersOn_7 (by decide) ?_
  obtain ⟨r4, M5, hq6, h⟩ := hz_ct_e h
  refine hz_callVi (as := [.int a1, .int (2 : Int32)]) (rest := [.int r1]) hO (c_X11_of l w hN a1 (2 : Int32) hq6) hz_cal_X11_of hz_K_9 hz_sh_178 (hz_lt_178 hN) tw_6_217 (Nat.le_of_ble_eq_true rfl) rfl rfl (Nat.le_of_ble_eq_true rfl) dX11_othersOn_8 ?_
  refine hz_iload_n hO dX11_othersOn_11 rfl 2 rfl ?_
  obtain ⟨k10, hk10, h⟩ := hz_jn_e h
  have gk10 : ∀ (q7 : Int32) (q8 : Int32) (M9 : hz_M), k10 q7 q8 M9 = some (rE, ME) → hz_G p l e 2 hz_z0 s m args below meth c w N 3 (MQ below (hz_Qi w N rE ME) args s 0 0 (hz_A w)) M9 20 [] [.int q7, .int q8] := by
    intro q7 q8 M9 h
    rw [hk10] at h
    dsimp only at h
    refine hz_isub hO dX11_othersOn_20 ?_
    exact hz_nameM (hz_some_e h).2.symm (hz_name (hz_some_e h).1.symm (hz_iret hO dX11_othersOn_21))
  clear hk10
  refine hz_icmp_ne (tgt := 19) hO dX11_othersOn_12 (by decide) (fun hc11 => ?_) (fun hc11 => ?_)
  · rw [if_neg hc11] at h
    refine hz_iconst (v := (0 : Int32)) hO dX11_othersOn_19 (by decide) ?_
    exact hz_ls [] rfl (gk10 (0 : Int32) r1 M5 h)
  · rw [if_pos hc11] at h
    refine hz_iconst (v := (1 : Int32)) hO dX11_othersOn_15 (by decide) ?_
    refine hz_goto (tgt := 20) hO dX11_othersOn_16 (by decide) ?_
    exact hz_ls [] rfl (gk10 (1 : Int32) r1 M5 h)
def f_X11_yearsLacking (a1 : Int32) (a2 : Int32) (M : hz_M) : hz_O :=
  hz_ct (f_X11_of a1 (1 : Int32) M) fun r1 M2 =>
  some ((((5 : Int32) * (a2 - (1 : Int32))) - r1), M2)
set_option maxRecDepth 100000 in
set_option maxHeartbeats 4000000 in
theorem c_X11_yearsLacking (l : Launch) (w : hz_C) {N : Nat} (hN : 193 ≤ N) (a1 : Int32) (a2 : Int32) {M : hz_M} {rE : Int32} {ME : hz_M} (h : f_X11_yearsLacking a1 a2 M = some (rE, ME)) : hz_Ct l yX11_yearsLacking cX11_yearsLacking 3 (some .int) 1 w N [.ref (hz_ad w 178), .int a1, .int a2] M (hz_Qi w N rE ME) := by
  refine hz_ofW (by decide) rfl (Nat.le_of_ble_eq_true rfl) tw_8_29 ?_
  intro p e s m args below meth c hO
  show hz_G p l e 1 hz_z0 s m args below meth c w N 3 _ M 0 [(0, .ref (hz_ad w 178)), (1, .int a1), (2, .int a2)] []
  unfold f_X11_yearsLacking at h
  refine hz_iconst (v := (5 : Int32)) hO dX11_yearsLacking_0 (by decide) ?_
  refine hz_iload_n hO dX11_yearsLacking_1 rfl 2 rfl ?_
  refine hz_iconst (v := (1 : Int32)) hO dX11_yearsLacking_2 (by decide) ?_
  refine hz_isub hO dX11_yearsLacking_3 ?_
  refine hz_imul hO dX11_yearsLacking_4 ?_
  refine hz_aload_n hO dX11_yearsLacking_5 rfl 0 rfl ?_
  refine hz_iload_n hO dX11_yearsLacking_6 rfl 1 rfl ?_
  refine hz_iconst (v := (1 : Int32)) hO dX11_yearsLacking_7 (by decide) ?_
  obtain ⟨r1, M2, hq3, h⟩ := hz_ct_e h
  refine hz_callVi (as := [.int a1, .int (1 : Int32)]) (rest := [.int ((5 : Int32) * (a2 - (1 : Int32)))]) hO (c_X11_of l w hN a1 (1 : Int32) hq3) hz_cal_X11_of hz_K_9 hz_sh_178 (hz_lt_178 hN) tw_6_217 (Nat.le_of_ble_eq_true rfl) rfl rfl (Nat.le_of_ble_eq_true rfl) dX11_yearsLacking_8 ?_
  refine hz_isub hO dX11_yearsLacking_11 ?_
  exact hz_nameM (hz_some_e h).2.symm (hz_name (hz_some_e h).1.symm (hz_iret hO dX11_yearsLacking_12))
def f_X11_noSitting (a1 : Int32) (a2 : Int32) (M : hz_M) : hz_O :=
  hz_ct (f_X11_of a1 (2 : Int32) M) fun r1 M2 =>
  if r1 = (-1 : Int32) then
    some ((5 : Int32), M2)
  else
    hz_ct (f_X11_of a1 (4 : Int32) M2) fun r5 M6 =>
    if r5 = (-1 : Int32) then
      some ((6 : Int32), M6)
    else
      hz_ct (f_X11_yearsLacking a1 a2 M6) fun r9 M10 =>
      if r9 ≤ 0 then
        hz_ct (f_X11_othersOn a1 a2 M10) fun r13 M14 =>
        if r13 < (M14 179 (Int32.toNatClampNeg (5 : Int32))) then
          some ((0 : Int32), M14)
        else
          some ((8 : Int32), M14)
      else
        some ((7 : Int32), M10)
set_option maxRecDepth 100000 in
set_option maxHeartbeats 4000000 in
theorem c_X11_noSitting (l : Launch) (w : hz_C) {N : Nat} (hN : 193 ≤ N) (a1 : Int32) (a2 : Int32) {M : hz_M} {rE : Int32} {ME : hz_M} (h : f_X11_noSitting a1 a2 M = some (rE, ME)) : hz_Ct l yX11_noSitting cX11_noSitting 3 (some .int) 3 w N [.ref (hz_ad w 178), .int a1, .int a2] M (hz_Qi w N rE ME) := by
  refine hz_ofW (by decide) rfl (Nat.le_of_ble_eq_true rfl) tw_8_25 ?_
  intro p e s m args below meth c hO
  show hz_G p l e 3 hz_z0 s m args below meth c w N 3 _ M 0 [(0, .ref (hz_ad w 178)), (1, .int a1), (2, .int a2)] []
  unfold f_X11_noSitting at h
  refine hz_aload_n hO dX11_noSitting_0 rfl 0 rfl ?_
  refine hz_iload_n hO dX11_noSitting_1 rfl 1 rfl ?_
  refine hz_iconst (v := (2 : Int32)) hO dX11_noSitting_2 (by decide) ?_
  obtain ⟨r1, M2, hq3, h⟩ := hz_ct_e h
  refine hz_callVi (as := [.int a1, .int (2 : Int32)]) (rest := []) hO (c_X11_of l w hN a1 (2 : Int32) hq3) hz_cal_X11_of hz_K_9 hz_sh_178 (hz_lt_178 hN) tw_6_217 (Nat.le_of_ble_eq_true rfl) rfl rfl (Nat.le_of_ble_eq_true rfl) dX11_noSitting_3 ?_
  refine hz_iconst (v := (-1 : Int32)) hO dX11_noSitting_6 (by decide) ?_
  refine hz_icmp_ne (tgt := 12) hO dX11_noSitting_7 (by decide) (fun hc4 => ?_) (fun hc4 => ?_)
  · rw [if_neg hc4] at h
    refine hz_aload_n hO dX11_noSitting_12 rfl 0 rfl ?_
    refine hz_iload_n hO dX11_noSitting_13 rfl 1 rfl ?_
    refine hz_iconst (v := (4 : Int32)) hO dX11_noSitting_14 (by decide) ?_
    obtain ⟨r5, M6, hq7, h⟩ := hz_ct_e h
    refine hz_callVi (as := [.int a1, .int (4 : Int32)]) (rest := []) hO (c_X11_of l w hN a1 (4 : Int32) hq7) hz_cal_X11_of hz_K_9 hz_sh_178 (hz_lt_178 hN) tw_6_217 (Nat.le_of_ble_eq_true rfl) rfl rfl (Nat.le_of_ble_eq_true rfl) dX11_noSitting_15 ?_
    refine hz_iconst (v := (-1 : Int32)) hO dX11_noSitting_18 (by decide) ?_
    refine hz_icmp_ne (tgt := 25) hO dX11_noSitting_19 (by decide) (fun hc8 => ?_) (fun hc8 => ?_)
    · rw [if_neg hc8] at h
      refine hz_aload_n hO dX11_noSitting_25 rfl 0 rfl ?_
      refine hz_iload_n hO dX11_noSitting_26 rfl 1 rfl ?_
      refine hz_iload_n hO dX11_noSitting_27 rfl 2 rfl ?_
      obtain ⟨r9, M10, hq11, h⟩ := hz_ct_e h
      refine hz_callVi (as := [.int a1, .int a2]) (rest := []) hO (c_X11_yearsLacking l w hN a1 a2 hq11) hz_cal_X11_yearsLacking hz_K_9 hz_sh_178 (hz_lt_178 hN) tw_8_26 (Nat.le_of_ble_eq_true rfl) rfl rfl (Nat.le_of_ble_eq_true rfl) dX11_noSitting_28 ?_
      refine hz_if_le (tgt := 37) hO dX11_noSitting_31 (by decide) (fun hc12 => ?_) (fun hc12 => ?_)
      · rw [if_pos hc12] at h
        refine hz_aload_n hO dX11_noSitting_37 rfl 0 rfl ?_
        refine hz_iload_n hO dX11_noSitting_38 rfl 1 rfl ?_
        refine hz_iload_n hO dX11_noSitting_39 rfl 2 rfl ?_
        obtain ⟨r13, M14, hq15, h⟩ := hz_ct_e h
        refine hz_callVi (as := [.int a1, .int a2]) (rest := []) hO (c_X11_othersOn l w hN a1 a2 hq15) hz_cal_X11_othersOn hz_K_9 hz_sh_178 (hz_lt_178 hN) tw_8_30 (Nat.le_of_ble_eq_true rfl) rfl rfl (Nat.le_of_ble_eq_true rfl) dX11_noSitting_40 ?_
        refine hz_aload_n hO dX11_noSitting_43 rfl 0 rfl ?_
        refine hz_getR (k := 0) hO 179 hz_K_9 hz_sh_178 (hz_lt_178 hN) rfl (Nat.le_of_ble_eq_true rfl) tw_6_229 rfl dX11_noSitting_44 ?_
        refine hz_iconst (v := (5 : Int32)) hO dX11_noSitting_47 (by decide) ?_
        refine hz_iald hO hz_sh_179 (hz_lt_179 hN) (by decide) dX11_noSitting_48 ?_
        refine hz_icmp_lt (tgt := 57) hO dX11_noSitting_49 (by decide) (fun hc16 => ?_) (fun hc16 => ?_)
        · rw [if_pos hc16] at h
          refine hz_iconst (v := (0 : Int32)) hO dX11_noSitting_57 (by decide) ?_
          exact hz_nameM (hz_some_e h).2.symm (hz_name (hz_some_e h).1.symm (hz_iret hO dX11_noSitting_58))
        · rw [if_neg hc16] at h
          refine hz_bipush (v := (8 : Int32)) hO dX11_noSitting_52 (by decide) ?_
          refine hz_goto (tgt := 58) hO dX11_noSitting_54 (by decide) ?_
          exact hz_nameM (hz_some_e h).2.symm (hz_name (hz_some_e h).1.symm (hz_iret hO dX11_noSitting_58))
      · rw [if_neg hc12] at h
        refine hz_bipush (v := (7 : Int32)) hO dX11_noSitting_34 (by decide) ?_
        exact hz_nameM (hz_some_e h).2.symm (hz_name (hz_some_e h).1.symm (hz_iret hO dX11_noSitting_36))
    · rw [if_pos hc8] at h
      refine hz_bipush (v := (6 : Int32)) hO dX11_noSitting_22 (by decide) ?_
      exact hz_nameM (hz_some_e h).2.symm (hz_name (hz_some_e h).1.symm (hz_iret hO dX11_noSitting_24))
  · rw [if_pos hc4] at h
    refine hz_iconst (v := (5 : Int32)) hO dX11_noSitting_10 (by decide) ?_
    exact hz_nameM (hz_some_e h).2.symm (hz_name (hz_some_e h).1.symm (hz_iret hO dX11_noSitting_11))
def f_X11_noLeaving (a1 : Int32) (M : hz_M) : hz_O :=
  hz_ct (f_X11_of a1 (2 : Int32) M) fun r1 M2 =>
  if r1 = (-1 : Int32) then
    some ((5 : Int32), M2)
  else
    hz_ct (f_X11_of a1 (2 : Int32) M2) fun r5 M6 =>
    if r5 = 0 then
      some ((0 : Int32), M6)
    else
      some ((9 : Int32), M6)
set_option maxRecDepth 100000 in
set_option maxHeartbeats 4000000 in
theorem c_X11_noLeaving (l : Launch) (w : hz_C) {N : Nat} (hN : 193 ≤ N) (a1 : Int32) {M : hz_M} {rE : Int32} {ME : hz_M} (h : f_X11_noLeaving a1 M = some (rE, ME)) : hz_Ct l yX11_noLeaving cX11_noLeaving 2 (some .int) 1 w N [.ref (hz_ad w 178), .int a1] M (hz_Qi w N rE ME) := by
  refine hz_ofW (by decide) rfl (Nat.le_of_ble_eq_true rfl) tw_8_53 ?_
  intro p e s m args below meth c hO
  show hz_G p l e 1 hz_z0 s m args below meth c w N 2 _ M 0 [(0, .ref (hz_ad w 178)), (1, .int a1)] []
  unfold f_X11_noLeaving at h
  refine hz_aload_n hO dX11_noLeaving_0 rfl 0 rfl ?_
  refine hz_iload_n hO dX11_noLeaving_1 rfl 1 rfl ?_
  refine hz_iconst (v := (2 : Int32)) hO dX11_noLeaving_2 (by decide) ?_
  obtain ⟨r1, M2, hq3, h⟩ := hz_ct_e h
  refine hz_callVi (as := [.int a1, .int (2 : Int32)]) (rest := []) hO (c_X11_of l w hN a1 (2 : Int32) hq3) hz_cal_X11_of hz_K_9 hz_sh_178 (hz_lt_178 hN) tw_6_217 (Nat.le_of_ble_eq_true rfl) rfl rfl (Nat.le_of_ble_eq_true rfl) dX11_noLeaving_3 ?_
  refine hz_iconst (v := (-1 : Int32)) hO dX11_noLeaving_6 (by decide) ?_
  refine hz_icmp_ne (tgt := 14) hO dX11_noLeaving_7 (by decide) (fun hc4 => ?_) (fun hc4 => ?_)
  · rw [if_neg hc4] at h
    refine hz_aload_n hO dX11_noLeaving_14 rfl 0 rfl ?_
    refine hz_iload_n hO dX11_noLeaving_15 rfl 1 rfl ?_
    refine hz_iconst (v := (2 : Int32)) hO dX11_noLeaving_16 (by decide) ?_
    obtain ⟨r5, M6, hq7, h⟩ := hz_ct_e h
    refine hz_callVi (as := [.int a1, .int (2 : Int32)]) (rest := []) hO (c_X11_of l w hN a1 (2 : Int32) hq7) hz_cal_X11_of hz_K_9 hz_sh_178 (hz_lt_178 hN) tw_6_217 (Nat.le_of_ble_eq_true rfl) rfl rfl (Nat.le_of_ble_eq_true rfl) dX11_noLeaving_17 ?_
    refine hz_if_ne (tgt := 27) hO dX11_noLeaving_20 (by decide) (fun hc8 => ?_) (fun hc8 => ?_)
    · rw [if_neg hc8] at h
      refine hz_bipush (v := (9 : Int32)) hO dX11_noLeaving_27 (by decide) ?_
      exact hz_nameM (hz_some_e h).2.symm (hz_name (hz_some_e h).1.symm (hz_iret hO dX11_noLeaving_29))
    · rw [if_pos hc8] at h
      refine hz_iconst (v := (0 : Int32)) hO dX11_noLeaving_23 (by decide) ?_
      refine hz_goto (tgt := 29) hO dX11_noLeaving_24 (by decide) ?_
      exact hz_nameM (hz_some_e h).2.symm (hz_name (hz_some_e h).1.symm (hz_iret hO dX11_noLeaving_29))
  · rw [if_pos hc4] at h
    refine hz_iconst (v := (5 : Int32)) hO dX11_noLeaving_10 (by decide) ?_
    refine hz_goto (tgt := 29) hO dX11_noLeaving_11 (by decide) ?_
    exact hz_nameM (hz_some_e h).2.symm (hz_name (hz_some_e h).1.symm (hz_iret hO dX11_noLeaving_29))
def f_X11_noHanging (a1 : Int32) (a2 : Int32) (M : hz_M) : hz_O :=
  hz_ct (f_X11_noLeaving a1 M) fun r1 M2 =>
  if r1 = 0 then
    hz_ct (f_X11_of a1 (4 : Int32) M2) fun r5 M6 =>
    if r5 = (-1 : Int32) then
      some ((6 : Int32), M6)
    else
      hz_ct (f_X11_towelOn a2 M6) fun r9 M10 =>
      if r9 = (-1 : Int32) then
        some ((0 : Int32), M10)
      else
        some ((10 : Int32), M10)
  else
    hz_ct (f_X11_noLeaving a1 M2) fun r13 M14 =>
    some (r13, M14)
set_option maxRecDepth 100000 in
set_option maxHeartbeats 4000000 in
theorem c_X11_noHanging (l : Launch) (w : hz_C) {N : Nat} (hN : 193 ≤ N) (a1 : Int32) (a2 : Int32) {M : hz_M} {rE : Int32} {ME : hz_M} (h : f_X11_noHanging a1 a2 M = some (rE, ME)) : hz_Ct l yX11_noHanging cX11_noHanging 3 (some .int) 2 w N [.ref (hz_ad w 178), .int a1, .int a2] M (hz_Qi w N rE ME) := by
  refine hz_ofW (by decide) rfl (Nat.le_of_ble_eq_true rfl) tw_8_49 ?_
  intro p e s m args below meth c hO
  show hz_G p l e 2 hz_z0 s m args below meth c w N 3 _ M 0 [(0, .ref (hz_ad w 178)), (1, .int a1), (2, .int a2)] []
  unfold f_X11_noHanging at h
  refine hz_aload_n hO dX11_noHanging_0 rfl 0 rfl ?_
  refine hz_iload_n hO dX11_noHanging_1 rfl 1 rfl ?_
  obtain ⟨r1, M2, hq3, h⟩ := hz_ct_e h
  refine hz_callVi (as := [.int a1]) (rest := []) hO (c_X11_noLeaving l w hN a1 hq3) hz_cal_X11_noLeaving hz_K_9 hz_sh_178 (hz_lt_178 hN) tw_8_50 (Nat.le_of_ble_eq_true rfl) rfl rfl (Nat.le_of_ble_eq_true rfl) dX11_noHanging_2 ?_
  refine hz_if_eq (tgt := 14) hO dX11_noHanging_5 (by decide) (fun hc4 => ?_) (fun hc4 => ?_)
  · rw [if_pos hc4] at h
    refine hz_aload_n hO dX11_noHanging_14 rfl 0 rfl ?_
    refine hz_iload_n hO dX11_noHanging_15 rfl 1 rfl ?_
    refine hz_iconst (v := (4 : Int32)) hO dX11_noHanging_16 (by decide) ?_
    obtain ⟨r5, M6, hq7, h⟩ := hz_ct_e h
    refine hz_callVi (as := [.int a1, .int (4 : Int32)]) (rest := []) hO (c_X11_of l w hN a1 (4 : Int32) hq7) hz_cal_X11_of hz_K_9 hz_sh_178 (hz_lt_178 hN) tw_6_217 (Nat.le_of_ble_eq_true rfl) rfl rfl (Nat.le_of_ble_eq_true rfl) dX11_noHanging_17 ?_
    refine hz_iconst (v := (-1 : Int32)) hO dX11_noHanging_20 (by decide) ?_
    refine hz_icmp_ne (tgt := 27) hO dX11_noHanging_21 (by decide) (fun hc8 => ?_) (fun hc8 => ?_)
    · rw [if_neg hc8] at h
      refine hz_aload_n hO dX11_noHanging_27 rfl 0 rfl ?_
      refine hz_iload_n hO dX11_noHanging_28 rfl 2 rfl ?_
      obtain ⟨r9, M10, hq11, h⟩ := hz_ct_e h
      refine hz_callVi (as := [.int a2]) (rest := []) hO (c_X11_towelOn l w hN a2 hq11) hz_cal_X11_towelOn hz_K_9 hz_sh_178 (hz_lt_178 hN) tw_7_173 (Nat.le_of_ble_eq_true rfl) rfl rfl (Nat.le_of_ble_eq_true rfl) dX11_noHanging_29 ?_
      refine hz_iconst (v := (-1 : Int32)) hO dX11_noHanging_32 (by decide) ?_
      refine hz_icmp_ne (tgt := 40) hO dX11_noHanging_33 (by decide) (fun hc12 => ?_) (fun hc12 => ?_)
      · rw [if_neg hc12] at h
        refine hz_bipush (v := (10 : Int32)) hO dX11_noHanging_40 (by decide) ?_
        exact hz_nameM (hz_some_e h).2.symm (hz_name (hz_some_e h).1.symm (hz_iret hO dX11_noHanging_42))
      · rw [if_pos hc12] at h
        refine hz_iconst (v := (0 : Int32)) hO dX11_noHanging_36 (by decide) ?_
        refine hz_goto (tgt := 42) hO dX11_noHanging_37 (by decide) ?_
        exact hz_nameM (hz_some_e h).2.symm (hz_name (hz_some_e h).1.symm (hz_iret hO dX11_noHanging_42))
    · rw [if_pos hc8] at h
      refine hz_bipush (v := (6 : Int32)) hO dX11_noHanging_24 (by decide) ?_
      exact hz_nameM (hz_some_e h).2.symm (hz_name (hz_some_e h).1.symm (hz_iret hO dX11_noHanging_26))
  · rw [if_neg hc4] at h
    refine hz_aload_n hO dX11_noHanging_8 rfl 0 rfl ?_
    refine hz_iload_n hO dX11_noHanging_9 rfl 1 rfl ?_
    obtain ⟨r13, M14, hq15, h⟩ := hz_ct_e h
    refine hz_callVi (as := [.int a1]) (rest := []) hO (c_X11_noLeaving l w hN a1 hq15) hz_cal_X11_noLeaving hz_K_9 hz_sh_178 (hz_lt_178 hN) tw_8_50 (Nat.le_of_ble_eq_true rfl) rfl rfl (Nat.le_of_ble_eq_true rfl) dX11_noHanging_10 ?_
    exact hz_nameM (hz_some_e h).2.symm (hz_name (hz_some_e h).1.symm (hz_iret hO dX11_noHanging_13))
def f_X11_noTaking (a1 : Int32) (a2 : Int32) (M : hz_M) : hz_O :=
  hz_ct (f_X11_noLeaving a1 M) fun r1 M2 =>
  if r1 = 0 then
    hz_ct (f_X11_of a1 (4 : Int32) M2) fun r5 M6 =>
    if r5 = (-1 : Int32) then
      hz_ct (f_X11_towelOn a2 M6) fun r9 M10 =>
      if r9 = (-1 : Int32) then
        some ((12 : Int32), M10)
      else
        some ((0 : Int32), M10)
    else
      some ((11 : Int32), M6)
  else
    hz_ct (f_X11_noLeaving a1 M2) fun r13 M14 =>
    some (r13, M14)
set_option maxRecDepth 100000 in
set_option maxHeartbeats 4000000 in
theorem c_X11_noTaking (l : Launch) (w : hz_C) {N : Nat} (hN : 193 ≤ N) (a1 : Int32) (a2 : Int32) {M : hz_M} {rE : Int32} {ME : hz_M} (h : f_X11_noTaking a1 a2 M = some (rE, ME)) : hz_Ct l yX11_noTaking cX11_noTaking 3 (some .int) 2 w N [.ref (hz_ad w 178), .int a1, .int a2] M (hz_Qi w N rE ME) := by
  refine hz_ofW (by decide) rfl (Nat.le_of_ble_eq_true rfl) tw_8_61 ?_
  intro p e s m args below meth c hO
  show hz_G p l e 2 hz_z0 s m args below meth c w N 3 _ M 0 [(0, .ref (hz_ad w 178)), (1, .int a1), (2, .int a2)] []
  unfold f_X11_noTaking at h
  refine hz_aload_n hO dX11_noTaking_0 rfl 0 rfl ?_
  refine hz_iload_n hO dX11_noTaking_1 rfl 1 rfl ?_
  obtain ⟨r1, M2, hq3, h⟩ := hz_ct_e h
  refine hz_callVi (as := [.int a1]) (rest := []) hO (c_X11_noLeaving l w hN a1 hq3) hz_cal_X11_noLeaving hz_K_9 hz_sh_178 (hz_lt_178 hN) tw_8_50 (Nat.le_of_ble_eq_true rfl) rfl rfl (Nat.le_of_ble_eq_true rfl) dX11_noTaking_2 ?_
  refine hz_if_eq (tgt := 14) hO dX11_noTaking_5 (by decide) (fun hc4 => ?_) (fun hc4 => ?_)
  · rw [if_pos hc4] at h
    refine hz_aload_n hO dX11_noTaking_14 rfl 0 rfl ?_
    refine hz_iload_n hO dX11_noTaking_15 rfl 1 rfl ?_
    refine hz_iconst (v := (4 : Int32)) hO dX11_noTaking_16 (by decide) ?_
    obtain ⟨r5, M6, hq7, h⟩ := hz_ct_e h
    refine hz_callVi (as := [.int a1, .int (4 : Int32)]) (rest := []) hO (c_X11_of l w hN a1 (4 : Int32) hq7) hz_cal_X11_of hz_K_9 hz_sh_178 (hz_lt_178 hN) tw_6_217 (Nat.le_of_ble_eq_true rfl) rfl rfl (Nat.le_of_ble_eq_true rfl) dX11_noTaking_17 ?_
    refine hz_iconst (v := (-1 : Int32)) hO dX11_noTaking_20 (by decide) ?_
    refine hz_icmp_eq (tgt := 27) hO dX11_noTaking_21 (by decide) (fun hc8 => ?_) (fun hc8 => ?_)
    · rw [if_pos hc8] at h
      refine hz_aload_n hO dX11_noTaking_27 rfl 0 rfl ?_
      refine hz_iload_n hO dX11_noTaking_28 rfl 2 rfl ?_
      obtain ⟨r9, M10, hq11, h⟩ := hz_ct_e h
      refine hz_callVi (as := [.int a2]) (rest := []) hO (c_X11_towelOn l w hN a2 hq11) hz_cal_X11_towelOn hz_K_9 hz_sh_178 (hz_lt_178 hN) tw_7_173 (Nat.le_of_ble_eq_true rfl) rfl rfl (Nat.le_of_ble_eq_true rfl) dX11_noTaking_29 ?_
      refine hz_iconst (v := (-1 : Int32)) hO dX11_noTaking_32 (by decide) ?_
      refine hz_icmp_ne (tgt := 41) hO dX11_noTaking_33 (by decide) (fun hc12 => ?_) (fun hc12 => ?_)
      · rw [if_neg hc12] at h
        refine hz_iconst (v := (0 : Int32)) hO dX11_noTaking_41 (by decide) ?_
        exact hz_nameM (hz_some_e h).2.symm (hz_name (hz_some_e h).1.symm (hz_iret hO dX11_noTaking_42))
      · rw [if_pos hc12] at h
        refine hz_bipush (v := (12 : Int32)) hO dX11_noTaking_36 (by decide) ?_
        refine hz_goto (tgt := 42) hO dX11_noTaking_38 (by decide) ?_
        exact hz_nameM (hz_some_e h).2.symm (hz_name (hz_some_e h).1.symm (hz_iret hO dX11_noTaking_42))
    · rw [if_neg hc8] at h
      refine hz_bipush (v := (11 : Int32)) hO dX11_noTaking_24 (by decide) ?_
      exact hz_nameM (hz_some_e h).2.symm (hz_name (hz_some_e h).1.symm (hz_iret hO dX11_noTaking_26))
  · rw [if_neg hc4] at h
    refine hz_aload_n hO dX11_noTaking_8 rfl 0 rfl ?_
    refine hz_iload_n hO dX11_noTaking_9 rfl 1 rfl ?_
    obtain ⟨r13, M14, hq15, h⟩ := hz_ct_e h
    refine hz_callVi (as := [.int a1]) (rest := []) hO (c_X11_noLeaving l w hN a1 hq15) hz_cal_X11_noLeaving hz_K_9 hz_sh_178 (hz_lt_178 hN) tw_8_50 (Nat.le_of_ble_eq_true rfl) rfl rfl (Nat.le_of_ble_eq_true rfl) dX11_noTaking_10 ?_
    exact hz_nameM (hz_some_e h).2.symm (hz_name (hz_some_e h).1.symm (hz_iret hO dX11_noTaking_13))
def f_X11_reasonOf (a1 : Int32) (a2 : Int32) (M : hz_M) : hz_O :=
  if a2 = 0 then
    hz_ct (f_X11_noEntering a1 M) fun r17 M18 =>
    some (r17, M18)
  else
    if a2 = (1 : Int32) then
      hz_ct (f_X11_noLeaving a1 M) fun r14 M15 =>
      some (r14, M15)
    else
      if (20 : Int32) ≤ a2 then
        if (40 : Int32) ≤ a2 then
          hz_ct (f_X11_noTaking a1 (a2 - (40 : Int32)) M) fun r5 M6 =>
          some (r5, M6)
        else
          hz_ct (f_X11_noHanging a1 (a2 - (20 : Int32)) M) fun r8 M9 =>
          some (r8, M9)
      else
        hz_ct (f_X11_noSitting a1 (a2 - (10 : Int32)) M) fun r11 M12 =>
        some (r11, M12)
set_option maxRecDepth 100000 in
set_option maxHeartbeats 4000000 in
theorem c_X11_reasonOf (l : Launch) (w : hz_C) {N : Nat} (hN : 193 ≤ N) (a1 : Int32) (a2 : Int32) {M : hz_M} {rE : Int32} {ME : hz_M} (h : f_X11_reasonOf a1 a2 M = some (rE, ME)) : hz_Ct l yX11_reasonOf cX11_reasonOf 3 (some .int) 4 w N [.ref (hz_ad w 178), .int a1, .int a2] M (hz_Qi w N rE ME) := by
  refine hz_ofW (by decide) rfl (Nat.le_of_ble_eq_true rfl) tw_8_164 ?_
  intro p e s m args below meth c hO
  show hz_G p l e 4 hz_z0 s m args below meth c w N 3 _ M 0 [(0, .ref (hz_ad w 178)), (1, .int a1), (2, .int a2)] []
  unfold f_X11_reasonOf at h
  refine hz_iload_n hO dX11_reasonOf_0 rfl 2 rfl ?_
  refine hz_if_ne (tgt := 10) hO dX11_reasonOf_1 (by decide) (fun hc1 => ?_) (fun hc1 => ?_)
  · rw [if_neg hc1] at h
    refine hz_iload_n hO dX11_reasonOf_10 rfl 2 rfl ?_
    refine hz_iconst (v := (1 : Int32)) hO dX11_reasonOf_11 (by decide) ?_
    refine hz_icmp_ne (tgt := 21) hO dX11_reasonOf_12 (by decide) (fun hc2 => ?_) (fun hc2 => ?_)
    · rw [if_neg hc2] at h
      refine hz_iload_n hO dX11_reasonOf_21 rfl 2 rfl ?_
      refine hz_bipush (v := (20 : Int32)) hO dX11_reasonOf_22 (by decide) ?_
      refine hz_icmp_ge (tgt := 37) hO dX11_reasonOf_24 (by decide) (fun hc3 => ?_) (fun hc3 => ?_)
      · rw [if_pos hc3] at h
        refine hz_iload_n hO dX11_reasonOf_37 rfl 2 rfl ?_
        refine hz_bipush (v := (40 : Int32)) hO dX11_reasonOf_38 (by decide) ?_
        refine hz_icmp_ge (tgt := 55) hO dX11_reasonOf_40 (by decide) (fun hc4 => ?_) (fun hc4 => ?_)
        · rw [if_pos hc4] at h
          refine hz_aload_n hO dX11_reasonOf_55 rfl 0 rfl ?_
          refine hz_iload_n hO dX11_reasonOf_56 rfl 1 rfl ?_
          refine hz_iload_n hO dX11_reasonOf_57 rfl 2 rfl ?_
          refine hz_bipush (v := (40 : Int32)) hO dX11_reasonOf_58 (by decide) ?_
          refine hz_isub hO dX11_reasonOf_60 ?_
          obtain ⟨r5, M6, hq7, h⟩ := hz_ct_e h
          refine hz_callVi (as := [.int a1, .int (a2 - (40 : Int32))]) (rest := []) hO (c_X11_noTaking l w hN a1 (a2 - (40 : Int32)) hq7) hz_cal_X11_noTaking hz_K_9 hz_sh_178 (hz_lt_178 hN) tw_8_58 (Nat.le_of_ble_eq_true rfl) rfl rfl (Nat.le_of_ble_eq_true rfl) dX11_reasonOf_61 ?_
          exact hz_nameM (hz_some_e h).2.symm (hz_name (hz_some_e h).1.symm (hz_iret hO dX11_reasonOf_64))
        · rw [if_neg hc4] at h
          refine hz_aload_n hO dX11_reasonOf_43 rfl 0 rfl ?_
          refine hz_iload_n hO dX11_reasonOf_44 rfl 1 rfl ?_
          refine hz_iload_n hO dX11_reasonOf_45 rfl 2 rfl ?_
          refine hz_bipush (v := (20 : Int32)) hO dX11_reasonOf_46 (by decide) ?_
          refine hz_isub hO dX11_reasonOf_48 ?_
          obtain ⟨r8, M9, hq10, h⟩ := hz_ct_e h
          refine hz_callVi (as := [.int a1, .int (a2 - (20 : Int32))]) (rest := []) hO (c_X11_noHanging l w hN a1 (a2 - (20 : Int32)) hq10) hz_cal_X11_noHanging hz_K_9 hz_sh_178 (hz_lt_178 hN) tw_8_46 (Nat.le_of_ble_eq_true rfl) rfl rfl (Nat.le_of_ble_eq_true rfl) dX11_reasonOf_49 ?_
          refine hz_goto (tgt := 64) hO dX11_reasonOf_52 (by decide) ?_
          exact hz_nameM (hz_some_e h).2.symm (hz_name (hz_some_e h).1.symm (hz_iret hO dX11_reasonOf_64))
      · rw [if_neg hc3] at h
        refine hz_aload_n hO dX11_reasonOf_27 rfl 0 rfl ?_
        refine hz_iload_n hO dX11_reasonOf_28 rfl 1 rfl ?_
        refine hz_iload_n hO dX11_reasonOf_29 rfl 2 rfl ?_
        refine hz_bipush (v := (10 : Int32)) hO dX11_reasonOf_30 (by decide) ?_
        refine hz_isub hO dX11_reasonOf_32 ?_
        obtain ⟨r11, M12, hq13, h⟩ := hz_ct_e h
        refine hz_callVi (as := [.int a1, .int (a2 - (10 : Int32))]) (rest := []) hO (c_X11_noSitting l w hN a1 (a2 - (10 : Int32)) hq13) hz_cal_X11_noSitting hz_K_9 hz_sh_178 (hz_lt_178 hN) tw_8_22 (Nat.le_of_ble_eq_true rfl) rfl rfl (Nat.le_of_ble_eq_true rfl) dX11_reasonOf_33 ?_
        exact hz_nameM (hz_some_e h).2.symm (hz_name (hz_some_e h).1.symm (hz_iret hO dX11_reasonOf_36))
    · rw [if_pos hc2] at h
      refine hz_aload_n hO dX11_reasonOf_15 rfl 0 rfl ?_
      refine hz_iload_n hO dX11_reasonOf_16 rfl 1 rfl ?_
      obtain ⟨r14, M15, hq16, h⟩ := hz_ct_e h
      refine hz_callVi (as := [.int a1]) (rest := []) hO (c_X11_noLeaving l w hN a1 hq16) hz_cal_X11_noLeaving hz_K_9 hz_sh_178 (hz_lt_178 hN) tw_8_50 (Nat.le_of_ble_eq_true rfl) rfl rfl (Nat.le_of_ble_eq_true rfl) dX11_reasonOf_17 ?_
      exact hz_nameM (hz_some_e h).2.symm (hz_name (hz_some_e h).1.symm (hz_iret hO dX11_reasonOf_20))
  · rw [if_pos hc1] at h
    refine hz_aload_n hO dX11_reasonOf_4 rfl 0 rfl ?_
    refine hz_iload_n hO dX11_reasonOf_5 rfl 1 rfl ?_
    obtain ⟨r17, M18, hq19, h⟩ := hz_ct_e h
    refine hz_callVi (as := [.int a1]) (rest := []) hO (c_X11_noEntering l w hN a1 hq19) hz_cal_X11_noEntering hz_K_9 hz_sh_178 (hz_lt_178 hN) tw_7_234 (Nat.le_of_ble_eq_true rfl) rfl rfl (Nat.le_of_ble_eq_true rfl) dX11_reasonOf_6 ?_
    exact hz_nameM (hz_some_e h).2.symm (hz_name (hz_some_e h).1.symm (hz_iret hO dX11_reasonOf_9))
def f_X11_firstOn_L2 : Nat → Int32 → Int32 → Int32 → hz_M → hz_O
  | 0, _, _, _, _ => none
  | n + 1, v1_1, v2_2, v3_3, M4 =>
    if (M4 179 (Int32.toNatClampNeg (11 : Int32))) ≤ v3_3 then
      some ((-1 : Int32), M4)
    else
      hz_jn (fun (v1_6 : Int32) (v2_7 : Int32) (v3_8 : Int32) (M9 : hz_M) =>
        hz_lt (v3_8 + (1 : Int32)) fun x10 =>
        f_X11_firstOn_L2 n v1_6 v2_7 x10 M9
        ) fun k11 =>
      if v3_3 = v1_1 then
        k11 v1_1 v2_2 v3_3 M4
      else
        hz_ct (f_X11_of v3_3 (2 : Int32) M4) fun r13 M14 =>
        if r13 = v2_2 then
          some (v3_3, M14)
        else
          k11 v1_1 v2_2 v3_3 M14
def f_X11_firstOn (a1 : Int32) (a2 : Int32) (M : hz_M) : hz_O :=
  f_X11_firstOn_L2 hz_FU a1 a2 (0 : Int32) M
set_option maxRecDepth 100000 in
set_option maxHeartbeats 4000000 in
theorem g_X11_firstOn_L2 {p : Program} {l : Launch} {e : Env} {s : State} {m : MethodId} {args : Array Value} {below : List Frame} {meth : Method} {c : Code} {w : hz_C} {N : Nat} (hN : 193 ≤ N) {rE : Int32} {ME : hz_M} (hO : hz_Ok p s m args meth c w cX11_firstOn 4 RX11 (some .int)) : ∀ (n : Nat) (v1_1 : Int32) (v2_2 : Int32) (v3_3 : Int32) (M4 : hz_M), f_X11_firstOn_L2 n v1_1 v2_2 v3_3 M4 = some (rE, ME) → hz_G p l e 1 hz_z0 s m args below meth c w N 4 (MQ below (hz_Qi w N rE ME) args s 0 0 (hz_A w)) M4 2 [(0, .ref (hz_ad w 178)), (1, .int v1_1), (2, .int v2_2), (3, .int v3_3)] [] := by
  intro n
  induction n with
  | zero =>
    intro v1_1 v2_2 v3_3 M4 h
    rw [f_X11_firstOn_L2] at h
    cases h
  | succ n ih =>
    intro v1_1 v2_2 v3_3 M4 h
    rw [f_X11_firstOn_L2] at h
    refine hz_iload_n hO dX11_firstOn_2 rfl 3 rfl ?_
    refine hz_aload_n hO dX11_firstOn_3 rfl 0 rfl ?_
    refine hz_getR (k := 0) hO 179 hz_K_9 hz_sh_178 (hz_lt_178 hN) rfl (Nat.le_of_ble_eq_true rfl) tw_6_229 rfl dX11_firstOn_4 ?_
    refine hz_bipush (v := (11 : Int32)) hO dX11_firstOn_7 (by decide) ?_
    refine hz_iald hO hz_sh_179 (hz_lt_179 hN) (by decide) dX11_firstOn_9 ?_
    refine hz_icmp_ge (tgt := 36) hO dX11_firstOn_10 (by decide) (fun hc5 => ?_) (fun hc5 => ?_)
    · rw [if_pos hc5] at h
      refine hz_iconst (v := (-1 : Int32)) hO dX11_firstOn_36 (by decide) ?_
      exact hz_nameM (hz_some_e h).2.symm (hz_name (hz_some_e h).1.symm (hz_iret hO dX11_firstOn_37))
    · rw [if_neg hc5] at h
      refine hz_iload_n hO dX11_firstOn_13 rfl 3 rfl ?_
      refine hz_iload_n hO dX11_firstOn_14 rfl 1 rfl ?_
      obtain ⟨k11, hk11, h⟩ := hz_jn_e h
      have gk11 : ∀ (v1_6 : Int32) (v2_7 : Int32) (v3_8 : Int32) (M9 : hz_M), k11 v1_6 v2_7 v3_8 M9 = some (rE, ME) → hz_G p l e 1 hz_z0 s m args below meth c w N 4 (MQ below (hz_Qi w N rE ME) args s 0 0 (hz_A w)) M9 30 [(0, .ref (hz_ad w 178)), (1, .int v1_6), (2, .int v2_7), (3, .int v3_8)] [] := by
        intro v1_6 v2_7 v3_8 M9 h
        rw [hk11] at h
        dsimp only at h
        obtain ⟨x10, h_x10, h⟩ := hz_lt_e h
        refine hz_iinc (k := 3) (v := x10) (ls1 := [(3, .int x10), (0, .ref (hz_ad w 178)), (1, .int v1_6), (2, .int v2_7)]) hO dX11_firstOn_30 rfl (by rw [h_x10]; rfl) (Nat.le_of_ble_eq_true rfl) rfl ?_
        refine hz_goto (tgt := 2) hO dX11_firstOn_33 (by decide) ?_
        exact hz_ls [1, 2, 3, 0] rfl (ih v1_6 v2_7 x10 M9 h)
      clear hk11
      refine hz_icmp_eq (tgt := 30) hO dX11_firstOn_15 (by decide) (fun hc12 => ?_) (fun hc12 => ?_)
      · rw [if_pos hc12] at h
        exact hz_ls [0, 1, 2, 3] rfl (gk11 v1_1 v2_2 v3_3 M4 h)
      · rw [if_neg hc12] at h
        refine hz_aload_n hO dX11_firstOn_18 rfl 0 rfl ?_
        refine hz_iload_n hO dX11_firstOn_19 rfl 3 rfl ?_
        refine hz_iconst (v := (2 : Int32)) hO dX11_firstOn_20 (by decide) ?_
        obtain ⟨r13, M14, hq15, h⟩ := hz_ct_e h
        refine hz_callVi (as := [.int v3_3, .int (2 : Int32)]) (rest := []) hO (c_X11_of l w hN v3_3 (2 : Int32) hq15) hz_cal_X11_of hz_K_9 hz_sh_178 (hz_lt_178 hN) tw_6_217 (Nat.le_of_ble_eq_true rfl) rfl rfl (Nat.le_of_ble_eq_true rfl) dX11_firstOn_21 ?_
        refine hz_iload_n hO dX11_firstOn_24 rfl 2 rfl ?_
        refine hz_icmp_ne (tgt := 30) hO dX11_firstOn_25 (by decide) (fun hc16 => ?_) (fun hc16 => ?_)
        · rw [if_neg hc16] at h
          exact hz_ls [0, 1, 2, 3] rfl (gk11 v1_1 v2_2 v3_3 M14 h)
        · rw [if_pos hc16] at h
          refine hz_iload_n hO dX11_firstOn_28 rfl 3 rfl ?_
          exact hz_nameM (hz_some_e h).2.symm (hz_name (hz_some_e h).1.symm (hz_iret hO dX11_firstOn_29))
set_option maxRecDepth 100000 in
set_option maxHeartbeats 4000000 in
theorem c_X11_firstOn (l : Launch) (w : hz_C) {N : Nat} (hN : 193 ≤ N) (a1 : Int32) (a2 : Int32) {M : hz_M} {rE : Int32} {ME : hz_M} (h : f_X11_firstOn a1 a2 M = some (rE, ME)) : hz_Ct l yX11_firstOn cX11_firstOn 4 (some .int) 1 w N [.ref (hz_ad w 178), .int a1, .int a2] M (hz_Qi w N rE ME) := by
  refine hz_ofW (by decide) rfl (Nat.le_of_ble_eq_true rfl) tw_8_172 ?_
  intro p e s m args below meth c hO
  show hz_G p l e 1 hz_z0 s m args below meth c w N 4 _ M 0 [(0, .ref (hz_ad w 178)), (1, .int a1), (2, .int a2)] []
  unfold f_X11_firstOn at h
  refine hz_iconst (v := (0 : Int32)) hO dX11_firstOn_0 (by decide) ?_
  refine hz_istore_n (ls1 := [(3, .int (0 : Int32)), (0, .ref (hz_ad w 178)), (1, .int a1), (2, .int a2)]) hO dX11_firstOn_1 rfl (Nat.le_of_ble_eq_true rfl) rfl ?_
  exact hz_ls [1, 2, 3, 0] rfl (g_X11_firstOn_L2 hN hO _ a1 a2 (0 : Int32) M h)
def f_X11_causeOf (a1 : Int32) (a2 : Int32) (M : hz_M) : hz_O :=
  hz_ct (f_X11_reasonOf a1 a2 M) fun r1 M2 =>
  if r1 = 2 then
    some (((700 : Int32) - ((M2 179 (Int32.toNatClampNeg (8 : Int32))) - (M2 179 (Int32.toNatClampNeg (8 : Int32))) / (600 : Int32) * (600 : Int32))), M2)
  else
  if r1 = 3 then
    some (((200 : Int32) + (M2 179 (Int32.toNatClampNeg (0 : Int32)))), M2)
  else
  if r1 = 7 then
    hz_ct (f_X11_yearsLacking a1 (a2 - (10 : Int32)) M2) fun r7 M8 =>
    some (((300 : Int32) + r7), M8)
  else
  if r1 = 8 then
    hz_ct (f_X11_firstOn a1 (a2 - (10 : Int32)) M2) fun r11 M12 =>
    some (((400 : Int32) + r11), M12)
  else
  if r1 = 9 then
    hz_ct (f_X11_of a1 (2 : Int32) M2) fun r15 M16 =>
    some (((500 : Int32) + r15), M16)
  else
  if r1 = 10 then
    hz_ct (f_X11_towelOn (a2 - (20 : Int32)) M2) fun r19 M20 =>
    some (((600 : Int32) + r19), M20)
  else
  some ((0 : Int32), M2)
set_option maxRecDepth 100000 in
set_option maxHeartbeats 4000000 in
theorem c_X11_causeOf (l : Launch) (w : hz_C) {N : Nat} (hN : 193 ≤ N) (a1 : Int32) (a2 : Int32) {M : hz_M} {rE : Int32} {ME : hz_M} (h : f_X11_causeOf a1 a2 M = some (rE, ME)) : hz_Ct l yX11_causeOf cX11_causeOf 3 (some .int) 5 w N [.ref (hz_ad w 178), .int a1, .int a2] M (hz_Qi w N rE ME) := by
  refine hz_ofW (by decide) rfl (Nat.le_of_ble_eq_true rfl) tw_8_168 ?_
  intro p e s m args below meth c hO
  show hz_G p l e 5 hz_z0 s m args below meth c w N 3 _ M 0 [(0, .ref (hz_ad w 178)), (1, .int a1), (2, .int a2)] []
  unfold f_X11_causeOf at h
  refine hz_aload_n hO dX11_causeOf_0 rfl 0 rfl ?_
  refine hz_iload_n hO dX11_causeOf_1 rfl 1 rfl ?_
  refine hz_iload_n hO dX11_causeOf_2 rfl 2 rfl ?_
  obtain ⟨r1, M2, hq3, h⟩ := hz_ct_e h
  refine hz_callVi (as := [.int a1, .int a2]) (rest := []) hO (c_X11_reasonOf l w hN a1 a2 hq3) hz_cal_X11_reasonOf hz_K_9 hz_sh_178 (hz_lt_178 hN) tw_8_161 (Nat.le_of_ble_eq_true rfl) rfl rfl (Nat.le_of_ble_eq_true rfl) dX11_causeOf_3 ?_
  by_cases hc4 : r1 = (2 : Int32)
  · rw [if_pos hc4] at h
    refine hz_tin (tgt := 56) hO hc4 dX11_causeOf_6 (by decide) (by decide) rfl (by decide) ?_
    refine hz_sipush (v := (700 : Int32)) hO dX11_causeOf_56 (by decide) ?_
    refine hz_aload_n hO dX11_causeOf_59 rfl 0 rfl ?_
    refine hz_getR (k := 0) hO 179 hz_K_9 hz_sh_178 (hz_lt_178 hN) rfl (Nat.le_of_ble_eq_true rfl) tw_6_229 rfl dX11_causeOf_60 ?_
    refine hz_bipush (v := (8 : Int32)) hO dX11_causeOf_63 (by decide) ?_
    refine hz_iald hO hz_sh_179 (hz_lt_179 hN) (by decide) dX11_causeOf_65 ?_
    refine hz_sipush (v := (600 : Int32)) hO dX11_causeOf_66 (by decide) ?_
    refine hz_irem hO dX11_causeOf_69 (by decide) ?_
    refine hz_isub hO dX11_causeOf_70 ?_
    exact hz_nameM (hz_some_e h).2.symm (hz_name (hz_some_e h).1.symm (hz_iret hO dX11_causeOf_71))
  · rw [if_neg hc4] at h
    by_cases hc5 : r1 = (3 : Int32)
    · rw [if_pos hc5] at h
      refine hz_tin (tgt := 72) hO hc5 dX11_causeOf_6 (by decide) (by decide) rfl (by decide) ?_
      refine hz_sipush (v := (200 : Int32)) hO dX11_causeOf_72 (by decide) ?_
      refine hz_aload_n hO dX11_causeOf_75 rfl 0 rfl ?_
      refine hz_getR (k := 0) hO 179 hz_K_9 hz_sh_178 (hz_lt_178 hN) rfl (Nat.le_of_ble_eq_true rfl) tw_6_229 rfl dX11_causeOf_76 ?_
      refine hz_iconst (v := (0 : Int32)) hO dX11_causeOf_79 (by decide) ?_
      refine hz_iald hO hz_sh_179 (hz_lt_179 hN) (by decide) dX11_causeOf_80 ?_
      refine hz_iadd hO dX11_causeOf_81 ?_
      exact hz_nameM (hz_some_e h).2.symm (hz_name (hz_some_e h).1.symm (hz_iret hO dX11_causeOf_82))
    · rw [if_neg hc5] at h
      by_cases hc6 : r1 = (7 : Int32)
      · rw [if_pos hc6] at h
        refine hz_tin (tgt := 83) hO hc6 dX11_causeOf_6 (by decide) (by decide) rfl (by decide) ?_
        refine hz_sipush (v := (300 : Int32)) hO dX11_causeOf_83 (by decide) ?_
        refine hz_aload_n hO dX11_causeOf_86 rfl 0 rfl ?_
        refine hz_iload_n hO dX11_causeOf_87 rfl 1 rfl ?_
        refine hz_iload_n hO dX11_causeOf_88 rfl 2 rfl ?_
        refine hz_bipush (v := (10 : Int32)) hO dX11_causeOf_89 (by decide) ?_
        refine hz_isub hO dX11_causeOf_91 ?_
        obtain ⟨r7, M8, hq9, h⟩ := hz_ct_e h
        refine hz_callVi (as := [.int a1, .int (a2 - (10 : Int32))]) (rest := [.int (300 : Int32)]) hO (c_X11_yearsLacking l w hN a1 (a2 - (10 : Int32)) hq9) hz_cal_X11_yearsLacking hz_K_9 hz_sh_178 (hz_lt_178 hN) tw_8_26 (Nat.le_of_ble_eq_true rfl) rfl rfl (Nat.le_of_ble_eq_true rfl) dX11_causeOf_92 ?_
        refine hz_iadd hO dX11_causeOf_95 ?_
        exact hz_nameM (hz_some_e h).2.symm (hz_name (hz_some_e h).1.symm (hz_iret hO dX11_causeOf_96))
      · rw [if_neg hc6] at h
        by_cases hc10 : r1 = (8 : Int32)
        · rw [if_pos hc10] at h
          refine hz_tin (tgt := 97) hO hc10 dX11_causeOf_6 (by decide) (by decide) rfl (by decide) ?_
          refine hz_sipush (v := (400 : Int32)) hO dX11_causeOf_97 (by decide) ?_
          refine hz_aload_n hO dX11_causeOf_100 rfl 0 rfl ?_
          refine hz_iload_n hO dX11_causeOf_101 rfl 1 rfl ?_
          refine hz_iload_n hO dX11_causeOf_102 rfl 2 rfl ?_
          refine hz_bipush (v := (10 : Int32)) hO dX11_causeOf_103 (by decide) ?_
          refine hz_isub hO dX11_causeOf_105 ?_
          obtain ⟨r11, M12, hq13, h⟩ := hz_ct_e h
          refine hz_callVi (as := [.int a1, .int (a2 - (10 : Int32))]) (rest := [.int (400 : Int32)]) hO (c_X11_firstOn l w hN a1 (a2 - (10 : Int32)) hq13) hz_cal_X11_firstOn hz_K_9 hz_sh_178 (hz_lt_178 hN) tw_8_169 (Nat.le_of_ble_eq_true rfl) rfl rfl (Nat.le_of_ble_eq_true rfl) dX11_causeOf_106 ?_
          refine hz_iadd hO dX11_causeOf_109 ?_
          exact hz_nameM (hz_some_e h).2.symm (hz_name (hz_some_e h).1.symm (hz_iret hO dX11_causeOf_110))
        · rw [if_neg hc10] at h
          by_cases hc14 : r1 = (9 : Int32)
          · rw [if_pos hc14] at h
            refine hz_tin (tgt := 111) hO hc14 dX11_causeOf_6 (by decide) (by decide) rfl (by decide) ?_
            refine hz_sipush (v := (500 : Int32)) hO dX11_causeOf_111 (by decide) ?_
            refine hz_aload_n hO dX11_causeOf_114 rfl 0 rfl ?_
            refine hz_iload_n hO dX11_causeOf_115 rfl 1 rfl ?_
            refine hz_iconst (v := (2 : Int32)) hO dX11_causeOf_116 (by decide) ?_
            obtain ⟨r15, M16, hq17, h⟩ := hz_ct_e h
            refine hz_callVi (as := [.int a1, .int (2 : Int32)]) (rest := [.int (500 : Int32)]) hO (c_X11_of l w hN a1 (2 : Int32) hq17) hz_cal_X11_of hz_K_9 hz_sh_178 (hz_lt_178 hN) tw_6_217 (Nat.le_of_ble_eq_true rfl) rfl rfl (Nat.le_of_ble_eq_true rfl) dX11_causeOf_117 ?_
            refine hz_iadd hO dX11_causeOf_120 ?_
            exact hz_nameM (hz_some_e h).2.symm (hz_name (hz_some_e h).1.symm (hz_iret hO dX11_causeOf_121))
          · rw [if_neg hc14] at h
            by_cases hc18 : r1 = (10 : Int32)
            · rw [if_pos hc18] at h
              refine hz_tin (tgt := 122) hO hc18 dX11_causeOf_6 (by decide) (by decide) rfl (by decide) ?_
              refine hz_sipush (v := (600 : Int32)) hO dX11_causeOf_122 (by decide) ?_
              refine hz_aload_n hO dX11_causeOf_125 rfl 0 rfl ?_
              refine hz_iload_n hO dX11_causeOf_126 rfl 2 rfl ?_
              refine hz_bipush (v := (20 : Int32)) hO dX11_causeOf_127 (by decide) ?_
              refine hz_isub hO dX11_causeOf_129 ?_
              obtain ⟨r19, M20, hq21, h⟩ := hz_ct_e h
              refine hz_callVi (as := [.int (a2 - (20 : Int32))]) (rest := [.int (600 : Int32)]) hO (c_X11_towelOn l w hN (a2 - (20 : Int32)) hq21) hz_cal_X11_towelOn hz_K_9 hz_sh_178 (hz_lt_178 hN) tw_7_173 (Nat.le_of_ble_eq_true rfl) rfl rfl (Nat.le_of_ble_eq_true rfl) dX11_causeOf_130 ?_
              refine hz_iadd hO dX11_causeOf_133 ?_
              exact hz_nameM (hz_some_e h).2.symm (hz_name (hz_some_e h).1.symm (hz_iret hO dX11_causeOf_134))
            · rw [if_neg hc18] at h
              by_cases hc22 : r1 = (4 : Int32)
              · refine hz_tin (tgt := 135) hO hc22 dX11_causeOf_6 (by decide) (by decide) rfl (by decide) ?_
                refine hz_iconst (v := (0 : Int32)) hO dX11_causeOf_135 (by decide) ?_
                exact hz_nameM (hz_some_e h).2.symm (hz_name (hz_some_e h).1.symm (hz_iret hO dX11_causeOf_136))
              ·
                by_cases hc23 : r1 = (5 : Int32)
                · refine hz_tin (tgt := 135) hO hc23 dX11_causeOf_6 (by decide) (by decide) rfl (by decide) ?_
                  refine hz_iconst (v := (0 : Int32)) hO dX11_causeOf_135 (by decide) ?_
                  exact hz_nameM (hz_some_e h).2.symm (hz_name (hz_some_e h).1.symm (hz_iret hO dX11_causeOf_136))
                ·
                  by_cases hc24 : r1 = (6 : Int32)
                  · refine hz_tin (tgt := 135) hO hc24 dX11_causeOf_6 (by decide) (by decide) rfl (by decide) ?_
                    refine hz_iconst (v := (0 : Int32)) hO dX11_causeOf_135 (by decide) ?_
                    exact hz_nameM (hz_some_e h).2.symm (hz_name (hz_some_e h).1.symm (hz_iret hO dX11_causeOf_136))
                  · skip
                    have hn2 : ¬ r1.toInt = 2 := lv_neT hc4 rfl
                    have hn3 : ¬ r1.toInt = 3 := lv_neT hc5 rfl
                    have hn7 : ¬ r1.toInt = 7 := lv_neT hc6 rfl
                    have hn8 : ¬ r1.toInt = 8 := lv_neT hc10 rfl
                    have hn9 : ¬ r1.toInt = 9 := lv_neT hc14 rfl
                    have hn10 : ¬ r1.toInt = 10 := lv_neT hc18 rfl
                    have hn4 : ¬ r1.toInt = 4 := lv_neT hc22 rfl
                    have hn5 : ¬ r1.toInt = 5 := lv_neT hc23 rfl
                    have hn6 : ¬ r1.toInt = 6 := lv_neT hc24 rfl
                    refine hz_tout (tgt := 135) hO dX11_causeOf_6 (by omega) (by decide) ?_
                    refine hz_iconst (v := (0 : Int32)) hO dX11_causeOf_135 (by decide) ?_
                    exact hz_nameM (hz_some_e h).2.symm (hz_name (hz_some_e h).1.symm (hz_iret hO dX11_causeOf_136))
def f_X11_isDeed (a1 : Int32) (M : hz_M) : hz_O :=
  hz_ct (f_X11_in a1 (0 : Int32) (1 : Int32) M) fun r1 M2 =>
  hz_jn (fun  (M4 : hz_M) =>
    some ((1 : Int32), M4)
    ) fun k5 =>
  if r1 = 0 then
    hz_ct (f_X11_in a1 (10 : Int32) (19 : Int32) M2) fun r7 M8 =>
    hz_jn (fun (v1_10 : Int32) (M11 : hz_M) =>
      hz_ct (f_X11_in v1_10 (20 : Int32) (39 : Int32) M11) fun r12 M13 =>
      hz_jn (fun (v1_15 : Int32) (M16 : hz_M) =>
        if v1_15 < (40 : Int32) then
          some ((0 : Int32), M16)
        else
          hz_ct (f_X11_isPeg (v1_15 - (40 : Int32)) M16) fun r18 M19 =>
          if r18 = 0 then
            some ((0 : Int32), M19)
          else
            k5 M19
        ) fun k22 =>
      if r12 = 0 then
        k22 v1_10 M13
      else
        hz_ct (f_X11_isPeg (v1_10 - (20 : Int32)) M13) fun r24 M25 =>
        if r24 = 0 then
          k22 v1_10 M25
        else
          k5 M25
      ) fun k28 =>
    if r7 = 0 then
      k28 a1 M8
    else
      hz_ct (f_X11_isStep (a1 - (10 : Int32)) M8) fun r30 M31 =>
      if r30 = 0 then
        k28 a1 M31
      else
        k5 M31
  else
    k5 M2
set_option maxRecDepth 100000 in
set_option maxHeartbeats 4000000 in
theorem c_X11_isDeed (l : Launch) (w : hz_C) {N : Nat} (hN : 193 ≤ N) (a1 : Int32) {M : hz_M} {rE : Int32} {ME : hz_M} (h : f_X11_isDeed a1 M = some (rE, ME)) : hz_Ct l yX11_isDeed cX11_isDeed 2 (some .boolean) 2 w N [.ref (hz_ad w 178), .int a1] M (hz_Qi w N rE ME) := by
  refine hz_ofW (by decide) rfl (Nat.le_of_ble_eq_true rfl) tw_8_160 ?_
  intro p e s m args below meth c hO
  show hz_G p l e 2 hz_z0 s m args below meth c w N 2 _ M 0 [(0, .ref (hz_ad w 178)), (1, .int a1)] []
  unfold f_X11_isDeed at h
  refine hz_iload_n hO dX11_isDeed_0 rfl 1 rfl ?_
  refine hz_iconst (v := (0 : Int32)) hO dX11_isDeed_1 (by decide) ?_
  refine hz_iconst (v := (1 : Int32)) hO dX11_isDeed_2 (by decide) ?_
  obtain ⟨r1, M2, hq3, h⟩ := hz_ct_e h
  refine hz_callSi (as := [.int a1, .int (0 : Int32), .int (1 : Int32)]) (rest := []) hO (c_X11_in l w hN a1 (0 : Int32) (1 : Int32) hq3) hz_cal_X11_in tw_6_171 (Nat.le_of_ble_eq_true rfl) rfl rfl (Nat.le_of_ble_eq_true rfl) dX11_isDeed_3 ?_
  obtain ⟨k5, hk5, h⟩ := hz_jn_e h
  have gk5 : ∀  (M4 : hz_M), k5 M4 = some (rE, ME) → hz_G p l e 2 hz_z0 s m args below meth c w N 2 (MQ below (hz_Qi w N rE ME) args s 0 0 (hz_A w)) M4 70 [] [] := by
    intro M4 h
    rw [hk5] at h
    dsimp only at h
    refine hz_iconst (v := (1 : Int32)) hO dX11_isDeed_70 (by decide) ?_
    refine hz_goto (tgt := 75) hO dX11_isDeed_71 (by decide) ?_
    exact hz_nameM (hz_some_e h).2.symm (hz_name (hz_some_e h).1.symm (hz_zret hO (by rw [← (hz_some_e h).1]; decide) dX11_isDeed_75))
  clear hk5
  refine hz_if_ne (tgt := 70) hO dX11_isDeed_6 (by decide) (fun hc6 => ?_) (fun hc6 => ?_)
  · rw [if_neg hc6] at h
    exact hz_ls [] rfl (gk5 M2 h)
  · rw [if_pos hc6] at h
    refine hz_iload_n hO dX11_isDeed_9 rfl 1 rfl ?_
    refine hz_bipush (v := (10 : Int32)) hO dX11_isDeed_10 (by decide) ?_
    refine hz_bipush (v := (19 : Int32)) hO dX11_isDeed_12 (by decide) ?_
    obtain ⟨r7, M8, hq9, h⟩ := hz_ct_e h
    refine hz_callSi (as := [.int a1, .int (10 : Int32), .int (19 : Int32)]) (rest := []) hO (c_X11_in l w hN a1 (10 : Int32) (19 : Int32) hq9) hz_cal_X11_in tw_6_171 (Nat.le_of_ble_eq_true rfl) rfl rfl (Nat.le_of_ble_eq_true rfl) dX11_isDeed_14 ?_
    obtain ⟨k28, hk28, h⟩ := hz_jn_e h
    have gk28 : ∀ (v1_10 : Int32) (M11 : hz_M), k28 v1_10 M11 = some (rE, ME) → hz_G p l e 2 hz_z0 s m args below meth c w N 2 (MQ below (hz_Qi w N rE ME) args s 0 0 (hz_A w)) M11 31 [(0, .ref (hz_ad w 178)), (1, .int v1_10)] [] := by
      intro v1_10 M11 h
      rw [hk28] at h
      dsimp only at h
      refine hz_iload_n hO dX11_isDeed_31 rfl 1 rfl ?_
      refine hz_bipush (v := (20 : Int32)) hO dX11_isDeed_32 (by decide) ?_
      refine hz_bipush (v := (39 : Int32)) hO dX11_isDeed_34 (by decide) ?_
      obtain ⟨r12, M13, hq14, h⟩ := hz_ct_e h
      refine hz_callSi (as := [.int v1_10, .int (20 : Int32), .int (39 : Int32)]) (rest := []) hO (c_X11_in l w hN v1_10 (20 : Int32) (39 : Int32) hq14) hz_cal_X11_in tw_6_171 (Nat.le_of_ble_eq_true rfl) rfl rfl (Nat.le_of_ble_eq_true rfl) dX11_isDeed_36 ?_
      obtain ⟨k22, hk22, h⟩ := hz_jn_e h
      have gk22 : ∀ (v1_15 : Int32) (M16 : hz_M), k22 v1_15 M16 = some (rE, ME) → hz_G p l e 2 hz_z0 s m args below meth c w N 2 (MQ below (hz_Qi w N rE ME) args s 0 0 (hz_A w)) M16 53 [(0, .ref (hz_ad w 178)), (1, .int v1_15)] [] := by
        intro v1_15 M16 h
        rw [hk22] at h
        dsimp only at h
        refine hz_iload_n hO dX11_isDeed_53 rfl 1 rfl ?_
        refine hz_bipush (v := (40 : Int32)) hO dX11_isDeed_54 (by decide) ?_
        refine hz_icmp_lt (tgt := 74) hO dX11_isDeed_56 (by decide) (fun hc17 => ?_) (fun hc17 => ?_)
        · rw [if_pos hc17] at h
          refine hz_iconst (v := (0 : Int32)) hO dX11_isDeed_74 (by decide) ?_
          exact hz_nameM (hz_some_e h).2.symm (hz_name (hz_some_e h).1.symm (hz_zret hO (by rw [← (hz_some_e h).1]; decide) dX11_isDeed_75))
        · rw [if_neg hc17] at h
          refine hz_aload_n hO dX11_isDeed_59 rfl 0 rfl ?_
          refine hz_iload_n hO dX11_isDeed_60 rfl 1 rfl ?_
          refine hz_bipush (v := (40 : Int32)) hO dX11_isDeed_61 (by decide) ?_
          refine hz_isub hO dX11_isDeed_63 ?_
          obtain ⟨r18, M19, hq20, h⟩ := hz_ct_e h
          refine hz_callVi (as := [.int (v1_15 - (40 : Int32))]) (rest := []) hO (c_X11_isPeg l w hN (v1_15 - (40 : Int32)) hq20) hz_cal_X11_isPeg hz_K_9 hz_sh_178 (hz_lt_178 hN) tw_8_38 (Nat.le_of_ble_eq_true rfl) rfl rfl (Nat.le_of_ble_eq_true rfl) dX11_isDeed_64 ?_
          refine hz_if_eq (tgt := 74) hO dX11_isDeed_67 (by decide) (fun hc21 => ?_) (fun hc21 => ?_)
          · rw [if_pos hc21] at h
            refine hz_iconst (v := (0 : Int32)) hO dX11_isDeed_74 (by decide) ?_
            exact hz_nameM (hz_some_e h).2.symm (hz_name (hz_some_e h).1.symm (hz_zret hO (by rw [← (hz_some_e h).1]; decide) dX11_isDeed_75))
          · rw [if_neg hc21] at h
            exact hz_ls [] rfl (gk5 M19 h)
      clear hk22
      refine hz_if_eq (tgt := 53) hO dX11_isDeed_39 (by decide) (fun hc23 => ?_) (fun hc23 => ?_)
      · rw [if_pos hc23] at h
        exact hz_ls [0, 1] rfl (gk22 v1_10 M13 h)
      · rw [if_neg hc23] at h
        refine hz_aload_n hO dX11_isDeed_42 rfl 0 rfl ?_
        refine hz_iload_n hO dX11_isDeed_43 rfl 1 rfl ?_
        refine hz_bipush (v := (20 : Int32)) hO dX11_isDeed_44 (by decide) ?_
        refine hz_isub hO dX11_isDeed_46 ?_
        obtain ⟨r24, M25, hq26, h⟩ := hz_ct_e h
        refine hz_callVi (as := [.int (v1_10 - (20 : Int32))]) (rest := []) hO (c_X11_isPeg l w hN (v1_10 - (20 : Int32)) hq26) hz_cal_X11_isPeg hz_K_9 hz_sh_178 (hz_lt_178 hN) tw_8_38 (Nat.le_of_ble_eq_true rfl) rfl rfl (Nat.le_of_ble_eq_true rfl) dX11_isDeed_47 ?_
        refine hz_if_ne (tgt := 70) hO dX11_isDeed_50 (by decide) (fun hc27 => ?_) (fun hc27 => ?_)
        · rw [if_neg hc27] at h
          exact hz_ls [] rfl (gk5 M25 h)
        · rw [if_pos hc27] at h
          exact hz_ls [0, 1] rfl (gk22 v1_10 M25 h)
    clear hk28
    refine hz_if_eq (tgt := 31) hO dX11_isDeed_17 (by decide) (fun hc29 => ?_) (fun hc29 => ?_)
    · rw [if_pos hc29] at h
      exact hz_ls [0, 1] rfl (gk28 a1 M8 h)
    · rw [if_neg hc29] at h
      refine hz_aload_n hO dX11_isDeed_20 rfl 0 rfl ?_
      refine hz_iload_n hO dX11_isDeed_21 rfl 1 rfl ?_
      refine hz_bipush (v := (10 : Int32)) hO dX11_isDeed_22 (by decide) ?_
      refine hz_isub hO dX11_isDeed_24 ?_
      obtain ⟨r30, M31, hq32, h⟩ := hz_ct_e h
      refine hz_callVi (as := [.int (a1 - (10 : Int32))]) (rest := []) hO (c_X11_isStep l w hN (a1 - (10 : Int32)) hq32) hz_cal_X11_isStep hz_K_9 hz_sh_178 (hz_lt_178 hN) tw_8_14 (Nat.le_of_ble_eq_true rfl) rfl rfl (Nat.le_of_ble_eq_true rfl) dX11_isDeed_25 ?_
      refine hz_if_ne (tgt := 70) hO dX11_isDeed_28 (by decide) (fun hc33 => ?_) (fun hc33 => ?_)
      · rw [if_neg hc33] at h
        exact hz_ls [] rfl (gk5 M31 h)
      · rw [if_pos hc33] at h
        exact hz_ls [0, 1] rfl (gk28 a1 M31 h)
def f_X11_nextHeat_L4 (kk32 : Int32 → hz_M → hz_O) : Nat → Int32 → Int32 → hz_M → hz_O
  | 0, _, _, _ => none
  | n + 1, v1_4, v2_5, M6 =>
    if (M6 179 (Int32.toNatClampNeg (3 : Int32))) ≤ v2_5 then
      kk32 v1_4 M6
    else
      hz_gd (hz_in ((21 : Int32) + v2_5) 185) <|
      hz_lt ((v1_4 + (M6 179 (Int32.toNatClampNeg ((21 : Int32) + v2_5))))) fun x9 =>
      hz_lt (v2_5 + (1 : Int32)) fun x10 =>
      f_X11_nextHeat_L4 kk32 n x9 x10 M6
def f_X11_nextHeat (M : hz_M) : hz_O :=
  hz_jn (fun (v1_1 : Int32) (M2 : hz_M) =>
    some ((if (0 : Int32) < (if ((((M2 179 (Int32.toNatClampNeg (9 : Int32))) + v1_1) - (3 : Int32)) - ((M2 179 (Int32.toNatClampNeg (9 : Int32))) / (20 : Int32))) < (100 : Int32) then ((((M2 179 (Int32.toNatClampNeg (9 : Int32))) + v1_1) - (3 : Int32)) - ((M2 179 (Int32.toNatClampNeg (9 : Int32))) / (20 : Int32))) else (100 : Int32)) then (if ((((M2 179 (Int32.toNatClampNeg (9 : Int32))) + v1_1) - (3 : Int32)) - ((M2 179 (Int32.toNatClampNeg (9 : Int32))) / (20 : Int32))) < (100 : Int32) then ((((M2 179 (Int32.toNatClampNeg (9 : Int32))) + v1_1) - (3 : Int32)) - ((M2 179 (Int32.toNatClampNeg (9 : Int32))) / (20 : Int32))) else (100 : Int32)) else (0 : Int32)), M2)
    ) fun k3 =>
  f_X11_nextHeat_L4 k3 hz_FU (0 : Int32) (0 : Int32) M
set_option maxRecDepth 100000 in
set_option maxHeartbeats 4000000 in
theorem g_X11_nextHeat_L4 {p : Program} {l : Launch} {e : Env} {s : State} {m : MethodId} {args : Array Value} {below : List Frame} {meth : Method} {c : Code} {w : hz_C} {N : Nat} (hN : 193 ≤ N) {rE : Int32} {ME : hz_M} (hO : hz_Ok p s m args meth c w cX11_nextHeat 3 RX11 (some .int)) (kk32 : Int32 → hz_M → hz_O) (gkk32 : ∀ (v1_1 : Int32) (M : hz_M), kk32 v1_1 M = some (rE, ME) → hz_G p l e 1 hz_z0 s m args below meth c w N 3 (MQ below (hz_Qi w N rE ME) args s 0 0 (hz_A w)) M 32 [(0, .ref (hz_ad w 178)), (1, .int v1_1)] []) : ∀ (n : Nat) (v1_4 : Int32) (v2_5 : Int32) (M6 : hz_M), f_X11_nextHeat_L4 kk32 n v1_4 v2_5 M6 = some (rE, ME) → hz_G p l e 1 hz_z0 s m args below meth c w N 3 (MQ below (hz_Qi w N rE ME) args s 0 0 (hz_A w)) M6 4 [(0, .ref (hz_ad w 178)), (1, .int v1_4), (2, .int v2_5)] [] := by
  intro n
  induction n with
  | zero =>
    intro v1_4 v2_5 M6 h
    rw [f_X11_nextHeat_L4] at h
    cases h
  | succ n ih =>
    intro v1_4 v2_5 M6 h
    rw [f_X11_nextHeat_L4] at h
    refine hz_iload_n hO dX11_nextHeat_4 rfl 2 rfl ?_
    refine hz_aload_n hO dX11_nextHeat_5 rfl 0 rfl ?_
    refine hz_getR (k := 0) hO 179 hz_K_9 hz_sh_178 (hz_lt_178 hN) rfl (Nat.le_of_ble_eq_true rfl) tw_6_229 rfl dX11_nextHeat_6 ?_
    refine hz_iconst (v := (3 : Int32)) hO dX11_nextHeat_9 (by decide) ?_
    refine hz_iald hO hz_sh_179 (hz_lt_179 hN) (by decide) dX11_nextHeat_10 ?_
    refine hz_icmp_ge (tgt := 32) hO dX11_nextHeat_11 (by decide) (fun hc7 => ?_) (fun hc7 => ?_)
    · rw [if_pos hc7] at h
      exact hz_ls [0, 1] rfl (gkk32 v1_4 M6 h)
    · rw [if_neg hc7] at h
      refine hz_iload_n hO dX11_nextHeat_14 rfl 1 rfl ?_
      refine hz_aload_n hO dX11_nextHeat_15 rfl 0 rfl ?_
      refine hz_getR (k := 0) hO 179 hz_K_9 hz_sh_178 (hz_lt_178 hN) rfl (Nat.le_of_ble_eq_true rfl) tw_6_229 rfl dX11_nextHeat_16 ?_
      refine hz_bipush (v := (21 : Int32)) hO dX11_nextHeat_19 (by decide) ?_
      refine hz_iload_n hO dX11_nextHeat_21 rfl 2 rfl ?_
      refine hz_iadd hO dX11_nextHeat_22 ?_
      obtain ⟨hg8, h⟩ := hz_gd_e h
      refine hz_iald hO hz_sh_179 (hz_lt_179 hN) hg8 dX11_nextHeat_23 ?_
      refine hz_iadd hO dX11_nextHeat_24 ?_
      obtain ⟨x9, h_x9, h⟩ := hz_lt_e h
      refine hz_name h_x9 ?_
      refine hz_istore_n (ls1 := [(1, .int x9), (0, .ref (hz_ad w 178)), (2, .int v2_5)]) hO dX11_nextHeat_25 rfl (Nat.le_of_ble_eq_true rfl) rfl ?_
      obtain ⟨x10, h_x10, h⟩ := hz_lt_e h
      refine hz_iinc (k := 2) (v := x10) (ls1 := [(2, .int x10), (1, .int x9), (0, .ref (hz_ad w 178))]) hO dX11_nextHeat_26 rfl (by rw [h_x10]; rfl) (Nat.le_of_ble_eq_true rfl) rfl ?_
      refine hz_goto (tgt := 4) hO dX11_nextHeat_29 (by decide) ?_
      exact hz_ls [2, 1, 0] rfl (ih x9 x10 M6 h)
set_option maxRecDepth 100000 in
set_option maxHeartbeats 4000000 in
theorem c_X11_nextHeat (l : Launch) (w : hz_C) {N : Nat} (hN : 193 ≤ N) {M : hz_M} {rE : Int32} {ME : hz_M} (h : f_X11_nextHeat M = some (rE, ME)) : hz_Ct l yX11_nextHeat cX11_nextHeat 3 (some .int) 1 w N [.ref (hz_ad w 178)] M (hz_Qi w N rE ME) := by
  refine hz_ofW (by decide) rfl (Nat.le_of_ble_eq_true rfl) tw_7_204 ?_
  intro p e s m args below meth c hO
  show hz_G p l e 1 hz_z0 s m args below meth c w N 3 _ M 0 [(0, .ref (hz_ad w 178))] []
  unfold f_X11_nextHeat at h
  refine hz_iconst (v := (0 : Int32)) hO dX11_nextHeat_0 (by decide) ?_
  refine hz_istore_n (ls1 := [(1, .int (0 : Int32)), (0, .ref (hz_ad w 178))]) hO dX11_nextHeat_1 rfl (Nat.le_of_ble_eq_true rfl) rfl ?_
  refine hz_iconst (v := (0 : Int32)) hO dX11_nextHeat_2 (by decide) ?_
  refine hz_istore_n (ls1 := [(2, .int (0 : Int32)), (1, .int (0 : Int32)), (0, .ref (hz_ad w 178))]) hO dX11_nextHeat_3 rfl (Nat.le_of_ble_eq_true rfl) rfl ?_
  obtain ⟨k3, hk3, h⟩ := hz_jn_e h
  have gk3 : ∀ (v1_1 : Int32) (M2 : hz_M), k3 v1_1 M2 = some (rE, ME) → hz_G p l e 1 hz_z0 s m args below meth c w N 3 (MQ below (hz_Qi w N rE ME) args s 0 0 (hz_A w)) M2 32 [(0, .ref (hz_ad w 178)), (1, .int v1_1)] [] := by
    intro v1_1 M2 h
    rw [hk3] at h
    dsimp only at h
    refine hz_iconst (v := (0 : Int32)) hO dX11_nextHeat_32 (by decide) ?_
    refine hz_bipush (v := (100 : Int32)) hO dX11_nextHeat_33 (by decide) ?_
    refine hz_aload_n hO dX11_nextHeat_35 rfl 0 rfl ?_
    refine hz_getR (k := 0) hO 179 hz_K_9 hz_sh_178 (hz_lt_178 hN) rfl (Nat.le_of_ble_eq_true rfl) tw_6_229 rfl dX11_nextHeat_36 ?_
    refine hz_bipush (v := (9 : Int32)) hO dX11_nextHeat_39 (by decide) ?_
    refine hz_iald hO hz_sh_179 (hz_lt_179 hN) (by decide) dX11_nextHeat_41 ?_
    refine hz_iload_n hO dX11_nextHeat_42 rfl 1 rfl ?_
    refine hz_iadd hO dX11_nextHeat_43 ?_
    refine hz_iconst (v := (3 : Int32)) hO dX11_nextHeat_44 (by decide) ?_
    refine hz_isub hO dX11_nextHeat_45 ?_
    refine hz_aload_n hO dX11_nextHeat_46 rfl 0 rfl ?_
    refine hz_getR (k := 0) hO 179 hz_K_9 hz_sh_178 (hz_lt_178 hN) rfl (Nat.le_of_ble_eq_true rfl) tw_6_229 rfl dX11_nextHeat_47 ?_
    refine hz_bipush (v := (9 : Int32)) hO dX11_nextHeat_50 (by decide) ?_
    refine hz_iald hO hz_sh_179 (hz_lt_179 hN) (by decide) dX11_nextHeat_52 ?_
    refine hz_bipush (v := (20 : Int32)) hO dX11_nextHeat_53 (by decide) ?_
    refine hz_idiv hO dX11_nextHeat_55 (by decide) ?_
    refine hz_isub hO dX11_nextHeat_56 ?_
    refine hz_mmin hO tw_6_174 (Nat.le_of_ble_eq_true rfl) (Nat.le_of_ble_eq_true rfl) dX11_nextHeat_57 ?_
    refine hz_mmax hO tw_7_205 (Nat.le_of_ble_eq_true rfl) (Nat.le_of_ble_eq_true rfl) dX11_nextHeat_60 ?_
    exact hz_nameM (hz_some_e h).2.symm (hz_name (hz_some_e h).1.symm (hz_iret hO dX11_nextHeat_63))
  clear hk3
  exact hz_ls [2, 1, 0] rfl (g_X11_nextHeat_L4 hN hO _ gk3 _ (0 : Int32) (0 : Int32) M h)
def f_X11_towelPasses (a1 : Int32) (M : hz_M) : hz_O :=
  hz_ct (f_X11_holderOf a1 M) fun r1 M2 =>
  hz_jn (fun (v1_4 : Int32) (M5 : hz_M) =>
    hz_ct (f_X11_ofT v1_4 (1 : Int32) M5) fun r6 M7 =>
    if r6 = (-1 : Int32) then
      some (0, M7)
    else
      if (60 : Int32) ≤ (M7 179 (Int32.toNatClampNeg (9 : Int32))) then
        some (0, M7)
      else
        hz_ct (f_X11_ofT v1_4 (0 : Int32) M7) fun r11 M12 =>
        hz_ct (f_X11_putT v1_4 (0 : Int32) (if (0 : Int32) < (r11 - (1 : Int32)) then (r11 - (1 : Int32)) else (0 : Int32)) M12) fun r14 M15 =>
        some (0, M15)
    ) fun k17 =>
  if r1 = (-1 : Int32) then
    k17 a1 M2
  else
    hz_ct (f_X11_of r1 (2 : Int32) M2) fun r19 M20 =>
    if r19 ≤ 0 then
      k17 a1 M20
    else
      hz_ct (f_X11_ofT a1 (0 : Int32) M20) fun r23 M24 =>
      if (9 : Int32) ≤ r23 then
        k17 a1 M24
      else
        hz_ct (f_X11_ofT a1 (0 : Int32) M24) fun r27 M28 =>
        hz_ct (f_X11_putT a1 (0 : Int32) (r27 + (1 : Int32)) M28) fun r30 M31 =>
        hz_ct (f_X11_counts (6 : Int32) (1 : Int32) M31) fun r33 M34 =>
        k17 a1 M34
set_option maxRecDepth 100000 in
set_option maxHeartbeats 4000000 in
theorem c_X11_towelPasses (l : Launch) (w : hz_C) {N : Nat} (hN : 193 ≤ N) (a1 : Int32) {M : hz_M} {rE : Int32} {ME : hz_M} (h : f_X11_towelPasses a1 M = some (rE, ME)) : hz_Ct l yX11_towelPasses cX11_towelPasses 3 none 2 w N [.ref (hz_ad w 178), .int a1] M (hz_Qv w N ME) := by
  refine hz_ofW (by decide) rfl (Nat.le_of_ble_eq_true rfl) tw_7_209 ?_
  intro p e s m args below meth c hO
  show hz_G p l e 2 hz_z0 s m args below meth c w N 3 _ M 0 [(0, .ref (hz_ad w 178)), (1, .int a1)] []
  unfold f_X11_towelPasses at h
  refine hz_aload_n hO dX11_towelPasses_0 rfl 0 rfl ?_
  refine hz_iload_n hO dX11_towelPasses_1 rfl 1 rfl ?_
  obtain ⟨r1, M2, hq3, h⟩ := hz_ct_e h
  refine hz_callVi (as := [.int a1]) (rest := []) hO (c_X11_holderOf l w hN a1 hq3) hz_cal_X11_holderOf hz_K_9 hz_sh_178 (hz_lt_178 hN) tw_7_165 (Nat.le_of_ble_eq_true rfl) rfl rfl (Nat.le_of_ble_eq_true rfl) dX11_towelPasses_2 ?_
  refine hz_istore_n (ls1 := [(2, .int r1), (0, .ref (hz_ad w 178)), (1, .int a1)]) hO dX11_towelPasses_5 rfl (Nat.le_of_ble_eq_true rfl) rfl ?_
  refine hz_iload_n hO dX11_towelPasses_6 rfl 0 rfl ?_
  refine hz_iconst (v := (-1 : Int32)) hO dX11_towelPasses_7 (by decide) ?_
  obtain ⟨k17, hk17, h⟩ := hz_jn_e h
  have gk17 : ∀ (v1_4 : Int32) (M5 : hz_M), k17 v1_4 M5 = some (rE, ME) → hz_G p l e 2 hz_z0 s m args below meth c w N 3 (MQ below (hz_Qv w N ME) args s 0 0 (hz_A w)) M5 52 [(0, .ref (hz_ad w 178)), (1, .int v1_4)] [] := by
    intro v1_4 M5 h
    rw [hk17] at h
    dsimp only at h
    refine hz_aload_n hO dX11_towelPasses_52 rfl 0 rfl ?_
    refine hz_iload_n hO dX11_towelPasses_53 rfl 1 rfl ?_
    refine hz_iconst (v := (1 : Int32)) hO dX11_towelPasses_54 (by decide) ?_
    obtain ⟨r6, M7, hq8, h⟩ := hz_ct_e h
    refine hz_callVi (as := [.int v1_4, .int (1 : Int32)]) (rest := []) hO (c_X11_ofT l w hN v1_4 (1 : Int32) hq8) hz_cal_X11_ofT hz_K_9 hz_sh_178 (hz_lt_178 hN) tw_7_161 (Nat.le_of_ble_eq_true rfl) rfl rfl (Nat.le_of_ble_eq_true rfl) dX11_towelPasses_55 ?_
    refine hz_iconst (v := (-1 : Int32)) hO dX11_towelPasses_58 (by decide) ?_
    refine hz_icmp_eq (tgt := 92) hO dX11_towelPasses_59 (by decide) (fun hc9 => ?_) (fun hc9 => ?_)
    · rw [if_pos hc9] at h
      exact hz_nameM (hz_some_e h).2.symm (hz_vret hO dX11_towelPasses_92)
    · rw [if_neg hc9] at h
      refine hz_aload_n hO dX11_towelPasses_62 rfl 0 rfl ?_
      refine hz_getR (k := 0) hO 179 hz_K_9 hz_sh_178 (hz_lt_178 hN) rfl (Nat.le_of_ble_eq_true rfl) tw_6_229 rfl dX11_towelPasses_63 ?_
      refine hz_bipush (v := (9 : Int32)) hO dX11_towelPasses_66 (by decide) ?_
      refine hz_iald hO hz_sh_179 (hz_lt_179 hN) (by decide) dX11_towelPasses_68 ?_
      refine hz_bipush (v := (60 : Int32)) hO dX11_towelPasses_69 (by decide) ?_
      refine hz_icmp_ge (tgt := 92) hO dX11_towelPasses_71 (by decide) (fun hc10 => ?_) (fun hc10 => ?_)
      · rw [if_pos hc10] at h
        exact hz_nameM (hz_some_e h).2.symm (hz_vret hO dX11_towelPasses_92)
      · rw [if_neg hc10] at h
        refine hz_aload_n hO dX11_towelPasses_74 rfl 0 rfl ?_
        refine hz_iload_n hO dX11_towelPasses_75 rfl 1 rfl ?_
        refine hz_iconst (v := (0 : Int32)) hO dX11_towelPasses_76 (by decide) ?_
        refine hz_iconst (v := (0 : Int32)) hO dX11_towelPasses_77 (by decide) ?_
        refine hz_aload_n hO dX11_towelPasses_78 rfl 0 rfl ?_
        refine hz_iload_n hO dX11_towelPasses_79 rfl 1 rfl ?_
        refine hz_iconst (v := (0 : Int32)) hO dX11_towelPasses_80 (by decide) ?_
        obtain ⟨r11, M12, hq13, h⟩ := hz_ct_e h
        refine hz_callVi (as := [.int v1_4, .int (0 : Int32)]) (rest := [.int (0 : Int32), .int (0 : Int32), .int v1_4, .ref (hz_ad w 178)]) hO (c_X11_ofT l w hN v1_4 (0 : Int32) hq13) hz_cal_X11_ofT hz_K_9 hz_sh_178 (hz_lt_178 hN) tw_7_161 (Nat.le_of_ble_eq_true rfl) rfl rfl (Nat.le_of_ble_eq_true rfl) dX11_towelPasses_81 ?_
        refine hz_iconst (v := (1 : Int32)) hO dX11_towelPasses_84 (by decide) ?_
        refine hz_isub hO dX11_towelPasses_85 ?_
        refine hz_mmax hO tw_7_205 (Nat.le_of_ble_eq_true rfl) (Nat.le_of_ble_eq_true rfl) dX11_towelPasses_86 ?_
        obtain ⟨r14, M15, hq16, h⟩ := hz_ct_e h
        refine hz_callVv (as := [.int v1_4, .int (0 : Int32), .int (if (0 : Int32) < (r11 - (1 : Int32)) then (r11 - (1 : Int32)) else (0 : Int32))]) (rest := []) hO (c_X11_putT l w hN v1_4 (0 : Int32) (if (0 : Int32) < (r11 - (1 : Int32)) then (r11 - (1 : Int32)) else (0 : Int32)) hq16) hz_cal_X11_putT hz_K_9 hz_sh_178 (hz_lt_178 hN) tw_6_225 (Nat.le_of_ble_eq_true rfl) rfl rfl (Nat.le_of_ble_eq_true rfl) dX11_towelPasses_89 ?_
        exact hz_nameM (hz_some_e h).2.symm (hz_vret hO dX11_towelPasses_92)
  clear hk17
  refine hz_icmp_eq (tgt := 52) hO dX11_towelPasses_8 (by decide) (fun hc18 => ?_) (fun hc18 => ?_)
  · rw [if_pos hc18] at h
    exact hz_ls [1, 2] rfl (gk17 a1 M2 h)
  · rw [if_neg hc18] at h
    refine hz_aload_n hO dX11_towelPasses_11 rfl 1 rfl ?_
    refine hz_iload_n hO dX11_towelPasses_12 rfl 0 rfl ?_
    refine hz_iconst (v := (2 : Int32)) hO dX11_towelPasses_13 (by decide) ?_
    obtain ⟨r19, M20, hq21, h⟩ := hz_ct_e h
    refine hz_callVi (as := [.int r1, .int (2 : Int32)]) (rest := []) hO (c_X11_of l w hN r1 (2 : Int32) hq21) hz_cal_X11_of hz_K_9 hz_sh_178 (hz_lt_178 hN) tw_6_217 (Nat.le_of_ble_eq_true rfl) rfl rfl (Nat.le_of_ble_eq_true rfl) dX11_towelPasses_14 ?_
    refine hz_if_le (tgt := 52) hO dX11_towelPasses_17 (by decide) (fun hc22 => ?_) (fun hc22 => ?_)
    · rw [if_pos hc22] at h
      exact hz_ls [1, 2] rfl (gk17 a1 M20 h)
    · rw [if_neg hc22] at h
      refine hz_aload_n hO dX11_towelPasses_20 rfl 1 rfl ?_
      refine hz_iload_n hO dX11_towelPasses_21 rfl 2 rfl ?_
      refine hz_iconst (v := (0 : Int32)) hO dX11_towelPasses_22 (by decide) ?_
      obtain ⟨r23, M24, hq25, h⟩ := hz_ct_e h
      refine hz_callVi (as := [.int a1, .int (0 : Int32)]) (rest := []) hO (c_X11_ofT l w hN a1 (0 : Int32) hq25) hz_cal_X11_ofT hz_K_9 hz_sh_178 (hz_lt_178 hN) tw_7_161 (Nat.le_of_ble_eq_true rfl) rfl rfl (Nat.le_of_ble_eq_true rfl) dX11_towelPasses_23 ?_
      refine hz_bipush (v := (9 : Int32)) hO dX11_towelPasses_26 (by decide) ?_
      refine hz_icmp_ge (tgt := 52) hO dX11_towelPasses_28 (by decide) (fun hc26 => ?_) (fun hc26 => ?_)
      · rw [if_pos hc26] at h
        exact hz_ls [1, 2] rfl (gk17 a1 M24 h)
      · rw [if_neg hc26] at h
        refine hz_aload_n hO dX11_towelPasses_31 rfl 1 rfl ?_
        refine hz_iload_n hO dX11_towelPasses_32 rfl 2 rfl ?_
        refine hz_iconst (v := (0 : Int32)) hO dX11_towelPasses_33 (by decide) ?_
        refine hz_aload_n hO dX11_towelPasses_34 rfl 1 rfl ?_
        refine hz_iload_n hO dX11_towelPasses_35 rfl 2 rfl ?_
        refine hz_iconst (v := (0 : Int32)) hO dX11_towelPasses_36 (by decide) ?_
        obtain ⟨r27, M28, hq29, h⟩ := hz_ct_e h
        refine hz_callVi (as := [.int a1, .int (0 : Int32)]) (rest := [.int (0 : Int32), .int a1, .ref (hz_ad w 178)]) hO (c_X11_ofT l w hN a1 (0 : Int32) hq29) hz_cal_X11_ofT hz_K_9 hz_sh_178 (hz_lt_178 hN) tw_7_161 (Nat.le_of_ble_eq_true rfl) rfl rfl (Nat.le_of_ble_eq_true rfl) dX11_towelPasses_37 ?_
        refine hz_iconst (v := (1 : Int32)) hO dX11_towelPasses_40 (by decide) ?_
        refine hz_iadd hO dX11_towelPasses_41 ?_
        obtain ⟨r30, M31, hq32, h⟩ := hz_ct_e h
        refine hz_callVv (as := [.int a1, .int (0 : Int32), .int (r27 + (1 : Int32))]) (rest := []) hO (c_X11_putT l w hN a1 (0 : Int32) (r27 + (1 : Int32)) hq32) hz_cal_X11_putT hz_K_9 hz_sh_178 (hz_lt_178 hN) tw_6_225 (Nat.le_of_ble_eq_true rfl) rfl rfl (Nat.le_of_ble_eq_true rfl) dX11_towelPasses_42 ?_
        refine hz_aload_n hO dX11_towelPasses_45 rfl 1 rfl ?_
        refine hz_bipush (v := (6 : Int32)) hO dX11_towelPasses_46 (by decide) ?_
        refine hz_iconst (v := (1 : Int32)) hO dX11_towelPasses_48 (by decide) ?_
        obtain ⟨r33, M34, hq35, h⟩ := hz_ct_e h
        refine hz_callVv (as := [.int (6 : Int32), .int (1 : Int32)]) (rest := []) hO (c_X11_counts l w hN (6 : Int32) (1 : Int32) hq35) hz_cal_X11_counts hz_K_9 hz_sh_178 (hz_lt_178 hN) tw_7_177 (Nat.le_of_ble_eq_true rfl) rfl rfl (Nat.le_of_ble_eq_true rfl) dX11_towelPasses_49 ?_
        exact hz_ls [1, 2] rfl (gk17 a1 M34 h)
def f_X11_guestPasses_L98 (kk124 : Int32 → Int32 → hz_M → hz_O) : Nat → Int32 → Int32 → hz_M → hz_O
  | 0, _, _, _ => none
  | n + 1, v1_41, v4_42, M43 =>
    if v4_42 ≤ 0 then
      kk124 v1_41 v4_42 M43
    else
      hz_ct (f_X11_guestsOn v4_42 M43) fun r45 M46 =>
      if r45 < (M46 179 (Int32.toNatClampNeg (5 : Int32))) then
        kk124 v1_41 v4_42 M46
      else
        hz_lt (v4_42 + (-1 : Int32)) fun x49 =>
        f_X11_guestPasses_L98 kk124 n v1_41 x49 M46
def f_X11_guestPasses (a1 : Int32) (M : hz_M) : hz_O :=
  hz_ct (f_X11_of a1 (2 : Int32) M) fun r1 M2 =>
  hz_gd (hz_in a1 16) <|
  hz_lm (hz_set M2 185 (Int32.toNatClampNeg a1) (0 : Int32)) fun M5 =>
  if r1 = (-1 : Int32) then
    some (0, M5)
  else
    hz_jn (fun (v1_7 : Int32) (v2_8 : Int32) (q9 : Int32) (M10 : hz_M) =>
      hz_jn (fun (v1_11 : Int32) (v2_12 : Int32) (q13 : Int32) (q14 : Int32) (q15 : Int32) (M16 : hz_M) =>
        hz_ct (f_X11_puts q15 q14 q13 M16) fun r17 M18 =>
        if v2_12 = 0 then
          some (0, M18)
        else
          hz_ct (f_X11_of v1_11 (5 : Int32) M18) fun r21 M22 =>
          if (10 : Int32) ≤ r21 then
            hz_lt ((v2_12 - (1 : Int32))) fun x25 =>
            hz_jn (fun (v1_26 : Int32) (v4_27 : Int32) (M28 : hz_M) =>
              hz_ct (f_X11_puts v1_26 (2 : Int32) v4_27 M28) fun r29 M30 =>
              hz_ct (f_X11_puts v1_26 (5 : Int32) (5 : Int32) M30) fun r32 M33 =>
              hz_ct (f_X11_counts (4 : Int32) (1 : Int32) M33) fun r35 M36 =>
              hz_gd (hz_in v1_26 16) <|
              hz_lm (hz_set M36 185 (Int32.toNatClampNeg v1_26) (1 : Int32)) fun M39 =>
              some (0, M39)
              ) fun k40 =>
            f_X11_guestPasses_L98 k40 hz_FU v1_11 x25 M22
          else
            some (0, M22)
        ) fun k50 =>
      if q9 ≤ 0 then
        hz_ct (f_X11_of v1_7 (5 : Int32) M10) fun r52 M53 =>
        k50 v1_7 v2_8 (if (0 : Int32) < (r52 - (1 : Int32)) then (r52 - (1 : Int32)) else (0 : Int32)) (5 : Int32) v1_7 M53
      else
        hz_ct (f_X11_of v1_7 (5 : Int32) M10) fun r55 M56 =>
        k50 v1_7 v2_8 ((r55 + (q9 / (5 : Int32))) + (1 : Int32)) (5 : Int32) v1_7 M56
      ) fun k58 =>
    if r1 = 0 then
      k58 a1 r1 (0 : Int32) M5
    else
      hz_ct (f_X11_warmthOf r1 M5) fun r60 M61 =>
      hz_ct (f_X11_bears a1 M61) fun r63 M64 =>
      k58 a1 r1 (r60 - r63) M64
set_option maxRecDepth 100000 in
set_option maxHeartbeats 4000000 in
theorem g_X11_guestPasses_L98 {p : Program} {l : Launch} {e : Env} {s : State} {m : MethodId} {args : Array Value} {below : List Frame} {meth : Method} {c : Code} {w : hz_C} {N : Nat} (hN : 193 ≤ N) {rE : Int32} {ME : hz_M} (hO : hz_Ok p s m args meth c w cX11_guestPasses 5 RX11 none) (kk124 : Int32 → Int32 → hz_M → hz_O) (gkk124 : ∀ (v1_26 : Int32) (v4_27 : Int32) (M : hz_M), kk124 v1_26 v4_27 M = some (rE, ME) → hz_G p l e 2 hz_z0 s m args below meth c w N 5 (MQ below (hz_Qv w N ME) args s 0 0 (hz_A w)) M 124 [(0, .ref (hz_ad w 178)), (1, .int v1_26), (4, .int v4_27)] []) : ∀ (n : Nat) (v1_41 : Int32) (v4_42 : Int32) (M43 : hz_M), f_X11_guestPasses_L98 kk124 n v1_41 v4_42 M43 = some (rE, ME) → hz_G p l e 2 hz_z0 s m args below meth c w N 5 (MQ below (hz_Qv w N ME) args s 0 0 (hz_A w)) M43 98 [(0, .ref (hz_ad w 178)), (1, .int v1_41), (4, .int v4_42)] [] := by
  intro n
  induction n with
  | zero =>
    intro v1_41 v4_42 M43 h
    rw [f_X11_guestPasses_L98] at h
    cases h
  | succ n ih =>
    intro v1_41 v4_42 M43 h
    rw [f_X11_guestPasses_L98] at h
    refine hz_iload hO dX11_guestPasses_98 2 rfl ?_
    refine hz_if_le (tgt := 124) hO dX11_guestPasses_100 (by decide) (fun hc44 => ?_) (fun hc44 => ?_)
    · rw [if_pos hc44] at h
      exact hz_ls [0, 1, 2] rfl (gkk124 v1_41 v4_42 M43 h)
    · rw [if_neg hc44] at h
      refine hz_aload_n hO dX11_guestPasses_103 rfl 0 rfl ?_
      refine hz_iload hO dX11_guestPasses_104 2 rfl ?_
      obtain ⟨r45, M46, hq47, h⟩ := hz_ct_e h
      refine hz_callVi (as := [.int v4_42]) (rest := []) hO (c_X11_guestsOn l w hN v4_42 hq47) hz_cal_X11_guestsOn hz_K_9 hz_sh_178 (hz_lt_178 hN) tw_7_222 (Nat.le_of_ble_eq_true rfl) rfl rfl (Nat.le_of_ble_eq_true rfl) dX11_guestPasses_106 ?_
      refine hz_aload_n hO dX11_guestPasses_109 rfl 0 rfl ?_
      refine hz_getR (k := 0) hO 179 hz_K_9 hz_sh_178 (hz_lt_178 hN) rfl (Nat.le_of_ble_eq_true rfl) tw_6_229 rfl dX11_guestPasses_110 ?_
      refine hz_iconst (v := (5 : Int32)) hO dX11_guestPasses_113 (by decide) ?_
      refine hz_iald hO hz_sh_179 (hz_lt_179 hN) (by decide) dX11_guestPasses_114 ?_
      refine hz_icmp_lt (tgt := 124) hO dX11_guestPasses_115 (by decide) (fun hc48 => ?_) (fun hc48 => ?_)
      · rw [if_pos hc48] at h
        exact hz_ls [0, 1, 2] rfl (gkk124 v1_41 v4_42 M46 h)
      · rw [if_neg hc48] at h
        obtain ⟨x49, h_x49, h⟩ := hz_lt_e h
        refine hz_iinc (k := 2) (v := x49) (ls1 := [(4, .int x49), (0, .ref (hz_ad w 178)), (1, .int v1_41)]) hO dX11_guestPasses_118 rfl (by rw [h_x49]; rfl) (Nat.le_of_ble_eq_true rfl) rfl ?_
        refine hz_goto (tgt := 98) hO dX11_guestPasses_121 (by decide) ?_
        exact hz_ls [1, 2, 0] rfl (ih v1_41 x49 M46 h)
set_option maxRecDepth 100000 in
set_option maxHeartbeats 4000000 in
theorem c_X11_guestPasses (l : Launch) (w : hz_C) {N : Nat} (hN : 193 ≤ N) (a1 : Int32) {M : hz_M} {rE : Int32} {ME : hz_M} (h : f_X11_guestPasses a1 M = some (rE, ME)) : hz_Ct l yX11_guestPasses cX11_guestPasses 5 none 2 w N [.ref (hz_ad w 178), .int a1] M (hz_Qv w N ME) := by
  refine hz_ofW (by decide) rfl (Nat.le_of_ble_eq_true rfl) tw_7_213 ?_
  intro p e s m args below meth c hO
  show hz_G p l e 2 hz_z0 s m args below meth c w N 5 _ M 0 [(0, .ref (hz_ad w 178)), (1, .int a1)] []
  unfold f_X11_guestPasses at h
  refine hz_aload_n hO dX11_guestPasses_0 rfl 0 rfl ?_
  refine hz_iload_n hO dX11_guestPasses_1 rfl 1 rfl ?_
  refine hz_iconst (v := (2 : Int32)) hO dX11_guestPasses_2 (by decide) ?_
  obtain ⟨r1, M2, hq3, h⟩ := hz_ct_e h
  refine hz_callVi (as := [.int a1, .int (2 : Int32)]) (rest := []) hO (c_X11_of l w hN a1 (2 : Int32) hq3) hz_cal_X11_of hz_K_9 hz_sh_178 (hz_lt_178 hN) tw_6_217 (Nat.le_of_ble_eq_true rfl) rfl rfl (Nat.le_of_ble_eq_true rfl) dX11_guestPasses_3 ?_
  refine hz_istore_n (ls1 := [(2, .int r1), (0, .ref (hz_ad w 178)), (1, .int a1)]) hO dX11_guestPasses_6 rfl (Nat.le_of_ble_eq_true rfl) rfl ?_
  refine hz_aload_n hO dX11_guestPasses_7 rfl 1 rfl ?_
  refine hz_getR (k := 9) hO 185 hz_K_9 hz_sh_178 (hz_lt_178 hN) rfl (Nat.le_of_ble_eq_true rfl) tw_6_238 rfl dX11_guestPasses_8 ?_
  refine hz_iload_n hO dX11_guestPasses_11 rfl 2 rfl ?_
  refine hz_iconst (v := (0 : Int32)) hO dX11_guestPasses_12 (by decide) ?_
  obtain ⟨hg4, h⟩ := hz_gd_e h
  obtain ⟨M5, h_M5, h⟩ := hz_lm_e h
  refine hz_zast hO hz_sh_185 (hz_lt_185 hN) hg4 (by decide) dX11_guestPasses_13 ?_
  refine hz_nameM h_M5 ?_
  refine hz_iload_n hO dX11_guestPasses_14 rfl 0 rfl ?_
  refine hz_iconst (v := (-1 : Int32)) hO dX11_guestPasses_15 (by decide) ?_
  refine hz_icmp_ne (tgt := 20) hO dX11_guestPasses_16 (by decide) (fun hc6 => ?_) (fun hc6 => ?_)
  · rw [if_neg hc6] at h
    refine hz_iload_n hO dX11_guestPasses_20 rfl 0 rfl ?_
    obtain ⟨k58, hk58, h⟩ := hz_jn_e h
    have gk58 : ∀ (v1_7 : Int32) (v2_8 : Int32) (q9 : Int32) (M10 : hz_M), k58 v1_7 v2_8 q9 M10 = some (rE, ME) → hz_G p l e 2 hz_z0 s m args below meth c w N 5 (MQ below (hz_Qv w N ME) args s 0 0 (hz_A w)) M10 39 [(0, .ref (hz_ad w 178)), (1, .int v1_7), (2, .int v2_8)] [.int q9] := by
      intro v1_7 v2_8 q9 M10 h
      rw [hk58] at h
      dsimp only at h
      refine hz_istore_n (ls1 := [(3, .int q9), (0, .ref (hz_ad w 178)), (1, .int v1_7), (2, .int v2_8)]) hO dX11_guestPasses_39 rfl (Nat.le_of_ble_eq_true rfl) rfl ?_
      refine hz_aload_n hO dX11_guestPasses_40 rfl 1 rfl ?_
      refine hz_iload_n hO dX11_guestPasses_41 rfl 2 rfl ?_
      refine hz_iconst (v := (5 : Int32)) hO dX11_guestPasses_42 (by decide) ?_
      refine hz_iload_n hO dX11_guestPasses_43 rfl 0 rfl ?_
      obtain ⟨k50, hk50, h⟩ := hz_jn_e h
      have gk50 : ∀ (v1_11 : Int32) (v2_12 : Int32) (q13 : Int32) (q14 : Int32) (q15 : Int32) (M16 : hz_M), k50 v1_11 v2_12 q13 q14 q15 M16 = some (rE, ME) → hz_G p l e 2 hz_z0 s m args below meth c w N 5 (MQ below (hz_Qv w N ME) args s 0 0 (hz_A w)) M16 74 [(0, .ref (hz_ad w 178)), (1, .int v1_11), (2, .int v2_12)] [.int q13, .int q14, .int q15, .ref (hz_ad w 178)] := by
        intro v1_11 v2_12 q13 q14 q15 M16 h
        rw [hk50] at h
        dsimp only at h
        obtain ⟨r17, M18, hq19, h⟩ := hz_ct_e h
        refine hz_callVv (as := [.int q15, .int q14, .int q13]) (rest := []) hO (c_X11_puts l w hN q15 q14 q13 hq19) hz_cal_X11_puts hz_K_9 hz_sh_178 (hz_lt_178 hN) tw_6_221 (Nat.le_of_ble_eq_true rfl) rfl rfl (Nat.le_of_ble_eq_true rfl) dX11_guestPasses_74 ?_
        refine hz_iload_n hO dX11_guestPasses_77 rfl 2 rfl ?_
        refine hz_if_eq (tgt := 92) hO dX11_guestPasses_78 (by decide) (fun hc20 => ?_) (fun hc20 => ?_)
        · rw [if_pos hc20] at h
          exact hz_nameM (hz_some_e h).2.symm (hz_vret hO dX11_guestPasses_92)
        · rw [if_neg hc20] at h
          refine hz_aload_n hO dX11_guestPasses_81 rfl 0 rfl ?_
          refine hz_iload_n hO dX11_guestPasses_82 rfl 1 rfl ?_
          refine hz_iconst (v := (5 : Int32)) hO dX11_guestPasses_83 (by decide) ?_
          obtain ⟨r21, M22, hq23, h⟩ := hz_ct_e h
          refine hz_callVi (as := [.int v1_11, .int (5 : Int32)]) (rest := []) hO (c_X11_of l w hN v1_11 (5 : Int32) hq23) hz_cal_X11_of hz_K_9 hz_sh_178 (hz_lt_178 hN) tw_6_217 (Nat.le_of_ble_eq_true rfl) rfl rfl (Nat.le_of_ble_eq_true rfl) dX11_guestPasses_84 ?_
          refine hz_bipush (v := (10 : Int32)) hO dX11_guestPasses_87 (by decide) ?_
          refine hz_icmp_ge (tgt := 93) hO dX11_guestPasses_89 (by decide) (fun hc24 => ?_) (fun hc24 => ?_)
          · rw [if_pos hc24] at h
            refine hz_iload_n hO dX11_guestPasses_93 rfl 2 rfl ?_
            refine hz_iconst (v := (1 : Int32)) hO dX11_guestPasses_94 (by decide) ?_
            refine hz_isub hO dX11_guestPasses_95 ?_
            obtain ⟨x25, h_x25, h⟩ := hz_lt_e h
            refine hz_name h_x25 ?_
            refine hz_istore (ls1 := [(4, .int x25), (0, .ref (hz_ad w 178)), (1, .int v1_11), (2, .int v2_12)]) hO dX11_guestPasses_96 (Nat.le_of_ble_eq_true rfl) rfl ?_
            obtain ⟨k40, hk40, h⟩ := hz_jn_e h
            have gk40 : ∀ (v1_26 : Int32) (v4_27 : Int32) (M28 : hz_M), k40 v1_26 v4_27 M28 = some (rE, ME) → hz_G p l e 2 hz_z0 s m args below meth c w N 5 (MQ below (hz_Qv w N ME) args s 0 0 (hz_A w)) M28 124 [(0, .ref (hz_ad w 178)), (1, .int v1_26), (4, .int v4_27)] [] := by
              intro v1_26 v4_27 M28 h
              rw [hk40] at h
              dsimp only at h
              refine hz_aload_n hO dX11_guestPasses_124 rfl 0 rfl ?_
              refine hz_iload_n hO dX11_guestPasses_125 rfl 1 rfl ?_
              refine hz_iconst (v := (2 : Int32)) hO dX11_guestPasses_126 (by decide) ?_
              refine hz_iload hO dX11_guestPasses_127 2 rfl ?_
              obtain ⟨r29, M30, hq31, h⟩ := hz_ct_e h
              refine hz_callVv (as := [.int v1_26, .int (2 : Int32), .int v4_27]) (rest := []) hO (c_X11_puts l w hN v1_26 (2 : Int32) v4_27 hq31) hz_cal_X11_puts hz_K_9 hz_sh_178 (hz_lt_178 hN) tw_6_221 (Nat.le_of_ble_eq_true rfl) rfl rfl (Nat.le_of_ble_eq_true rfl) dX11_guestPasses_129 ?_
              refine hz_aload_n hO dX11_guestPasses_132 rfl 0 rfl ?_
              refine hz_iload_n hO dX11_guestPasses_133 rfl 1 rfl ?_
              refine hz_iconst (v := (5 : Int32)) hO dX11_guestPasses_134 (by decide) ?_
              refine hz_iconst (v := (5 : Int32)) hO dX11_guestPasses_135 (by decide) ?_
              obtain ⟨r32, M33, hq34, h⟩ := hz_ct_e h
              refine hz_callVv (as := [.int v1_26, .int (5 : Int32), .int (5 : Int32)]) (rest := []) hO (c_X11_puts l w hN v1_26 (5 : Int32) (5 : Int32) hq34) hz_cal_X11_puts hz_K_9 hz_sh_178 (hz_lt_178 hN) tw_6_221 (Nat.le_of_ble_eq_true rfl) rfl rfl (Nat.le_of_ble_eq_true rfl) dX11_guestPasses_136 ?_
              refine hz_aload_n hO dX11_guestPasses_139 rfl 0 rfl ?_
              refine hz_iconst (v := (4 : Int32)) hO dX11_guestPasses_140 (by decide) ?_
              refine hz_iconst (v := (1 : Int32)) hO dX11_guestPasses_141 (by decide) ?_
              obtain ⟨r35, M36, hq37, h⟩ := hz_ct_e h
              refine hz_callVv (as := [.int (4 : Int32), .int (1 : Int32)]) (rest := []) hO (c_X11_counts l w hN (4 : Int32) (1 : Int32) hq37) hz_cal_X11_counts hz_K_9 hz_sh_178 (hz_lt_178 hN) tw_7_177 (Nat.le_of_ble_eq_true rfl) rfl rfl (Nat.le_of_ble_eq_true rfl) dX11_guestPasses_142 ?_
              refine hz_aload_n hO dX11_guestPasses_145 rfl 0 rfl ?_
              refine hz_getR (k := 9) hO 185 hz_K_9 hz_sh_178 (hz_lt_178 hN) rfl (Nat.le_of_ble_eq_true rfl) tw_6_238 rfl dX11_guestPasses_146 ?_
              refine hz_iload_n hO dX11_guestPasses_149 rfl 1 rfl ?_
              refine hz_iconst (v := (1 : Int32)) hO dX11_guestPasses_150 (by decide) ?_
              obtain ⟨hg38, h⟩ := hz_gd_e h
              obtain ⟨M39, h_M39, h⟩ := hz_lm_e h
              refine hz_zast hO hz_sh_185 (hz_lt_185 hN) hg38 (by decide) dX11_guestPasses_151 ?_
              refine hz_nameM h_M39 ?_
              exact hz_nameM (hz_some_e h).2.symm (hz_vret hO dX11_guestPasses_152)
            clear hk40
            exact hz_ls [1, 2, 0] rfl (g_X11_guestPasses_L98 hN hO _ gk40 _ v1_11 x25 M22 h)
          · rw [if_neg hc24] at h
            exact hz_nameM (hz_some_e h).2.symm (hz_vret hO dX11_guestPasses_92)
      clear hk50
      refine hz_if_le (tgt := 62) hO dX11_guestPasses_44 (by decide) (fun hc51 => ?_) (fun hc51 => ?_)
      · rw [if_pos hc51] at h
        refine hz_iconst (v := (0 : Int32)) hO dX11_guestPasses_62 (by decide) ?_
        refine hz_aload_n hO dX11_guestPasses_63 rfl 1 rfl ?_
        refine hz_iload_n hO dX11_guestPasses_64 rfl 2 rfl ?_
        refine hz_iconst (v := (5 : Int32)) hO dX11_guestPasses_65 (by decide) ?_
        obtain ⟨r52, M53, hq54, h⟩ := hz_ct_e h
        refine hz_callVi (as := [.int v1_7, .int (5 : Int32)]) (rest := [.int (0 : Int32), .int (5 : Int32), .int v1_7, .ref (hz_ad w 178)]) hO (c_X11_of l w hN v1_7 (5 : Int32) hq54) hz_cal_X11_of hz_K_9 hz_sh_178 (hz_lt_178 hN) tw_6_217 (Nat.le_of_ble_eq_true rfl) rfl rfl (Nat.le_of_ble_eq_true rfl) dX11_guestPasses_66 ?_
        refine hz_iconst (v := (1 : Int32)) hO dX11_guestPasses_69 (by decide) ?_
        refine hz_isub hO dX11_guestPasses_70 ?_
        refine hz_mmax hO tw_7_205 (Nat.le_of_ble_eq_true rfl) (Nat.le_of_ble_eq_true rfl) dX11_guestPasses_71 ?_
        exact hz_ls [1, 2, 3] rfl (gk50 v1_7 v2_8 (if (0 : Int32) < (r52 - (1 : Int32)) then (r52 - (1 : Int32)) else (0 : Int32)) (5 : Int32) v1_7 M53 h)
      · rw [if_neg hc51] at h
        refine hz_aload_n hO dX11_guestPasses_47 rfl 1 rfl ?_
        refine hz_iload_n hO dX11_guestPasses_48 rfl 2 rfl ?_
        refine hz_iconst (v := (5 : Int32)) hO dX11_guestPasses_49 (by decide) ?_
        obtain ⟨r55, M56, hq57, h⟩ := hz_ct_e h
        refine hz_callVi (as := [.int v1_7, .int (5 : Int32)]) (rest := [.int (5 : Int32), .int v1_7, .ref (hz_ad w 178)]) hO (c_X11_of l w hN v1_7 (5 : Int32) hq57) hz_cal_X11_of hz_K_9 hz_sh_178 (hz_lt_178 hN) tw_6_217 (Nat.le_of_ble_eq_true rfl) rfl rfl (Nat.le_of_ble_eq_true rfl) dX11_guestPasses_50 ?_
        refine hz_iload_n hO dX11_guestPasses_53 rfl 0 rfl ?_
        refine hz_iconst (v := (5 : Int32)) hO dX11_guestPasses_54 (by decide) ?_
        refine hz_idiv hO dX11_guestPasses_55 (by decide) ?_
        refine hz_iadd hO dX11_guestPasses_56 ?_
        refine hz_iconst (v := (1 : Int32)) hO dX11_guestPasses_57 (by decide) ?_
        refine hz_iadd hO dX11_guestPasses_58 ?_
        refine hz_goto (tgt := 74) hO dX11_guestPasses_59 (by decide) ?_
        exact hz_ls [1, 2, 3] rfl (gk50 v1_7 v2_8 ((r55 + (q9 / (5 : Int32))) + (1 : Int32)) (5 : Int32) v1_7 M56 h)
    clear hk58
    refine hz_if_ne (tgt := 28) hO dX11_guestPasses_21 (by decide) (fun hc59 => ?_) (fun hc59 => ?_)
    · rw [if_neg hc59] at h
      refine hz_aload_n hO dX11_guestPasses_28 rfl 1 rfl ?_
      refine hz_iload_n hO dX11_guestPasses_29 rfl 0 rfl ?_
      obtain ⟨r60, M61, hq62, h⟩ := hz_ct_e h
      refine hz_callVi (as := [.int r1]) (rest := []) hO (c_X11_warmthOf l w hN r1 hq62) hz_cal_X11_warmthOf hz_K_9 hz_sh_178 (hz_lt_178 hN) tw_7_214 (Nat.le_of_ble_eq_true rfl) rfl rfl (Nat.le_of_ble_eq_true rfl) dX11_guestPasses_30 ?_
      refine hz_aload_n hO dX11_guestPasses_33 rfl 1 rfl ?_
      refine hz_iload_n hO dX11_guestPasses_34 rfl 2 rfl ?_
      obtain ⟨r63, M64, hq65, h⟩ := hz_ct_e h
      refine hz_callVi (as := [.int a1]) (rest := [.int r60]) hO (c_X11_bears l w hN a1 hq65) hz_cal_X11_bears hz_K_9 hz_sh_178 (hz_lt_178 hN) tw_7_218 (Nat.le_of_ble_eq_true rfl) rfl rfl (Nat.le_of_ble_eq_true rfl) dX11_guestPasses_35 ?_
      refine hz_isub hO dX11_guestPasses_38 ?_
      exact hz_ls [1, 2, 0] rfl (gk58 a1 r1 (r60 - r63) M64 h)
    · rw [if_pos hc59] at h
      refine hz_iconst (v := (0 : Int32)) hO dX11_guestPasses_24 (by decide) ?_
      refine hz_goto (tgt := 39) hO dX11_guestPasses_25 (by decide) ?_
      exact hz_ls [1, 2, 0] rfl (gk58 a1 r1 (0 : Int32) M5 h)
  · rw [if_pos hc6] at h
    exact hz_nameM (hz_some_e h).2.symm (hz_vret hO dX11_guestPasses_19)
