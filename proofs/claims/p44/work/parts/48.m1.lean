-- X8_clear X8_bytesIn X8_put X8_byteAt X8_isBlank X8_isLetter X8_isDigit X8_isSign X8_fail X8_isWord X8_checkName X9_isDeed X9_reasonToStayOut X9_reasonNotToSit X9_reasonNotToHang X9_reasonNotToTake X10_errorPosition X10_size X10_driest X10_gap X10_meanWet X10_silenceIn X10_need X10_isOpening X10_isSetting X10_endReading X10_bitsOf X1_letIn X1_seat X1_hangUp X1_takeDown X1_letGo X1_hear X1_washBasket X2_record X2_stepBack X3_keepName X3_isNameAt
def f_X8_clear (M : hz_M) : hz_O :=
  hz_lm (hz_set M 9 1 (0 : Int32)) fun M1 =>
  some (0, M1)
set_option maxRecDepth 100000 in
set_option maxHeartbeats 4000000 in
theorem c_X8_clear (l : Launch) (w : hz_C) {N : Nat} (hN : 178 ≤ N) {M : hz_M} {rE : Int32} {ME : hz_M} (h : f_X8_clear M = some (rE, ME)) : hz_Ct l yX8_clear cX8_clear 1 none 0 w N [.ref (hz_ad w 9)] M (hz_Qv w N ME) := by
  refine hz_ofW (by decide) rfl (Nat.le_of_ble_eq_true rfl) tw_3_16 ?_
  intro p e s m args below meth c hO
  show hz_G p l e 0 hz_z0 s m args below meth c w N 1 _ M 0 [(0, .ref (hz_ad w 9))] []
  unfold f_X8_clear at h
  refine hz_aload_n hO dX8_clear_0 rfl 0 rfl ?_
  refine hz_iconst (v := (0 : Int32)) hO dX8_clear_1 (by decide) ?_
  obtain ⟨M1, h_M1, h⟩ := hz_lm_e h
  refine hz_putI (k := 1) (ty := .int) hO hz_K_8 tyX8_ok nmX8 hz_sh_9 (hz_lt_9 hN) rfl (Nat.le_of_ble_eq_true rfl) tw_1_109 rfl rfl rfl rfl rfl dX8_clear_2 ?_
  refine hz_nameM h_M1 ?_
  exact hz_nameM (hz_some_e h).2.symm (hz_vret hO dX8_clear_5)
def f_X8_bytesIn_L5 : Nat → Int32 → Int32 → Int32 → hz_M → hz_O
  | 0, _, _, _, _ => none
  | n + 1, v0_1, v1_2, v2_3, M4 =>
    if v2_3 < 0 then
      some (v1_2, M4)
    else
      hz_jn (fun (v0_6 : Int32) (v1_7 : Int32) (v2_8 : Int32) (M9 : hz_M) =>
        hz_lt (v2_8 + (-8 : Int32)) fun x10 =>
        f_X8_bytesIn_L5 n v0_6 v1_7 x10 M9
        ) fun k11 =>
      if (((v0_1).toUInt32 >>> ((v2_3).toUInt32 &&& Int32.toUInt32 31)).toInt32 &&& (255 : Int32)) = 0 then
        k11 v0_1 v1_2 v2_3 M4
      else
        hz_lt (v1_2 + (1 : Int32)) fun x13 =>
        k11 v0_1 x13 v2_3 M4
def f_X8_bytesIn (a0 : Int32) (M : hz_M) : hz_O :=
  f_X8_bytesIn_L5 hz_FU a0 (0 : Int32) (24 : Int32) M
set_option maxRecDepth 100000 in
set_option maxHeartbeats 4000000 in
theorem g_X8_bytesIn_L5 {p : Program} {l : Launch} {e : Env} {s : State} {m : MethodId} {args : Array Value} {below : List Frame} {meth : Method} {c : Code} {w : hz_C} {N : Nat} (hN : 178 ≤ N) {rE : Int32} {ME : hz_M} (hO : hz_Ok p s m args meth c w cX8_bytesIn 3 RX8 (some .int)) : ∀ (n : Nat) (v0_1 : Int32) (v1_2 : Int32) (v2_3 : Int32) (M4 : hz_M), f_X8_bytesIn_L5 n v0_1 v1_2 v2_3 M4 = some (rE, ME) → hz_G p l e 0 hz_z0 s m args below meth c w N 3 (MQ below (hz_Qi w N rE ME) args s 0 0 (hz_A w)) M4 5 [(0, .int v0_1), (1, .int v1_2), (2, .int v2_3)] [] := by
  intro n
  induction n with
  | zero =>
    intro v0_1 v1_2 v2_3 M4 h
    rw [f_X8_bytesIn_L5] at h
    cases h
  | succ n ih =>
    intro v0_1 v1_2 v2_3 M4 h
    rw [f_X8_bytesIn_L5] at h
    refine hz_iload_n hO dX8_bytesIn_5 rfl 2 rfl ?_
    refine hz_if_lt (tgt := 28) hO dX8_bytesIn_6 (by decide) (fun hc5 => ?_) (fun hc5 => ?_)
    · rw [if_pos hc5] at h
      refine hz_iload_n hO dX8_bytesIn_28 rfl 1 rfl ?_
      exact hz_nameM (hz_some_e h).2.symm (hz_name (hz_some_e h).1.symm (hz_iret hO dX8_bytesIn_29))
    · rw [if_neg hc5] at h
      refine hz_iload_n hO dX8_bytesIn_9 rfl 0 rfl ?_
      refine hz_iload_n hO dX8_bytesIn_10 rfl 2 rfl ?_
      refine hz_iushr hO dX8_bytesIn_11 ?_
      refine hz_sipush (v := (255 : Int32)) hO dX8_bytesIn_12 (by decide) ?_
      refine hz_iand hO dX8_bytesIn_15 ?_
      obtain ⟨k11, hk11, h⟩ := hz_jn_e h
      have gk11 : ∀ (v0_6 : Int32) (v1_7 : Int32) (v2_8 : Int32) (M9 : hz_M), k11 v0_6 v1_7 v2_8 M9 = some (rE, ME) → hz_G p l e 0 hz_z0 s m args below meth c w N 3 (MQ below (hz_Qi w N rE ME) args s 0 0 (hz_A w)) M9 22 [(0, .int v0_6), (1, .int v1_7), (2, .int v2_8)] [] := by
        intro v0_6 v1_7 v2_8 M9 h
        rw [hk11] at h
        dsimp only at h
        obtain ⟨x10, h_x10, h⟩ := hz_lt_e h
        refine hz_iinc (k := 2) (v := x10) (ls1 := [(2, .int x10), (0, .int v0_6), (1, .int v1_7)]) hO dX8_bytesIn_22 rfl (by rw [h_x10]; rfl) (Nat.le_of_ble_eq_true rfl) rfl ?_
        refine hz_goto (tgt := 5) hO dX8_bytesIn_25 (by decide) ?_
        exact hz_ls [1, 2, 0] rfl (ih v0_6 v1_7 x10 M9 h)
      clear hk11
      refine hz_if_eq (tgt := 22) hO dX8_bytesIn_16 (by decide) (fun hc12 => ?_) (fun hc12 => ?_)
      · rw [if_pos hc12] at h
        exact hz_ls [0, 1, 2] rfl (gk11 v0_1 v1_2 v2_3 M4 h)
      · rw [if_neg hc12] at h
        obtain ⟨x13, h_x13, h⟩ := hz_lt_e h
        refine hz_iinc (k := 1) (v := x13) (ls1 := [(1, .int x13), (0, .int v0_1), (2, .int v2_3)]) hO dX8_bytesIn_19 rfl (by rw [h_x13]; rfl) (Nat.le_of_ble_eq_true rfl) rfl ?_
        exact hz_ls [1, 0, 2] rfl (gk11 v0_1 x13 v2_3 M4 h)
set_option maxRecDepth 100000 in
set_option maxHeartbeats 4000000 in
theorem c_X8_bytesIn (l : Launch) (w : hz_C) {N : Nat} (hN : 178 ≤ N) (a0 : Int32) {M : hz_M} {rE : Int32} {ME : hz_M} (h : f_X8_bytesIn a0 M = some (rE, ME)) : hz_Ct l yX8_bytesIn cX8_bytesIn 3 (some .int) 0 w N [.int a0] M (hz_Qi w N rE ME) := by
  refine hz_ofW (by decide) rfl (Nat.le_of_ble_eq_true rfl) tw_7_117 ?_
  intro p e s m args below meth c hO
  show hz_G p l e 0 hz_z0 s m args below meth c w N 3 _ M 0 [(0, .int a0)] []
  unfold f_X8_bytesIn at h
  refine hz_iconst (v := (0 : Int32)) hO dX8_bytesIn_0 (by decide) ?_
  refine hz_istore_n (ls1 := [(1, .int (0 : Int32)), (0, .int a0)]) hO dX8_bytesIn_1 rfl (Nat.le_of_ble_eq_true rfl) rfl ?_
  refine hz_bipush (v := (24 : Int32)) hO dX8_bytesIn_2 (by decide) ?_
  refine hz_istore_n (ls1 := [(2, .int (24 : Int32)), (1, .int (0 : Int32)), (0, .int a0)]) hO dX8_bytesIn_4 rfl (Nat.le_of_ble_eq_true rfl) rfl ?_
  exact hz_ls [2, 1, 0] rfl (g_X8_bytesIn_L5 hN hO _ a0 (0 : Int32) (24 : Int32) M h)
def f_X8_put (a1 : Int32) (M : hz_M) : hz_O :=
  if a1 = 0 then
    some (0, M)
  else
    if (600 : Int32) ≤ (M 9 1) then
      some (0, M)
    else
      hz_gd (hz_in (M 9 1) 600) <|
      hz_lm (hz_set M 10 (Int32.toNatClampNeg (M 9 1)) a1) fun M4 =>
      hz_lm (hz_set M4 9 1 ((M4 9 1) + (1 : Int32))) fun M5 =>
      some (0, M5)
set_option maxRecDepth 100000 in
set_option maxHeartbeats 4000000 in
theorem c_X8_put (l : Launch) (w : hz_C) {N : Nat} (hN : 178 ≤ N) (a1 : Int32) {M : hz_M} {rE : Int32} {ME : hz_M} (h : f_X8_put a1 M = some (rE, ME)) : hz_Ct l yX8_put cX8_put 2 none 0 w N [.ref (hz_ad w 9), .int a1] M (hz_Qv w N ME) := by
  refine hz_ofW (by decide) rfl (Nat.le_of_ble_eq_true rfl) tw_2_166 ?_
  intro p e s m args below meth c hO
  show hz_G p l e 0 hz_z0 s m args below meth c w N 2 _ M 0 [(0, .ref (hz_ad w 9)), (1, .int a1)] []
  unfold f_X8_put at h
  refine hz_iload_n hO dX8_put_0 rfl 1 rfl ?_
  refine hz_if_eq (tgt := 34) hO dX8_put_1 (by decide) (fun hc1 => ?_) (fun hc1 => ?_)
  · rw [if_pos hc1] at h
    exact hz_nameM (hz_some_e h).2.symm (hz_vret hO dX8_put_34)
  · rw [if_neg hc1] at h
    refine hz_aload_n hO dX8_put_4 rfl 0 rfl ?_
    refine hz_getI (k := 1) hO hz_K_8 hz_sh_9 (hz_lt_9 hN) rfl (Nat.le_of_ble_eq_true rfl) tw_1_109 rfl dX8_put_5 ?_
    refine hz_sipush (v := (600 : Int32)) hO dX8_put_8 (by decide) ?_
    refine hz_icmp_ge (tgt := 34) hO dX8_put_11 (by decide) (fun hc2 => ?_) (fun hc2 => ?_)
    · rw [if_pos hc2] at h
      exact hz_nameM (hz_some_e h).2.symm (hz_vret hO dX8_put_34)
    · rw [if_neg hc2] at h
      refine hz_aload_n hO dX8_put_14 rfl 0 rfl ?_
      refine hz_getR (k := 0) hO 10 hz_K_8 hz_sh_9 (hz_lt_9 hN) rfl (Nat.le_of_ble_eq_true rfl) tw_1_108 rfl dX8_put_15 ?_
      refine hz_aload_n hO dX8_put_18 rfl 0 rfl ?_
      refine hz_getI (k := 1) hO hz_K_8 hz_sh_9 (hz_lt_9 hN) rfl (Nat.le_of_ble_eq_true rfl) tw_1_109 rfl dX8_put_19 ?_
      refine hz_iload_n hO dX8_put_22 rfl 1 rfl ?_
      obtain ⟨hg3, h⟩ := hz_gd_e h
      obtain ⟨M4, h_M4, h⟩ := hz_lm_e h
      refine hz_iast hO hz_sh_10 (hz_lt_10 hN) hg3 dX8_put_23 ?_
      refine hz_nameM h_M4 ?_
      refine hz_aload_n hO dX8_put_24 rfl 0 rfl ?_
      refine hz_dup hO dX8_put_25 rfl ?_
      refine hz_getI (k := 1) hO hz_K_8 hz_sh_9 (hz_lt_9 hN) rfl (Nat.le_of_ble_eq_true rfl) tw_1_109 rfl dX8_put_26 ?_
      refine hz_iconst (v := (1 : Int32)) hO dX8_put_29 (by decide) ?_
      refine hz_iadd hO dX8_put_30 ?_
      obtain ⟨M5, h_M5, h⟩ := hz_lm_e h
      refine hz_putI (k := 1) (ty := .int) hO hz_K_8 tyX8_ok nmX8 hz_sh_9 (hz_lt_9 hN) rfl (Nat.le_of_ble_eq_true rfl) tw_1_109 rfl rfl rfl rfl rfl dX8_put_31 ?_
      refine hz_nameM h_M5 ?_
      exact hz_nameM (hz_some_e h).2.symm (hz_vret hO dX8_put_34)
def f_X8_byteAt (a1 : Int32) (M : hz_M) : hz_O :=
  if a1 < 0 then
    some ((-1 : Int32), M)
  else
    if (M 9 1) ≤ a1 then
      some ((-1 : Int32), M)
    else
      hz_gd (hz_in a1 600) <|
      some ((M 10 (Int32.toNatClampNeg a1)), M)
set_option maxRecDepth 100000 in
set_option maxHeartbeats 4000000 in
theorem c_X8_byteAt (l : Launch) (w : hz_C) {N : Nat} (hN : 178 ≤ N) (a1 : Int32) {M : hz_M} {rE : Int32} {ME : hz_M} (h : f_X8_byteAt a1 M = some (rE, ME)) : hz_Ct l yX8_byteAt cX8_byteAt 2 (some .int) 0 w N [.ref (hz_ad w 9), .int a1] M (hz_Qi w N rE ME) := by
  refine hz_ofW (by decide) rfl (Nat.le_of_ble_eq_true rfl) tw_2_182 ?_
  intro p e s m args below meth c hO
  show hz_G p l e 0 hz_z0 s m args below meth c w N 2 _ M 0 [(0, .ref (hz_ad w 9)), (1, .int a1)] []
  unfold f_X8_byteAt at h
  refine hz_iload_n hO dX8_byteAt_0 rfl 1 rfl ?_
  refine hz_if_lt (tgt := 21) hO dX8_byteAt_1 (by decide) (fun hc1 => ?_) (fun hc1 => ?_)
  · rw [if_pos hc1] at h
    refine hz_iconst (v := (-1 : Int32)) hO dX8_byteAt_21 (by decide) ?_
    exact hz_nameM (hz_some_e h).2.symm (hz_name (hz_some_e h).1.symm (hz_iret hO dX8_byteAt_22))
  · rw [if_neg hc1] at h
    refine hz_iload_n hO dX8_byteAt_4 rfl 1 rfl ?_
    refine hz_aload_n hO dX8_byteAt_5 rfl 0 rfl ?_
    refine hz_getI (k := 1) hO hz_K_8 hz_sh_9 (hz_lt_9 hN) rfl (Nat.le_of_ble_eq_true rfl) tw_1_109 rfl dX8_byteAt_6 ?_
    refine hz_icmp_ge (tgt := 21) hO dX8_byteAt_9 (by decide) (fun hc2 => ?_) (fun hc2 => ?_)
    · rw [if_pos hc2] at h
      refine hz_iconst (v := (-1 : Int32)) hO dX8_byteAt_21 (by decide) ?_
      exact hz_nameM (hz_some_e h).2.symm (hz_name (hz_some_e h).1.symm (hz_iret hO dX8_byteAt_22))
    · rw [if_neg hc2] at h
      refine hz_aload_n hO dX8_byteAt_12 rfl 0 rfl ?_
      refine hz_getR (k := 0) hO 10 hz_K_8 hz_sh_9 (hz_lt_9 hN) rfl (Nat.le_of_ble_eq_true rfl) tw_1_108 rfl dX8_byteAt_13 ?_
      refine hz_iload_n hO dX8_byteAt_16 rfl 1 rfl ?_
      obtain ⟨hg3, h⟩ := hz_gd_e h
      refine hz_iald hO hz_sh_10 (hz_lt_10 hN) hg3 dX8_byteAt_17 ?_
      refine hz_goto (tgt := 22) hO dX8_byteAt_18 (by decide) ?_
      exact hz_nameM (hz_some_e h).2.symm (hz_name (hz_some_e h).1.symm (hz_iret hO dX8_byteAt_22))
def f_X8_isBlank (a0 : Int32) (M : hz_M) : hz_O :=
  hz_jn (fun  (M1 : hz_M) =>
    some ((1 : Int32), M1)
    ) fun k2 =>
  if a0 = (32 : Int32) then
    k2 M
  else
    if a0 = (10 : Int32) then
      k2 M
    else
      some ((0 : Int32), M)
set_option maxRecDepth 100000 in
set_option maxHeartbeats 4000000 in
theorem c_X8_isBlank (l : Launch) (w : hz_C) {N : Nat} (hN : 178 ≤ N) (a0 : Int32) {M : hz_M} {rE : Int32} {ME : hz_M} (h : f_X8_isBlank a0 M = some (rE, ME)) : hz_Ct l yX8_isBlank cX8_isBlank 1 (some .boolean) 0 w N [.int a0] M (hz_Qi w N rE ME) := by
  refine hz_ofW (by decide) rfl (Nat.le_of_ble_eq_true rfl) tw_2_185 ?_
  intro p e s m args below meth c hO
  show hz_G p l e 0 hz_z0 s m args below meth c w N 1 _ M 0 [(0, .int a0)] []
  unfold f_X8_isBlank at h
  refine hz_iload_n hO dX8_isBlank_0 rfl 0 rfl ?_
  refine hz_bipush (v := (32 : Int32)) hO dX8_isBlank_1 (by decide) ?_
  obtain ⟨k2, hk2, h⟩ := hz_jn_e h
  have gk2 : ∀  (M1 : hz_M), k2 M1 = some (rE, ME) → hz_G p l e 0 hz_z0 s m args below meth c w N 1 (MQ below (hz_Qi w N rE ME) args s 0 0 (hz_A w)) M1 12 [] [] := by
    intro M1 h
    rw [hk2] at h
    dsimp only at h
    refine hz_iconst (v := (1 : Int32)) hO dX8_isBlank_12 (by decide) ?_
    refine hz_goto (tgt := 17) hO dX8_isBlank_13 (by decide) ?_
    exact hz_nameM (hz_some_e h).2.symm (hz_name (hz_some_e h).1.symm (hz_zret hO (by rw [← (hz_some_e h).1]; decide) dX8_isBlank_17))
  clear hk2
  refine hz_icmp_eq (tgt := 12) hO dX8_isBlank_3 (by decide) (fun hc3 => ?_) (fun hc3 => ?_)
  · rw [if_pos hc3] at h
    exact hz_ls [] rfl (gk2 M h)
  · rw [if_neg hc3] at h
    refine hz_iload_n hO dX8_isBlank_6 rfl 0 rfl ?_
    refine hz_bipush (v := (10 : Int32)) hO dX8_isBlank_7 (by decide) ?_
    refine hz_icmp_ne (tgt := 16) hO dX8_isBlank_9 (by decide) (fun hc4 => ?_) (fun hc4 => ?_)
    · rw [if_neg hc4] at h
      refine hz_iconst (v := (0 : Int32)) hO dX8_isBlank_16 (by decide) ?_
      exact hz_nameM (hz_some_e h).2.symm (hz_name (hz_some_e h).1.symm (hz_zret hO (by rw [← (hz_some_e h).1]; decide) dX8_isBlank_17))
    · rw [if_pos hc4] at h
      exact hz_ls [] rfl (gk2 M h)
def f_X8_isLetter (a0 : Int32) (M : hz_M) : hz_O :=
  if a0 < (97 : Int32) then
    some ((0 : Int32), M)
  else
    if (122 : Int32) < a0 then
      some ((0 : Int32), M)
    else
      some ((1 : Int32), M)
set_option maxRecDepth 100000 in
set_option maxHeartbeats 4000000 in
theorem c_X8_isLetter (l : Launch) (w : hz_C) {N : Nat} (hN : 178 ≤ N) (a0 : Int32) {M : hz_M} {rE : Int32} {ME : hz_M} (h : f_X8_isLetter a0 M = some (rE, ME)) : hz_Ct l yX8_isLetter cX8_isLetter 1 (some .boolean) 0 w N [.int a0] M (hz_Qi w N rE ME) := by
  refine hz_ofW (by decide) rfl (Nat.le_of_ble_eq_true rfl) tw_2_188 ?_
  intro p e s m args below meth c hO
  show hz_G p l e 0 hz_z0 s m args below meth c w N 1 _ M 0 [(0, .int a0)] []
  unfold f_X8_isLetter at h
  refine hz_iload_n hO dX8_isLetter_0 rfl 0 rfl ?_
  refine hz_bipush (v := (97 : Int32)) hO dX8_isLetter_1 (by decide) ?_
  refine hz_icmp_lt (tgt := 16) hO dX8_isLetter_3 (by decide) (fun hc1 => ?_) (fun hc1 => ?_)
  · rw [if_pos hc1] at h
    refine hz_iconst (v := (0 : Int32)) hO dX8_isLetter_16 (by decide) ?_
    exact hz_nameM (hz_some_e h).2.symm (hz_name (hz_some_e h).1.symm (hz_zret hO (by rw [← (hz_some_e h).1]; decide) dX8_isLetter_17))
  · rw [if_neg hc1] at h
    refine hz_iload_n hO dX8_isLetter_6 rfl 0 rfl ?_
    refine hz_bipush (v := (122 : Int32)) hO dX8_isLetter_7 (by decide) ?_
    refine hz_icmp_gt (tgt := 16) hO dX8_isLetter_9 (by decide) (fun hc2 => ?_) (fun hc2 => ?_)
    · rw [if_pos hc2] at h
      refine hz_iconst (v := (0 : Int32)) hO dX8_isLetter_16 (by decide) ?_
      exact hz_nameM (hz_some_e h).2.symm (hz_name (hz_some_e h).1.symm (hz_zret hO (by rw [← (hz_some_e h).1]; decide) dX8_isLetter_17))
    · rw [if_neg hc2] at h
      refine hz_iconst (v := (1 : Int32)) hO dX8_isLetter_12 (by decide) ?_
      refine hz_goto (tgt := 17) hO dX8_isLetter_13 (by decide) ?_
      exact hz_nameM (hz_some_e h).2.symm (hz_name (hz_some_e h).1.symm (hz_zret hO (by rw [← (hz_some_e h).1]; decide) dX8_isLetter_17))
def f_X8_isDigit (a0 : Int32) (M : hz_M) : hz_O :=
  if a0 < (48 : Int32) then
    some ((0 : Int32), M)
  else
    if (57 : Int32) < a0 then
      some ((0 : Int32), M)
    else
      some ((1 : Int32), M)
set_option maxRecDepth 100000 in
set_option maxHeartbeats 4000000 in
theorem c_X8_isDigit (l : Launch) (w : hz_C) {N : Nat} (hN : 178 ≤ N) (a0 : Int32) {M : hz_M} {rE : Int32} {ME : hz_M} (h : f_X8_isDigit a0 M = some (rE, ME)) : hz_Ct l yX8_isDigit cX8_isDigit 1 (some .boolean) 0 w N [.int a0] M (hz_Qi w N rE ME) := by
  refine hz_ofW (by decide) rfl (Nat.le_of_ble_eq_true rfl) tw_2_191 ?_
  intro p e s m args below meth c hO
  show hz_G p l e 0 hz_z0 s m args below meth c w N 1 _ M 0 [(0, .int a0)] []
  unfold f_X8_isDigit at h
  refine hz_iload_n hO dX8_isDigit_0 rfl 0 rfl ?_
  refine hz_bipush (v := (48 : Int32)) hO dX8_isDigit_1 (by decide) ?_
  refine hz_icmp_lt (tgt := 16) hO dX8_isDigit_3 (by decide) (fun hc1 => ?_) (fun hc1 => ?_)
  · rw [if_pos hc1] at h
    refine hz_iconst (v := (0 : Int32)) hO dX8_isDigit_16 (by decide) ?_
    exact hz_nameM (hz_some_e h).2.symm (hz_name (hz_some_e h).1.symm (hz_zret hO (by rw [← (hz_some_e h).1]; decide) dX8_isDigit_17))
  · rw [if_neg hc1] at h
    refine hz_iload_n hO dX8_isDigit_6 rfl 0 rfl ?_
    refine hz_bipush (v := (57 : Int32)) hO dX8_isDigit_7 (by decide) ?_
    refine hz_icmp_gt (tgt := 16) hO dX8_isDigit_9 (by decide) (fun hc2 => ?_) (fun hc2 => ?_)
    · rw [if_pos hc2] at h
      refine hz_iconst (v := (0 : Int32)) hO dX8_isDigit_16 (by decide) ?_
      exact hz_nameM (hz_some_e h).2.symm (hz_name (hz_some_e h).1.symm (hz_zret hO (by rw [← (hz_some_e h).1]; decide) dX8_isDigit_17))
    · rw [if_neg hc2] at h
      refine hz_iconst (v := (1 : Int32)) hO dX8_isDigit_12 (by decide) ?_
      refine hz_goto (tgt := 17) hO dX8_isDigit_13 (by decide) ?_
      exact hz_nameM (hz_some_e h).2.symm (hz_name (hz_some_e h).1.symm (hz_zret hO (by rw [← (hz_some_e h).1]; decide) dX8_isDigit_17))
def f_X8_isSign (a0 : Int32) (M : hz_M) : hz_O :=
  hz_jn (fun  (M1 : hz_M) =>
    some ((1 : Int32), M1)
    ) fun k2 =>
  if a0 = (59 : Int32) then
    k2 M
  else
    if a0 = (40 : Int32) then
      k2 M
    else
      if a0 = (41 : Int32) then
        k2 M
      else
        some ((0 : Int32), M)
set_option maxRecDepth 100000 in
set_option maxHeartbeats 4000000 in
theorem c_X8_isSign (l : Launch) (w : hz_C) {N : Nat} (hN : 178 ≤ N) (a0 : Int32) {M : hz_M} {rE : Int32} {ME : hz_M} (h : f_X8_isSign a0 M = some (rE, ME)) : hz_Ct l yX8_isSign cX8_isSign 1 (some .boolean) 0 w N [.int a0] M (hz_Qi w N rE ME) := by
  refine hz_ofW (by decide) rfl (Nat.le_of_ble_eq_true rfl) tw_2_197 ?_
  intro p e s m args below meth c hO
  show hz_G p l e 0 hz_z0 s m args below meth c w N 1 _ M 0 [(0, .int a0)] []
  unfold f_X8_isSign at h
  refine hz_iload_n hO dX8_isSign_0 rfl 0 rfl ?_
  refine hz_bipush (v := (59 : Int32)) hO dX8_isSign_1 (by decide) ?_
  obtain ⟨k2, hk2, h⟩ := hz_jn_e h
  have gk2 : ∀  (M1 : hz_M), k2 M1 = some (rE, ME) → hz_G p l e 0 hz_z0 s m args below meth c w N 1 (MQ below (hz_Qi w N rE ME) args s 0 0 (hz_A w)) M1 18 [] [] := by
    intro M1 h
    rw [hk2] at h
    dsimp only at h
    refine hz_iconst (v := (1 : Int32)) hO dX8_isSign_18 (by decide) ?_
    refine hz_goto (tgt := 23) hO dX8_isSign_19 (by decide) ?_
    exact hz_nameM (hz_some_e h).2.symm (hz_name (hz_some_e h).1.symm (hz_zret hO (by rw [← (hz_some_e h).1]; decide) dX8_isSign_23))
  clear hk2
  refine hz_icmp_eq (tgt := 18) hO dX8_isSign_3 (by decide) (fun hc3 => ?_) (fun hc3 => ?_)
  · rw [if_pos hc3] at h
    exact hz_ls [] rfl (gk2 M h)
  · rw [if_neg hc3] at h
    refine hz_iload_n hO dX8_isSign_6 rfl 0 rfl ?_
    refine hz_bipush (v := (40 : Int32)) hO dX8_isSign_7 (by decide) ?_
    refine hz_icmp_eq (tgt := 18) hO dX8_isSign_9 (by decide) (fun hc4 => ?_) (fun hc4 => ?_)
    · rw [if_pos hc4] at h
      exact hz_ls [] rfl (gk2 M h)
    · rw [if_neg hc4] at h
      refine hz_iload_n hO dX8_isSign_12 rfl 0 rfl ?_
      refine hz_bipush (v := (41 : Int32)) hO dX8_isSign_13 (by decide) ?_
      refine hz_icmp_ne (tgt := 22) hO dX8_isSign_15 (by decide) (fun hc5 => ?_) (fun hc5 => ?_)
      · rw [if_neg hc5] at h
        refine hz_iconst (v := (0 : Int32)) hO dX8_isSign_22 (by decide) ?_
        exact hz_nameM (hz_some_e h).2.symm (hz_name (hz_some_e h).1.symm (hz_zret hO (by rw [← (hz_some_e h).1]; decide) dX8_isSign_23))
      · rw [if_pos hc5] at h
        exact hz_ls [] rfl (gk2 M h)
def f_X8_fail (a1 : Int32) (M : hz_M) : hz_O :=
  if (M 9 6) = 0 then
    hz_lm (hz_set M 9 6 a1) fun M2 =>
    hz_lm (hz_set M2 9 7 (M2 9 3)) fun M3 =>
    some (0, M3)
  else
    some (0, M)
set_option maxRecDepth 100000 in
set_option maxHeartbeats 4000000 in
theorem c_X8_fail (l : Launch) (w : hz_C) {N : Nat} (hN : 178 ≤ N) (a1 : Int32) {M : hz_M} {rE : Int32} {ME : hz_M} (h : f_X8_fail a1 M = some (rE, ME)) : hz_Ct l yX8_fail cX8_fail 2 none 0 w N [.ref (hz_ad w 9), .int a1] M (hz_Qv w N ME) := by
  refine hz_ofW (by decide) rfl (Nat.le_of_ble_eq_true rfl) tw_2_214 ?_
  intro p e s m args below meth c hO
  show hz_G p l e 0 hz_z0 s m args below meth c w N 2 _ M 0 [(0, .ref (hz_ad w 9)), (1, .int a1)] []
  unfold f_X8_fail at h
  refine hz_aload_n hO dX8_fail_0 rfl 0 rfl ?_
  refine hz_getI (k := 6) hO hz_K_8 hz_sh_9 (hz_lt_9 hN) rfl (Nat.le_of_ble_eq_true rfl) tw_1_120 rfl dX8_fail_1 ?_
  refine hz_if_ne (tgt := 20) hO dX8_fail_4 (by decide) (fun hc1 => ?_) (fun hc1 => ?_)
  · rw [if_neg hc1] at h
    exact hz_nameM (hz_some_e h).2.symm (hz_vret hO dX8_fail_20)
  · rw [if_pos hc1] at h
    refine hz_aload_n hO dX8_fail_7 rfl 0 rfl ?_
    refine hz_iload_n hO dX8_fail_8 rfl 1 rfl ?_
    obtain ⟨M2, h_M2, h⟩ := hz_lm_e h
    refine hz_putI (k := 6) (ty := .int) hO hz_K_8 tyX8_ok nmX8 hz_sh_9 (hz_lt_9 hN) rfl (Nat.le_of_ble_eq_true rfl) tw_1_120 rfl rfl rfl rfl rfl dX8_fail_9 ?_
    refine hz_nameM h_M2 ?_
    refine hz_aload_n hO dX8_fail_12 rfl 0 rfl ?_
    refine hz_aload_n hO dX8_fail_13 rfl 0 rfl ?_
    refine hz_getI (k := 3) hO hz_K_8 hz_sh_9 (hz_lt_9 hN) rfl (Nat.le_of_ble_eq_true rfl) tw_1_114 rfl dX8_fail_14 ?_
    obtain ⟨M3, h_M3, h⟩ := hz_lm_e h
    refine hz_putI (k := 7) (ty := .int) hO hz_K_8 tyX8_ok nmX8 hz_sh_9 (hz_lt_9 hN) rfl (Nat.le_of_ble_eq_true rfl) tw_1_121 rfl rfl rfl rfl rfl dX8_fail_17 ?_
    refine hz_nameM h_M3 ?_
    exact hz_nameM (hz_some_e h).2.symm (hz_vret hO dX8_fail_20)
def f_X8_isWord_L28 : Nat → Nat → Int32 → hz_M → hz_O
  | 0, _, _, _ => none
  | n + 1, v1_4, v2_5, M6 =>
    hz_gd (hz_sok v1_4) <|
    if (hz_sl v1_4) ≤ v2_5 then
      some ((1 : Int32), M6)
    else
      hz_ct (f_X8_byteAt ((M6 9 3) + v2_5) M6) fun r9 M10 =>
      hz_gd (hz_sok v1_4) <|
      hz_gd (hz_in v2_5 (hz_len.getD v1_4 0)) <|
      if r9 = (hz_cc v1_4 v2_5) then
        hz_lt (v2_5 + (1 : Int32)) fun x15 =>
        f_X8_isWord_L28 n v1_4 x15 M10
      else
        some ((0 : Int32), M10)
def f_X8_isWord (a1 : Nat) (M : hz_M) : hz_O :=
  if (M 9 2) = (1 : Int32) then
    hz_gd (hz_sok a1) <|
    if ((M 9 4) - (M 9 3)) = (hz_sl a1) then
      f_X8_isWord_L28 hz_FU a1 (0 : Int32) M
    else
      some ((0 : Int32), M)
  else
    some ((0 : Int32), M)
set_option maxRecDepth 100000 in
set_option maxHeartbeats 4000000 in
theorem g_X8_isWord_L28 {p : Program} {l : Launch} {e : Env} {s : State} {m : MethodId} {args : Array Value} {below : List Frame} {meth : Method} {c : Code} {w : hz_C} {N : Nat} (hN : 178 ≤ N) {rE : Int32} {ME : hz_M} (hO : hz_Ok p s m args meth c w cX8_isWord 3 RX8 (some .boolean)) : ∀ (n : Nat) (v1_4 : Nat) (v2_5 : Int32) (M6 : hz_M), f_X8_isWord_L28 n v1_4 v2_5 M6 = some (rE, ME) → hz_G p l e 4 hz_z0 s m args below meth c w N 3 (MQ below (hz_Qi w N rE ME) args s 0 0 (hz_A w)) M6 28 [(0, .ref (hz_ad w 9)), (1, .ref (hz_sa w v1_4)), (2, .int v2_5)] [] := by
  intro n
  induction n with
  | zero =>
    intro v1_4 v2_5 M6 h
    rw [f_X8_isWord_L28] at h
    cases h
  | succ n ih =>
    intro v1_4 v2_5 M6 h
    rw [f_X8_isWord_L28] at h
    refine hz_iload_n hO dX8_isWord_28 rfl 2 rfl ?_
    refine hz_aload_n hO dX8_isWord_29 rfl 1 rfl ?_
    obtain ⟨hg7, h⟩ := hz_gd_e h
    refine hz_callTi (as := []) (rest := [.int v2_5]) hO (c_J0_length_8abf5 l w (hz_sok_e hg7) hO.2.2.2.1.2.1.1) hz_cal_J0_length_8abf5 (Nat.lt_of_lt_of_le (hz_sok_e hg7) hO.2.2.2.1.2.1.1) tw_2_115 (Nat.le_of_ble_eq_true rfl) rfl rfl (Nat.le_of_ble_eq_true rfl) dX8_isWord_30 ?_
    refine hz_icmp_ge (tgt := 62) hO dX8_isWord_33 (by decide) (fun hc8 => ?_) (fun hc8 => ?_)
    · rw [if_pos hc8] at h
      refine hz_iconst (v := (1 : Int32)) hO dX8_isWord_62 (by decide) ?_
      exact hz_nameM (hz_some_e h).2.symm (hz_name (hz_some_e h).1.symm (hz_zret hO (by rw [← (hz_some_e h).1]; decide) dX8_isWord_63))
    · rw [if_neg hc8] at h
      refine hz_aload_n hO dX8_isWord_36 rfl 0 rfl ?_
      refine hz_aload_n hO dX8_isWord_37 rfl 0 rfl ?_
      refine hz_getI (k := 3) hO hz_K_8 hz_sh_9 (hz_lt_9 hN) rfl (Nat.le_of_ble_eq_true rfl) tw_1_114 rfl dX8_isWord_38 ?_
      refine hz_iload_n hO dX8_isWord_41 rfl 2 rfl ?_
      refine hz_iadd hO dX8_isWord_42 ?_
      obtain ⟨r9, M10, hq11, h⟩ := hz_ct_e h
      refine hz_callVi (as := [.int ((M6 9 3) + v2_5)]) (rest := []) hO (c_X8_byteAt l w hN ((M6 9 3) + v2_5) hq11) hz_cal_X8_byteAt hz_K_8 hz_sh_9 (hz_lt_9 hN) tw_2_179 (Nat.le_of_ble_eq_true rfl) rfl rfl (Nat.le_of_ble_eq_true rfl) dX8_isWord_43 ?_
      refine hz_aload_n hO dX8_isWord_46 rfl 1 rfl ?_
      refine hz_iload_n hO dX8_isWord_47 rfl 2 rfl ?_
      obtain ⟨hg12, h⟩ := hz_gd_e h
      obtain ⟨hg13, h⟩ := hz_gd_e h
      refine hz_callTi (as := [.int v2_5]) (rest := [.int r9]) hO (c_J0_charAt_5068e l w (hz_sok_e hg12) hO.2.2.2.1.2.1.1 hg13) hz_cal_J0_charAt_5068e (Nat.lt_of_lt_of_le (hz_sok_e hg12) hO.2.2.2.1.2.1.1) tw_2_125 (Nat.le_of_ble_eq_true rfl) rfl rfl (Nat.le_of_ble_eq_true rfl) dX8_isWord_48 ?_
      refine hz_icmp_eq (tgt := 56) hO dX8_isWord_51 (by decide) (fun hc14 => ?_) (fun hc14 => ?_)
      · rw [if_pos hc14] at h
        obtain ⟨x15, h_x15, h⟩ := hz_lt_e h
        refine hz_iinc (k := 2) (v := x15) (ls1 := [(2, .int x15), (0, .ref (hz_ad w 9)), (1, .ref (hz_sa w v1_4))]) hO dX8_isWord_56 rfl (by rw [h_x15]; rfl) (Nat.le_of_ble_eq_true rfl) rfl ?_
        refine hz_goto (tgt := 28) hO dX8_isWord_59 (by decide) ?_
        exact hz_ls [1, 2, 0] rfl (ih v1_4 x15 M10 h)
      · rw [if_neg hc14] at h
        refine hz_iconst (v := (0 : Int32)) hO dX8_isWord_54 (by decide) ?_
        exact hz_nameM (hz_some_e h).2.symm (hz_name (hz_some_e h).1.symm (hz_zret hO (by rw [← (hz_some_e h).1]; decide) dX8_isWord_55))
set_option maxRecDepth 100000 in
set_option maxHeartbeats 4000000 in
theorem c_X8_isWord (l : Launch) (w : hz_C) {N : Nat} (hN : 178 ≤ N) (a1 : Nat) {M : hz_M} {rE : Int32} {ME : hz_M} (h : f_X8_isWord a1 M = some (rE, ME)) : hz_Ct l yX8_isWord cX8_isWord 3 (some .boolean) 4 w N [.ref (hz_ad w 9), .ref (hz_sa w a1)] M (hz_Qi w N rE ME) := by
  refine hz_ofW (by decide) rfl (Nat.le_of_ble_eq_true rfl) tw_2_206 ?_
  intro p e s m args below meth c hO
  show hz_G p l e 4 hz_z0 s m args below meth c w N 3 _ M 0 [(0, .ref (hz_ad w 9)), (1, .ref (hz_sa w a1))] []
  unfold f_X8_isWord at h
  refine hz_aload_n hO dX8_isWord_0 rfl 0 rfl ?_
  refine hz_getI (k := 2) hO hz_K_8 hz_sh_9 (hz_lt_9 hN) rfl (Nat.le_of_ble_eq_true rfl) tw_1_112 rfl dX8_isWord_1 ?_
  refine hz_iconst (v := (1 : Int32)) hO dX8_isWord_4 (by decide) ?_
  refine hz_icmp_ne (tgt := 24) hO dX8_isWord_5 (by decide) (fun hc1 => ?_) (fun hc1 => ?_)
  · rw [if_neg hc1] at h
    refine hz_iconst (v := (0 : Int32)) hO dX8_isWord_24 (by decide) ?_
    exact hz_nameM (hz_some_e h).2.symm (hz_name (hz_some_e h).1.symm (hz_zret hO (by rw [← (hz_some_e h).1]; decide) dX8_isWord_25))
  · rw [if_pos hc1] at h
    refine hz_aload_n hO dX8_isWord_8 rfl 0 rfl ?_
    refine hz_getI (k := 4) hO hz_K_8 hz_sh_9 (hz_lt_9 hN) rfl (Nat.le_of_ble_eq_true rfl) tw_1_116 rfl dX8_isWord_9 ?_
    refine hz_aload_n hO dX8_isWord_12 rfl 0 rfl ?_
    refine hz_getI (k := 3) hO hz_K_8 hz_sh_9 (hz_lt_9 hN) rfl (Nat.le_of_ble_eq_true rfl) tw_1_114 rfl dX8_isWord_13 ?_
    refine hz_isub hO dX8_isWord_16 ?_
    refine hz_aload_n hO dX8_isWord_17 rfl 1 rfl ?_
    obtain ⟨hg2, h⟩ := hz_gd_e h
    refine hz_callTi (as := []) (rest := [.int ((M 9 4) - (M 9 3))]) hO (c_J0_length_8abf5 l w (hz_sok_e hg2) hO.2.2.2.1.2.1.1) hz_cal_J0_length_8abf5 (Nat.lt_of_lt_of_le (hz_sok_e hg2) hO.2.2.2.1.2.1.1) tw_2_115 (Nat.le_of_ble_eq_true rfl) rfl rfl (Nat.le_of_ble_eq_true rfl) dX8_isWord_18 ?_
    refine hz_icmp_eq (tgt := 26) hO dX8_isWord_21 (by decide) (fun hc3 => ?_) (fun hc3 => ?_)
    · rw [if_pos hc3] at h
      refine hz_iconst (v := (0 : Int32)) hO dX8_isWord_26 (by decide) ?_
      refine hz_istore_n (ls1 := [(2, .int (0 : Int32)), (0, .ref (hz_ad w 9)), (1, .ref (hz_sa w a1))]) hO dX8_isWord_27 rfl (Nat.le_of_ble_eq_true rfl) rfl ?_
      exact hz_ls [1, 2, 0] rfl (g_X8_isWord_L28 hN hO _ a1 (0 : Int32) M h)
    · rw [if_neg hc3] at h
      refine hz_iconst (v := (0 : Int32)) hO dX8_isWord_24 (by decide) ?_
      exact hz_nameM (hz_some_e h).2.symm (hz_name (hz_some_e h).1.symm (hz_zret hO (by rw [← (hz_some_e h).1]; decide) dX8_isWord_25))
def f_X8_checkName (M : hz_M) : hz_O :=
  if (M 9 2) = (1 : Int32) then
    if ((M 9 4) - (M 9 3)) ≤ (6 : Int32) then
      some (0, M)
    else
      hz_ct (f_X8_fail (2 : Int32) M) fun r3 M4 =>
      some (0, M4)
  else
    hz_ct (f_X8_fail (1 : Int32) M) fun r6 M7 =>
    some (0, M7)
set_option maxRecDepth 100000 in
set_option maxHeartbeats 4000000 in
theorem c_X8_checkName (l : Launch) (w : hz_C) {N : Nat} (hN : 178 ≤ N) {M : hz_M} {rE : Int32} {ME : hz_M} (h : f_X8_checkName M = some (rE, ME)) : hz_Ct l yX8_checkName cX8_checkName 1 none 1 w N [.ref (hz_ad w 9)] M (hz_Qv w N ME) := by
  refine hz_ofW (by decide) rfl (Nat.le_of_ble_eq_true rfl) tw_2_233 ?_
  intro p e s m args below meth c hO
  show hz_G p l e 1 hz_z0 s m args below meth c w N 1 _ M 0 [(0, .ref (hz_ad w 9))] []
  unfold f_X8_checkName at h
  refine hz_aload_n hO dX8_checkName_0 rfl 0 rfl ?_
  refine hz_getI (k := 2) hO hz_K_8 hz_sh_9 (hz_lt_9 hN) rfl (Nat.le_of_ble_eq_true rfl) tw_1_112 rfl dX8_checkName_1 ?_
  refine hz_iconst (v := (1 : Int32)) hO dX8_checkName_4 (by decide) ?_
  refine hz_icmp_eq (tgt := 16) hO dX8_checkName_5 (by decide) (fun hc1 => ?_) (fun hc1 => ?_)
  · rw [if_pos hc1] at h
    refine hz_aload_n hO dX8_checkName_16 rfl 0 rfl ?_
    refine hz_getI (k := 4) hO hz_K_8 hz_sh_9 (hz_lt_9 hN) rfl (Nat.le_of_ble_eq_true rfl) tw_1_116 rfl dX8_checkName_17 ?_
    refine hz_aload_n hO dX8_checkName_20 rfl 0 rfl ?_
    refine hz_getI (k := 3) hO hz_K_8 hz_sh_9 (hz_lt_9 hN) rfl (Nat.le_of_ble_eq_true rfl) tw_1_114 rfl dX8_checkName_21 ?_
    refine hz_isub hO dX8_checkName_24 ?_
    refine hz_bipush (v := (6 : Int32)) hO dX8_checkName_25 (by decide) ?_
    refine hz_icmp_le (tgt := 35) hO dX8_checkName_27 (by decide) (fun hc2 => ?_) (fun hc2 => ?_)
    · rw [if_pos hc2] at h
      exact hz_nameM (hz_some_e h).2.symm (hz_vret hO dX8_checkName_35)
    · rw [if_neg hc2] at h
      refine hz_aload_n hO dX8_checkName_30 rfl 0 rfl ?_
      refine hz_iconst (v := (2 : Int32)) hO dX8_checkName_31 (by decide) ?_
      obtain ⟨r3, M4, hq5, h⟩ := hz_ct_e h
      refine hz_callVv (as := [.int (2 : Int32)]) (rest := []) hO (c_X8_fail l w hN (2 : Int32) hq5) hz_cal_X8_fail hz_K_8 hz_sh_9 (hz_lt_9 hN) tw_2_211 (Nat.le_of_ble_eq_true rfl) rfl rfl (Nat.le_of_ble_eq_true rfl) dX8_checkName_32 ?_
      exact hz_nameM (hz_some_e h).2.symm (hz_vret hO dX8_checkName_35)
  · rw [if_neg hc1] at h
    refine hz_aload_n hO dX8_checkName_8 rfl 0 rfl ?_
    refine hz_iconst (v := (1 : Int32)) hO dX8_checkName_9 (by decide) ?_
    obtain ⟨r6, M7, hq8, h⟩ := hz_ct_e h
    refine hz_callVv (as := [.int (1 : Int32)]) (rest := []) hO (c_X8_fail l w hN (1 : Int32) hq8) hz_cal_X8_fail hz_K_8 hz_sh_9 (hz_lt_9 hN) tw_2_211 (Nat.le_of_ble_eq_true rfl) rfl rfl (Nat.le_of_ble_eq_true rfl) dX8_checkName_10 ?_
    refine hz_goto (tgt := 35) hO dX8_checkName_13 (by decide) ?_
    exact hz_nameM (hz_some_e h).2.symm (hz_vret hO dX8_checkName_35)
def f_X9_isDeed (a1 : Int32) (M : hz_M) : hz_O :=
  hz_jn (fun  (M1 : hz_M) =>
    some ((1 : Int32), M1)
    ) fun k2 =>
  if a1 = 0 then
    k2 M
  else
    if a1 = (1 : Int32) then
      k2 M
    else
      hz_ct (f_X3_isStep (a1 - (10 : Int32)) M) fun r5 M6 =>
      if r5 = 0 then
        hz_ct (f_X3_isPeg (a1 - (20 : Int32)) M6) fun r9 M10 =>
        if r9 = 0 then
          hz_ct (f_X3_isPeg (a1 - (40 : Int32)) M10) fun r13 M14 =>
          if r13 = 0 then
            some ((0 : Int32), M14)
          else
            k2 M14
        else
          k2 M10
      else
        k2 M6
set_option maxRecDepth 100000 in
set_option maxHeartbeats 4000000 in
theorem c_X9_isDeed (l : Launch) (w : hz_C) {N : Nat} (hN : 178 ≤ N) (a1 : Int32) {M : hz_M} {rE : Int32} {ME : hz_M} (h : f_X9_isDeed a1 M = some (rE, ME)) : hz_Ct l yX9_isDeed cX9_isDeed 2 (some .boolean) 1 w N [.ref (hz_ad w 25), .int a1] M (hz_Qi w N rE ME) := by
  refine hz_ofW (by decide) rfl (Nat.le_of_ble_eq_true rfl) tw_4_68 ?_
  intro p e s m args below meth c hO
  show hz_G p l e 1 hz_z0 s m args below meth c w N 2 _ M 0 [(0, .ref (hz_ad w 25)), (1, .int a1)] []
  unfold f_X9_isDeed at h
  refine hz_iload_n hO dX9_isDeed_0 rfl 1 rfl ?_
  obtain ⟨k2, hk2, h⟩ := hz_jn_e h
  have gk2 : ∀  (M1 : hz_M), k2 M1 = some (rE, ME) → hz_G p l e 1 hz_z0 s m args below meth c w N 2 (MQ below (hz_Qi w N rE ME) args s 0 0 (hz_A w)) M1 51 [] [] := by
    intro M1 h
    rw [hk2] at h
    dsimp only at h
    refine hz_iconst (v := (1 : Int32)) hO dX9_isDeed_51 (by decide) ?_
    refine hz_goto (tgt := 56) hO dX9_isDeed_52 (by decide) ?_
    exact hz_nameM (hz_some_e h).2.symm (hz_name (hz_some_e h).1.symm (hz_zret hO (by rw [← (hz_some_e h).1]; decide) dX9_isDeed_56))
  clear hk2
  refine hz_if_eq (tgt := 51) hO dX9_isDeed_1 (by decide) (fun hc3 => ?_) (fun hc3 => ?_)
  · rw [if_pos hc3] at h
    exact hz_ls [] rfl (gk2 M h)
  · rw [if_neg hc3] at h
    refine hz_iload_n hO dX9_isDeed_4 rfl 1 rfl ?_
    refine hz_iconst (v := (1 : Int32)) hO dX9_isDeed_5 (by decide) ?_
    refine hz_icmp_eq (tgt := 51) hO dX9_isDeed_6 (by decide) (fun hc4 => ?_) (fun hc4 => ?_)
    · rw [if_pos hc4] at h
      exact hz_ls [] rfl (gk2 M h)
    · rw [if_neg hc4] at h
      refine hz_aload_n hO dX9_isDeed_9 rfl 0 rfl ?_
      refine hz_getR (k := 0) hO 1 hz_K_9 hz_sh_25 (hz_lt_25 hN) rfl (Nat.le_of_ble_eq_true rfl) tw_2_9 rfl dX9_isDeed_10 ?_
      refine hz_iload_n hO dX9_isDeed_13 rfl 1 rfl ?_
      refine hz_bipush (v := (10 : Int32)) hO dX9_isDeed_14 (by decide) ?_
      refine hz_isub hO dX9_isDeed_16 ?_
      obtain ⟨r5, M6, hq7, h⟩ := hz_ct_e h
      refine hz_callVi (as := [.int (a1 - (10 : Int32))]) (rest := []) hO (c_X3_isStep l w hN (a1 - (10 : Int32)) hq7) hz_cal_X3_isStep hz_K_4 hz_sh_1 (hz_lt_1 hN) tw_4_69 (Nat.le_of_ble_eq_true rfl) rfl rfl (Nat.le_of_ble_eq_true rfl) dX9_isDeed_17 ?_
      refine hz_if_ne (tgt := 51) hO dX9_isDeed_20 (by decide) (fun hc8 => ?_) (fun hc8 => ?_)
      · rw [if_neg hc8] at h
        exact hz_ls [] rfl (gk2 M6 h)
      · rw [if_pos hc8] at h
        refine hz_aload_n hO dX9_isDeed_23 rfl 0 rfl ?_
        refine hz_getR (k := 0) hO 1 hz_K_9 hz_sh_25 (hz_lt_25 hN) rfl (Nat.le_of_ble_eq_true rfl) tw_2_9 rfl dX9_isDeed_24 ?_
        refine hz_iload_n hO dX9_isDeed_27 rfl 1 rfl ?_
        refine hz_bipush (v := (20 : Int32)) hO dX9_isDeed_28 (by decide) ?_
        refine hz_isub hO dX9_isDeed_30 ?_
        obtain ⟨r9, M10, hq11, h⟩ := hz_ct_e h
        refine hz_callVi (as := [.int (a1 - (20 : Int32))]) (rest := []) hO (c_X3_isPeg l w hN (a1 - (20 : Int32)) hq11) hz_cal_X3_isPeg hz_K_4 hz_sh_1 (hz_lt_1 hN) tw_4_73 (Nat.le_of_ble_eq_true rfl) rfl rfl (Nat.le_of_ble_eq_true rfl) dX9_isDeed_31 ?_
        refine hz_if_ne (tgt := 51) hO dX9_isDeed_34 (by decide) (fun hc12 => ?_) (fun hc12 => ?_)
        · rw [if_neg hc12] at h
          exact hz_ls [] rfl (gk2 M10 h)
        · rw [if_pos hc12] at h
          refine hz_aload_n hO dX9_isDeed_37 rfl 0 rfl ?_
          refine hz_getR (k := 0) hO 1 hz_K_9 hz_sh_25 (hz_lt_25 hN) rfl (Nat.le_of_ble_eq_true rfl) tw_2_9 rfl dX9_isDeed_38 ?_
          refine hz_iload_n hO dX9_isDeed_41 rfl 1 rfl ?_
          refine hz_bipush (v := (40 : Int32)) hO dX9_isDeed_42 (by decide) ?_
          refine hz_isub hO dX9_isDeed_44 ?_
          obtain ⟨r13, M14, hq15, h⟩ := hz_ct_e h
          refine hz_callVi (as := [.int (a1 - (40 : Int32))]) (rest := []) hO (c_X3_isPeg l w hN (a1 - (40 : Int32)) hq15) hz_cal_X3_isPeg hz_K_4 hz_sh_1 (hz_lt_1 hN) tw_4_73 (Nat.le_of_ble_eq_true rfl) rfl rfl (Nat.le_of_ble_eq_true rfl) dX9_isDeed_45 ?_
          refine hz_if_eq (tgt := 55) hO dX9_isDeed_48 (by decide) (fun hc16 => ?_) (fun hc16 => ?_)
          · rw [if_pos hc16] at h
            refine hz_iconst (v := (0 : Int32)) hO dX9_isDeed_55 (by decide) ?_
            exact hz_nameM (hz_some_e h).2.symm (hz_name (hz_some_e h).1.symm (hz_zret hO (by rw [← (hz_some_e h).1]; decide) dX9_isDeed_56))
          · rw [if_neg hc16] at h
            exact hz_ls [] rfl (gk2 M14 h)
def f_X9_reasonToStayOut (a1 : Int32) (M : hz_M) : hz_O :=
  hz_gd (hz_in a1 16) <|
  if (M 13 (Int32.toNatClampNeg a1)) = (-1 : Int32) then
    hz_gd (hz_in a1 16) <|
    hz_ct (f_X7_day M) fun r4 M5 =>
    if (M 18 (Int32.toNatClampNeg a1)) = r4 then
      some ((2 : Int32), M5)
    else
      hz_ct (f_X7_freeLocker M5) fun r8 M9 =>
      if r8 = (-1 : Int32) then
        some ((3 : Int32), M9)
      else
        hz_ct (f_X7_driestOnPegs M9) fun r12 M13 =>
        if r12 = (-1 : Int32) then
          some ((4 : Int32), M13)
        else
          some ((0 : Int32), M13)
  else
    some ((1 : Int32), M)
set_option maxRecDepth 100000 in
set_option maxHeartbeats 4000000 in
theorem c_X9_reasonToStayOut (l : Launch) (w : hz_C) {N : Nat} (hN : 178 ≤ N) (a1 : Int32) {M : hz_M} {rE : Int32} {ME : hz_M} (h : f_X9_reasonToStayOut a1 M = some (rE, ME)) : hz_Ct l yX9_reasonToStayOut cX9_reasonToStayOut 2 (some .int) 1 w N [.ref (hz_ad w 25), .int a1] M (hz_Qi w N rE ME) := by
  refine hz_ofW (by decide) rfl (Nat.le_of_ble_eq_true rfl) tw_4_84 ?_
  intro p e s m args below meth c hO
  show hz_G p l e 1 hz_z0 s m args below meth c w N 2 _ M 0 [(0, .ref (hz_ad w 25)), (1, .int a1)] []
  unfold f_X9_reasonToStayOut at h
  refine hz_aload_n hO dX9_reasonToStayOut_0 rfl 0 rfl ?_
  refine hz_getR (k := 1) hO 11 hz_K_9 hz_sh_25 (hz_lt_25 hN) rfl (Nat.le_of_ble_eq_true rfl) tw_2_10 rfl dX9_reasonToStayOut_1 ?_
  refine hz_getR (k := 2) hO 13 hz_K_7 hz_sh_11 (hz_lt_11 hN) rfl (Nat.le_of_ble_eq_true rfl) tw_1_151 rfl dX9_reasonToStayOut_4 ?_
  refine hz_iload_n hO dX9_reasonToStayOut_7 rfl 1 rfl ?_
  obtain ⟨hg1, h⟩ := hz_gd_e h
  refine hz_iald hO hz_sh_13 (hz_lt_13 hN) hg1 dX9_reasonToStayOut_8 ?_
  refine hz_iconst (v := (-1 : Int32)) hO dX9_reasonToStayOut_9 (by decide) ?_
  refine hz_icmp_eq (tgt := 15) hO dX9_reasonToStayOut_10 (by decide) (fun hc2 => ?_) (fun hc2 => ?_)
  · rw [if_pos hc2] at h
    refine hz_aload_n hO dX9_reasonToStayOut_15 rfl 0 rfl ?_
    refine hz_getR (k := 1) hO 11 hz_K_9 hz_sh_25 (hz_lt_25 hN) rfl (Nat.le_of_ble_eq_true rfl) tw_2_10 rfl dX9_reasonToStayOut_16 ?_
    refine hz_getR (k := 7) hO 18 hz_K_7 hz_sh_11 (hz_lt_11 hN) rfl (Nat.le_of_ble_eq_true rfl) tw_1_168 rfl dX9_reasonToStayOut_19 ?_
    refine hz_iload_n hO dX9_reasonToStayOut_22 rfl 1 rfl ?_
    obtain ⟨hg3, h⟩ := hz_gd_e h
    refine hz_iald hO hz_sh_18 (hz_lt_18 hN) hg3 dX9_reasonToStayOut_23 ?_
    refine hz_aload_n hO dX9_reasonToStayOut_24 rfl 0 rfl ?_
    refine hz_getR (k := 1) hO 11 hz_K_9 hz_sh_25 (hz_lt_25 hN) rfl (Nat.le_of_ble_eq_true rfl) tw_2_10 rfl dX9_reasonToStayOut_25 ?_
    obtain ⟨r4, M5, hq6, h⟩ := hz_ct_e h
    refine hz_callVi (as := []) (rest := [.int (M 18 (Int32.toNatClampNeg a1))]) hO (c_X7_day l w hN hq6) hz_cal_X7_day hz_K_7 hz_sh_11 (hz_lt_11 hN) tw_4_85 (Nat.le_of_ble_eq_true rfl) rfl rfl (Nat.le_of_ble_eq_true rfl) dX9_reasonToStayOut_28 ?_
    refine hz_icmp_ne (tgt := 36) hO dX9_reasonToStayOut_31 (by decide) (fun hc7 => ?_) (fun hc7 => ?_)
    · rw [if_neg hc7] at h
      refine hz_aload_n hO dX9_reasonToStayOut_36 rfl 0 rfl ?_
      refine hz_getR (k := 1) hO 11 hz_K_9 hz_sh_25 (hz_lt_25 hN) rfl (Nat.le_of_ble_eq_true rfl) tw_2_10 rfl dX9_reasonToStayOut_37 ?_
      obtain ⟨r8, M9, hq10, h⟩ := hz_ct_e h
      refine hz_callVi (as := []) (rest := []) hO (c_X7_freeLocker l w hN hq10) hz_cal_X7_freeLocker hz_K_7 hz_sh_11 (hz_lt_11 hN) tw_4_89 (Nat.le_of_ble_eq_true rfl) rfl rfl (Nat.le_of_ble_eq_true rfl) dX9_reasonToStayOut_40 ?_
      refine hz_iconst (v := (-1 : Int32)) hO dX9_reasonToStayOut_43 (by decide) ?_
      refine hz_icmp_ne (tgt := 49) hO dX9_reasonToStayOut_44 (by decide) (fun hc11 => ?_) (fun hc11 => ?_)
      · rw [if_neg hc11] at h
        refine hz_aload_n hO dX9_reasonToStayOut_49 rfl 0 rfl ?_
        refine hz_getR (k := 1) hO 11 hz_K_9 hz_sh_25 (hz_lt_25 hN) rfl (Nat.le_of_ble_eq_true rfl) tw_2_10 rfl dX9_reasonToStayOut_50 ?_
        obtain ⟨r12, M13, hq14, h⟩ := hz_ct_e h
        refine hz_callVi (as := []) (rest := []) hO (c_X7_driestOnPegs l w hN hq14) hz_cal_X7_driestOnPegs hz_K_7 hz_sh_11 (hz_lt_11 hN) tw_4_93 (Nat.le_of_ble_eq_true rfl) rfl rfl (Nat.le_of_ble_eq_true rfl) dX9_reasonToStayOut_53 ?_
        refine hz_iconst (v := (-1 : Int32)) hO dX9_reasonToStayOut_56 (by decide) ?_
        refine hz_icmp_ne (tgt := 64) hO dX9_reasonToStayOut_57 (by decide) (fun hc15 => ?_) (fun hc15 => ?_)
        · rw [if_neg hc15] at h
          refine hz_iconst (v := (0 : Int32)) hO dX9_reasonToStayOut_64 (by decide) ?_
          exact hz_nameM (hz_some_e h).2.symm (hz_name (hz_some_e h).1.symm (hz_iret hO dX9_reasonToStayOut_65))
        · rw [if_pos hc15] at h
          refine hz_iconst (v := (4 : Int32)) hO dX9_reasonToStayOut_60 (by decide) ?_
          refine hz_goto (tgt := 65) hO dX9_reasonToStayOut_61 (by decide) ?_
          exact hz_nameM (hz_some_e h).2.symm (hz_name (hz_some_e h).1.symm (hz_iret hO dX9_reasonToStayOut_65))
      · rw [if_pos hc11] at h
        refine hz_iconst (v := (3 : Int32)) hO dX9_reasonToStayOut_47 (by decide) ?_
        exact hz_nameM (hz_some_e h).2.symm (hz_name (hz_some_e h).1.symm (hz_iret hO dX9_reasonToStayOut_48))
    · rw [if_pos hc7] at h
      refine hz_iconst (v := (2 : Int32)) hO dX9_reasonToStayOut_34 (by decide) ?_
      exact hz_nameM (hz_some_e h).2.symm (hz_name (hz_some_e h).1.symm (hz_iret hO dX9_reasonToStayOut_35))
  · rw [if_neg hc2] at h
    refine hz_iconst (v := (1 : Int32)) hO dX9_reasonToStayOut_13 (by decide) ?_
    exact hz_nameM (hz_some_e h).2.symm (hz_name (hz_some_e h).1.symm (hz_iret hO dX9_reasonToStayOut_14))
def f_X9_reasonNotToSit (a1 : Int32) (a2 : Int32) (M : hz_M) : hz_O :=
  hz_gd (hz_in a1 16) <|
  if (M 15 (Int32.toNatClampNeg a1)) = (-1 : Int32) then
    some ((6 : Int32), M)
  else
    hz_gd (hz_in a1 16) <|
    hz_ct (f_X3_ageFor a2 M) fun r4 M5 =>
    if r4 ≤ (M 2 (Int32.toNatClampNeg a1)) then
      hz_ct (f_X7_guestsAt a2 M5) fun r8 M9 =>
      hz_gd (hz_in a1 16) <|
      hz_jn (fun (v3_12 : Int32) (M13 : hz_M) =>
        if v3_12 < (M13 11 17) then
          some ((0 : Int32), M13)
        else
          some ((8 : Int32), M13)
        ) fun k15 =>
      if (M9 13 (Int32.toNatClampNeg a1)) = a2 then
        hz_lt (r8 + (-1 : Int32)) fun x17 =>
        k15 x17 M9
      else
        k15 r8 M9
    else
      some ((7 : Int32), M5)
set_option maxRecDepth 100000 in
set_option maxHeartbeats 4000000 in
theorem c_X9_reasonNotToSit (l : Launch) (w : hz_C) {N : Nat} (hN : 178 ≤ N) (a1 : Int32) (a2 : Int32) {M : hz_M} {rE : Int32} {ME : hz_M} (h : f_X9_reasonNotToSit a1 a2 M = some (rE, ME)) : hz_Ct l yX9_reasonNotToSit cX9_reasonNotToSit 4 (some .int) 1 w N [.ref (hz_ad w 25), .int a1, .int a2] M (hz_Qi w N rE ME) := by
  refine hz_ofW (by decide) rfl (Nat.le_of_ble_eq_true rfl) tw_4_100 ?_
  intro p e s m args below meth c hO
  show hz_G p l e 1 hz_z0 s m args below meth c w N 4 _ M 0 [(0, .ref (hz_ad w 25)), (1, .int a1), (2, .int a2)] []
  unfold f_X9_reasonNotToSit at h
  refine hz_aload_n hO dX9_reasonNotToSit_0 rfl 0 rfl ?_
  refine hz_getR (k := 1) hO 11 hz_K_9 hz_sh_25 (hz_lt_25 hN) rfl (Nat.le_of_ble_eq_true rfl) tw_2_10 rfl dX9_reasonNotToSit_1 ?_
  refine hz_getR (k := 4) hO 15 hz_K_7 hz_sh_11 (hz_lt_11 hN) rfl (Nat.le_of_ble_eq_true rfl) tw_1_158 rfl dX9_reasonNotToSit_4 ?_
  refine hz_iload_n hO dX9_reasonNotToSit_7 rfl 1 rfl ?_
  obtain ⟨hg1, h⟩ := hz_gd_e h
  refine hz_iald hO hz_sh_15 (hz_lt_15 hN) hg1 dX9_reasonNotToSit_8 ?_
  refine hz_iconst (v := (-1 : Int32)) hO dX9_reasonNotToSit_9 (by decide) ?_
  refine hz_icmp_ne (tgt := 16) hO dX9_reasonNotToSit_10 (by decide) (fun hc2 => ?_) (fun hc2 => ?_)
  · rw [if_neg hc2] at h
    refine hz_aload_n hO dX9_reasonNotToSit_16 rfl 0 rfl ?_
    refine hz_getR (k := 0) hO 1 hz_K_9 hz_sh_25 (hz_lt_25 hN) rfl (Nat.le_of_ble_eq_true rfl) tw_2_9 rfl dX9_reasonNotToSit_17 ?_
    refine hz_getR (k := 0) hO 2 hz_K_4 hz_sh_1 (hz_lt_1 hN) rfl (Nat.le_of_ble_eq_true rfl) tw_1_46 rfl dX9_reasonNotToSit_20 ?_
    refine hz_iload_n hO dX9_reasonNotToSit_23 rfl 1 rfl ?_
    obtain ⟨hg3, h⟩ := hz_gd_e h
    refine hz_iald hO hz_sh_2 (hz_lt_2 hN) hg3 dX9_reasonNotToSit_24 ?_
    refine hz_iload_n hO dX9_reasonNotToSit_25 rfl 2 rfl ?_
    obtain ⟨r4, M5, hq6, h⟩ := hz_ct_e h
    refine hz_callSi (as := [.int a2]) (rest := [.int (M 2 (Int32.toNatClampNeg a1))]) hO (c_X3_ageFor l w hN a2 hq6) hz_cal_X3_ageFor tw_4_101 (Nat.le_of_ble_eq_true rfl) rfl rfl (Nat.le_of_ble_eq_true rfl) dX9_reasonNotToSit_26 ?_
    refine hz_icmp_ge (tgt := 35) hO dX9_reasonNotToSit_29 (by decide) (fun hc7 => ?_) (fun hc7 => ?_)
    · rw [if_pos hc7] at h
      refine hz_aload_n hO dX9_reasonNotToSit_35 rfl 0 rfl ?_
      refine hz_getR (k := 1) hO 11 hz_K_9 hz_sh_25 (hz_lt_25 hN) rfl (Nat.le_of_ble_eq_true rfl) tw_2_10 rfl dX9_reasonNotToSit_36 ?_
      refine hz_iload_n hO dX9_reasonNotToSit_39 rfl 2 rfl ?_
      obtain ⟨r8, M9, hq10, h⟩ := hz_ct_e h
      refine hz_callVi (as := [.int a2]) (rest := []) hO (c_X7_guestsAt l w hN a2 hq10) hz_cal_X7_guestsAt hz_K_7 hz_sh_11 (hz_lt_11 hN) tw_4_104 (Nat.le_of_ble_eq_true rfl) rfl rfl (Nat.le_of_ble_eq_true rfl) dX9_reasonNotToSit_40 ?_
      refine hz_istore_n (ls1 := [(3, .int r8), (0, .ref (hz_ad w 25)), (1, .int a1), (2, .int a2)]) hO dX9_reasonNotToSit_43 rfl (Nat.le_of_ble_eq_true rfl) rfl ?_
      refine hz_aload_n hO dX9_reasonNotToSit_44 rfl 1 rfl ?_
      refine hz_getR (k := 1) hO 11 hz_K_9 hz_sh_25 (hz_lt_25 hN) rfl (Nat.le_of_ble_eq_true rfl) tw_2_10 rfl dX9_reasonNotToSit_45 ?_
      refine hz_getR (k := 2) hO 13 hz_K_7 hz_sh_11 (hz_lt_11 hN) rfl (Nat.le_of_ble_eq_true rfl) tw_1_151 rfl dX9_reasonNotToSit_48 ?_
      refine hz_iload_n hO dX9_reasonNotToSit_51 rfl 2 rfl ?_
      obtain ⟨hg11, h⟩ := hz_gd_e h
      refine hz_iald hO hz_sh_13 (hz_lt_13 hN) hg11 dX9_reasonNotToSit_52 ?_
      refine hz_iload_n hO dX9_reasonNotToSit_53 rfl 3 rfl ?_
      obtain ⟨k15, hk15, h⟩ := hz_jn_e h
      have gk15 : ∀ (v3_12 : Int32) (M13 : hz_M), k15 v3_12 M13 = some (rE, ME) → hz_G p l e 1 hz_z0 s m args below meth c w N 4 (MQ below (hz_Qi w N rE ME) args s 0 0 (hz_A w)) M13 60 [(0, .ref (hz_ad w 25)), (3, .int v3_12)] [] := by
        intro v3_12 M13 h
        rw [hk15] at h
        dsimp only at h
        refine hz_iload_n hO dX9_reasonNotToSit_60 rfl 1 rfl ?_
        refine hz_aload_n hO dX9_reasonNotToSit_61 rfl 0 rfl ?_
        refine hz_getR (k := 1) hO 11 hz_K_9 hz_sh_25 (hz_lt_25 hN) rfl (Nat.le_of_ble_eq_true rfl) tw_2_10 rfl dX9_reasonNotToSit_62 ?_
        refine hz_getI (k := 17) hO hz_K_7 hz_sh_11 (hz_lt_11 hN) rfl (Nat.le_of_ble_eq_true rfl) tw_1_196 rfl dX9_reasonNotToSit_65 ?_
        refine hz_icmp_lt (tgt := 76) hO dX9_reasonNotToSit_68 (by decide) (fun hc14 => ?_) (fun hc14 => ?_)
        · rw [if_pos hc14] at h
          refine hz_iconst (v := (0 : Int32)) hO dX9_reasonNotToSit_76 (by decide) ?_
          exact hz_nameM (hz_some_e h).2.symm (hz_name (hz_some_e h).1.symm (hz_iret hO dX9_reasonNotToSit_77))
        · rw [if_neg hc14] at h
          refine hz_bipush (v := (8 : Int32)) hO dX9_reasonNotToSit_71 (by decide) ?_
          refine hz_goto (tgt := 77) hO dX9_reasonNotToSit_73 (by decide) ?_
          exact hz_nameM (hz_some_e h).2.symm (hz_name (hz_some_e h).1.symm (hz_iret hO dX9_reasonNotToSit_77))
      clear hk15
      refine hz_icmp_ne (tgt := 60) hO dX9_reasonNotToSit_54 (by decide) (fun hc16 => ?_) (fun hc16 => ?_)
      · rw [if_neg hc16] at h
        exact hz_ls [1, 0] rfl (gk15 r8 M9 h)
      · rw [if_pos hc16] at h
        obtain ⟨x17, h_x17, h⟩ := hz_lt_e h
        refine hz_iinc (k := 0) (v := x17) (ls1 := [(3, .int x17), (0, .ref (hz_ad w 25)), (1, .int a1), (2, .int a2)]) hO dX9_reasonNotToSit_57 rfl (by rw [h_x17]; rfl) (Nat.le_of_ble_eq_true rfl) rfl ?_
        exact hz_ls [1, 0] rfl (gk15 x17 M9 h)
    · rw [if_neg hc7] at h
      refine hz_bipush (v := (7 : Int32)) hO dX9_reasonNotToSit_32 (by decide) ?_
      exact hz_nameM (hz_some_e h).2.symm (hz_name (hz_some_e h).1.symm (hz_iret hO dX9_reasonNotToSit_34))
  · rw [if_pos hc2] at h
    refine hz_bipush (v := (6 : Int32)) hO dX9_reasonNotToSit_13 (by decide) ?_
    exact hz_nameM (hz_some_e h).2.symm (hz_name (hz_some_e h).1.symm (hz_iret hO dX9_reasonNotToSit_15))
def f_X9_reasonNotToHang (a1 : Int32) (a2 : Int32) (M : hz_M) : hz_O :=
  hz_gd (hz_in a1 16) <|
  if (M 15 (Int32.toNatClampNeg a1)) = (-1 : Int32) then
    some ((6 : Int32), M)
  else
    hz_gd (hz_in a2 16) <|
    if (M 23 (Int32.toNatClampNeg a2)) = (-1 : Int32) then
      some ((0 : Int32), M)
    else
      some ((10 : Int32), M)
set_option maxRecDepth 100000 in
set_option maxHeartbeats 4000000 in
theorem c_X9_reasonNotToHang (l : Launch) (w : hz_C) {N : Nat} (hN : 178 ≤ N) (a1 : Int32) (a2 : Int32) {M : hz_M} {rE : Int32} {ME : hz_M} (h : f_X9_reasonNotToHang a1 a2 M = some (rE, ME)) : hz_Ct l yX9_reasonNotToHang cX9_reasonNotToHang 3 (some .int) 0 w N [.ref (hz_ad w 25), .int a1, .int a2] M (hz_Qi w N rE ME) := by
  refine hz_ofW (by decide) rfl (Nat.le_of_ble_eq_true rfl) tw_4_108 ?_
  intro p e s m args below meth c hO
  show hz_G p l e 0 hz_z0 s m args below meth c w N 3 _ M 0 [(0, .ref (hz_ad w 25)), (1, .int a1), (2, .int a2)] []
  unfold f_X9_reasonNotToHang at h
  refine hz_aload_n hO dX9_reasonNotToHang_0 rfl 0 rfl ?_
  refine hz_getR (k := 1) hO 11 hz_K_9 hz_sh_25 (hz_lt_25 hN) rfl (Nat.le_of_ble_eq_true rfl) tw_2_10 rfl dX9_reasonNotToHang_1 ?_
  refine hz_getR (k := 4) hO 15 hz_K_7 hz_sh_11 (hz_lt_11 hN) rfl (Nat.le_of_ble_eq_true rfl) tw_1_158 rfl dX9_reasonNotToHang_4 ?_
  refine hz_iload_n hO dX9_reasonNotToHang_7 rfl 1 rfl ?_
  obtain ⟨hg1, h⟩ := hz_gd_e h
  refine hz_iald hO hz_sh_15 (hz_lt_15 hN) hg1 dX9_reasonNotToHang_8 ?_
  refine hz_iconst (v := (-1 : Int32)) hO dX9_reasonNotToHang_9 (by decide) ?_
  refine hz_icmp_ne (tgt := 16) hO dX9_reasonNotToHang_10 (by decide) (fun hc2 => ?_) (fun hc2 => ?_)
  · rw [if_neg hc2] at h
    refine hz_aload_n hO dX9_reasonNotToHang_16 rfl 0 rfl ?_
    refine hz_getR (k := 1) hO 11 hz_K_9 hz_sh_25 (hz_lt_25 hN) rfl (Nat.le_of_ble_eq_true rfl) tw_2_10 rfl dX9_reasonNotToHang_17 ?_
    refine hz_getR (k := 12) hO 23 hz_K_7 hz_sh_11 (hz_lt_11 hN) rfl (Nat.le_of_ble_eq_true rfl) tw_1_183 rfl dX9_reasonNotToHang_20 ?_
    refine hz_iload_n hO dX9_reasonNotToHang_23 rfl 2 rfl ?_
    obtain ⟨hg3, h⟩ := hz_gd_e h
    refine hz_iald hO hz_sh_23 (hz_lt_23 hN) hg3 dX9_reasonNotToHang_24 ?_
    refine hz_iconst (v := (-1 : Int32)) hO dX9_reasonNotToHang_25 (by decide) ?_
    refine hz_icmp_eq (tgt := 34) hO dX9_reasonNotToHang_26 (by decide) (fun hc4 => ?_) (fun hc4 => ?_)
    · rw [if_pos hc4] at h
      refine hz_iconst (v := (0 : Int32)) hO dX9_reasonNotToHang_34 (by decide) ?_
      exact hz_nameM (hz_some_e h).2.symm (hz_name (hz_some_e h).1.symm (hz_iret hO dX9_reasonNotToHang_35))
    · rw [if_neg hc4] at h
      refine hz_bipush (v := (10 : Int32)) hO dX9_reasonNotToHang_29 (by decide) ?_
      refine hz_goto (tgt := 35) hO dX9_reasonNotToHang_31 (by decide) ?_
      exact hz_nameM (hz_some_e h).2.symm (hz_name (hz_some_e h).1.symm (hz_iret hO dX9_reasonNotToHang_35))
  · rw [if_pos hc2] at h
    refine hz_bipush (v := (6 : Int32)) hO dX9_reasonNotToHang_13 (by decide) ?_
    exact hz_nameM (hz_some_e h).2.symm (hz_name (hz_some_e h).1.symm (hz_iret hO dX9_reasonNotToHang_15))
def f_X9_reasonNotToTake (a1 : Int32) (a2 : Int32) (M : hz_M) : hz_O :=
  hz_gd (hz_in a1 16) <|
  if (M 15 (Int32.toNatClampNeg a1)) = (-1 : Int32) then
    hz_gd (hz_in a2 16) <|
    if (M 23 (Int32.toNatClampNeg a2)) = (-1 : Int32) then
      some ((12 : Int32), M)
    else
      some ((0 : Int32), M)
  else
    some ((11 : Int32), M)
set_option maxRecDepth 100000 in
set_option maxHeartbeats 4000000 in
theorem c_X9_reasonNotToTake (l : Launch) (w : hz_C) {N : Nat} (hN : 178 ≤ N) (a1 : Int32) (a2 : Int32) {M : hz_M} {rE : Int32} {ME : hz_M} (h : f_X9_reasonNotToTake a1 a2 M = some (rE, ME)) : hz_Ct l yX9_reasonNotToTake cX9_reasonNotToTake 3 (some .int) 0 w N [.ref (hz_ad w 25), .int a1, .int a2] M (hz_Qi w N rE ME) := by
  refine hz_ofW (by decide) rfl (Nat.le_of_ble_eq_true rfl) tw_4_112 ?_
  intro p e s m args below meth c hO
  show hz_G p l e 0 hz_z0 s m args below meth c w N 3 _ M 0 [(0, .ref (hz_ad w 25)), (1, .int a1), (2, .int a2)] []
  unfold f_X9_reasonNotToTake at h
  refine hz_aload_n hO dX9_reasonNotToTake_0 rfl 0 rfl ?_
  refine hz_getR (k := 1) hO 11 hz_K_9 hz_sh_25 (hz_lt_25 hN) rfl (Nat.le_of_ble_eq_true rfl) tw_2_10 rfl dX9_reasonNotToTake_1 ?_
  refine hz_getR (k := 4) hO 15 hz_K_7 hz_sh_11 (hz_lt_11 hN) rfl (Nat.le_of_ble_eq_true rfl) tw_1_158 rfl dX9_reasonNotToTake_4 ?_
  refine hz_iload_n hO dX9_reasonNotToTake_7 rfl 1 rfl ?_
  obtain ⟨hg1, h⟩ := hz_gd_e h
  refine hz_iald hO hz_sh_15 (hz_lt_15 hN) hg1 dX9_reasonNotToTake_8 ?_
  refine hz_iconst (v := (-1 : Int32)) hO dX9_reasonNotToTake_9 (by decide) ?_
  refine hz_icmp_eq (tgt := 16) hO dX9_reasonNotToTake_10 (by decide) (fun hc2 => ?_) (fun hc2 => ?_)
  · rw [if_pos hc2] at h
    refine hz_aload_n hO dX9_reasonNotToTake_16 rfl 0 rfl ?_
    refine hz_getR (k := 1) hO 11 hz_K_9 hz_sh_25 (hz_lt_25 hN) rfl (Nat.le_of_ble_eq_true rfl) tw_2_10 rfl dX9_reasonNotToTake_17 ?_
    refine hz_getR (k := 12) hO 23 hz_K_7 hz_sh_11 (hz_lt_11 hN) rfl (Nat.le_of_ble_eq_true rfl) tw_1_183 rfl dX9_reasonNotToTake_20 ?_
    refine hz_iload_n hO dX9_reasonNotToTake_23 rfl 2 rfl ?_
    obtain ⟨hg3, h⟩ := hz_gd_e h
    refine hz_iald hO hz_sh_23 (hz_lt_23 hN) hg3 dX9_reasonNotToTake_24 ?_
    refine hz_iconst (v := (-1 : Int32)) hO dX9_reasonNotToTake_25 (by decide) ?_
    refine hz_icmp_ne (tgt := 34) hO dX9_reasonNotToTake_26 (by decide) (fun hc4 => ?_) (fun hc4 => ?_)
    · rw [if_neg hc4] at h
      refine hz_iconst (v := (0 : Int32)) hO dX9_reasonNotToTake_34 (by decide) ?_
      exact hz_nameM (hz_some_e h).2.symm (hz_name (hz_some_e h).1.symm (hz_iret hO dX9_reasonNotToTake_35))
    · rw [if_pos hc4] at h
      refine hz_bipush (v := (12 : Int32)) hO dX9_reasonNotToTake_29 (by decide) ?_
      refine hz_goto (tgt := 35) hO dX9_reasonNotToTake_31 (by decide) ?_
      exact hz_nameM (hz_some_e h).2.symm (hz_name (hz_some_e h).1.symm (hz_iret hO dX9_reasonNotToTake_35))
  · rw [if_neg hc2] at h
    refine hz_bipush (v := (11 : Int32)) hO dX9_reasonNotToTake_13 (by decide) ?_
    exact hz_nameM (hz_some_e h).2.symm (hz_name (hz_some_e h).1.symm (hz_iret hO dX9_reasonNotToTake_15))
def f_X10_errorPosition (M : hz_M) : hz_O :=
  some ((M 0 9), M)
set_option maxRecDepth 100000 in
set_option maxHeartbeats 4000000 in
theorem c_X10_errorPosition (l : Launch) (w : hz_C) {N : Nat} (hN : 178 ≤ N) {M : hz_M} {rE : Int32} {ME : hz_M} (h : f_X10_errorPosition M = some (rE, ME)) : hz_Ct l yX10_errorPosition cX10_errorPosition 1 (some .int) 0 w N [.ref (hz_ad w 0)] M (hz_Qi w N rE ME) := by
  refine hz_ofW (by decide) rfl (Nat.le_of_ble_eq_true rfl) tw_7_142 ?_
  intro p e s m args below meth c hO
  show hz_G p l e 0 hz_z0 s m args below meth c w N 1 _ M 0 [(0, .ref (hz_ad w 0))] []
  unfold f_X10_errorPosition at h
  refine hz_aload_n hO dX10_errorPosition_0 rfl 0 rfl ?_
  refine hz_getI (k := 9) hO hz_K_10 hz_sh_0 (hz_lt_0 hN) rfl (Nat.le_of_ble_eq_true rfl) tw_3_37 rfl dX10_errorPosition_1 ?_
  exact hz_nameM (hz_some_e h).2.symm (hz_name (hz_some_e h).1.symm (hz_iret hO dX10_errorPosition_4))
def f_X10_size (a1 : Int32) (M : hz_M) : hz_O :=
  if a1 = 0 then
    some ((M 1 3), M)
  else
  if a1 = 1 then
    some ((M 1 4), M)
  else
  if a1 = 2 then
    some ((M 1 5), M)
  else
  if a1 = 3 then
    some ((M 1 6), M)
  else
  if a1 = 4 then
    some ((M 1 7), M)
  else
  if a1 = 5 then
    some ((M 1 8), M)
  else
  if a1 = 6 then
    some ((M 11 17), M)
  else
  if a1 = 7 then
    some ((M 11 18), M)
  else
  if a1 = 8 then
    some ((M 11 19), M)
  else
  if a1 = 9 then
    some ((M 11 14), M)
  else
  if a1 = 10 then
    some ((M 11 15), M)
  else
  if a1 = 11 then
    hz_ct (f_X7_guestsInside M) fun r13 M14 =>
    some (r13, M14)
  else
  if a1 = 12 then
    hz_ct (f_X7_guestsInside M) fun r17 M18 =>
    hz_ct (f_X7_guestsAt (0 : Int32) M18) fun r20 M21 =>
    some ((r17 - r20), M21)
  else
  if a1 = 13 then
    hz_ct (f_X7_towelsInBasket M) fun r24 M25 =>
    some (r24, M25)
  else
  if a1 = 14 then
    hz_ct (f_X7_lockersInUse M) fun r28 M29 =>
    some (((M 1 4) - r28), M29)
  else
  if a1 = 15 then
    hz_ct (f_X7_isSilence M) fun r32 M33 =>
    if r32 = 0 then
      some ((0 : Int32), M33)
    else
      some ((1 : Int32), M33)
  else
  if a1 = 16 then
    some ((M 32 4), M)
  else
  none
set_option maxRecDepth 100000 in
set_option maxHeartbeats 4000000 in
theorem c_X10_size (l : Launch) (w : hz_C) {N : Nat} (hN : 178 ≤ N) (a1 : Int32) {M : hz_M} {rE : Int32} {ME : hz_M} (h : f_X10_size a1 M = some (rE, ME)) : hz_Ct l yX10_size cX10_size 2 (some .int) 2 w N [.ref (hz_ad w 0), .int a1] M (hz_Qi w N rE ME) := by
  refine hz_ofW (by decide) rfl (Nat.le_of_ble_eq_true rfl) tw_3_63 ?_
  intro p e s m args below meth c hO
  show hz_G p l e 2 hz_z0 s m args below meth c w N 2 _ M 0 [(0, .ref (hz_ad w 0)), (1, .int a1)] []
  unfold f_X10_size at h
  refine hz_iload_n hO dX10_size_0 rfl 1 rfl ?_
  by_cases hc1 : a1 = (0 : Int32)
  · rw [if_pos hc1] at h
    refine hz_tin (tgt := 84) hO hc1 dX10_size_1 (by decide) (by decide) rfl (by decide) ?_
    refine hz_aload_n hO dX10_size_84 rfl 0 rfl ?_
    refine hz_getR (k := 0) hO 1 hz_K_10 hz_sh_0 (hz_lt_0 hN) rfl (Nat.le_of_ble_eq_true rfl) tw_3_28 rfl dX10_size_85 ?_
    refine hz_getI (k := 3) hO hz_K_4 hz_sh_1 (hz_lt_1 hN) rfl (Nat.le_of_ble_eq_true rfl) tw_1_52 rfl dX10_size_88 ?_
    exact hz_nameM (hz_some_e h).2.symm (hz_name (hz_some_e h).1.symm (hz_iret hO dX10_size_91))
  · rw [if_neg hc1] at h
    by_cases hc2 : a1 = (1 : Int32)
    · rw [if_pos hc2] at h
      refine hz_tin (tgt := 92) hO hc2 dX10_size_1 (by decide) (by decide) rfl (by decide) ?_
      refine hz_aload_n hO dX10_size_92 rfl 0 rfl ?_
      refine hz_getR (k := 0) hO 1 hz_K_10 hz_sh_0 (hz_lt_0 hN) rfl (Nat.le_of_ble_eq_true rfl) tw_3_28 rfl dX10_size_93 ?_
      refine hz_getI (k := 4) hO hz_K_4 hz_sh_1 (hz_lt_1 hN) rfl (Nat.le_of_ble_eq_true rfl) tw_1_55 rfl dX10_size_96 ?_
      exact hz_nameM (hz_some_e h).2.symm (hz_name (hz_some_e h).1.symm (hz_iret hO dX10_size_99))
    · rw [if_neg hc2] at h
      by_cases hc3 : a1 = (2 : Int32)
      · rw [if_pos hc3] at h
        refine hz_tin (tgt := 100) hO hc3 dX10_size_1 (by decide) (by decide) rfl (by decide) ?_
        refine hz_aload_n hO dX10_size_100 rfl 0 rfl ?_
        refine hz_getR (k := 0) hO 1 hz_K_10 hz_sh_0 (hz_lt_0 hN) rfl (Nat.le_of_ble_eq_true rfl) tw_3_28 rfl dX10_size_101 ?_
        refine hz_getI (k := 5) hO hz_K_4 hz_sh_1 (hz_lt_1 hN) rfl (Nat.le_of_ble_eq_true rfl) tw_1_59 rfl dX10_size_104 ?_
        exact hz_nameM (hz_some_e h).2.symm (hz_name (hz_some_e h).1.symm (hz_iret hO dX10_size_107))
      · rw [if_neg hc3] at h
        by_cases hc4 : a1 = (3 : Int32)
        · rw [if_pos hc4] at h
          refine hz_tin (tgt := 108) hO hc4 dX10_size_1 (by decide) (by decide) rfl (by decide) ?_
          refine hz_aload_n hO dX10_size_108 rfl 0 rfl ?_
          refine hz_getR (k := 0) hO 1 hz_K_10 hz_sh_0 (hz_lt_0 hN) rfl (Nat.le_of_ble_eq_true rfl) tw_3_28 rfl dX10_size_109 ?_
          refine hz_getI (k := 6) hO hz_K_4 hz_sh_1 (hz_lt_1 hN) rfl (Nat.le_of_ble_eq_true rfl) tw_1_63 rfl dX10_size_112 ?_
          exact hz_nameM (hz_some_e h).2.symm (hz_name (hz_some_e h).1.symm (hz_iret hO dX10_size_115))
        · rw [if_neg hc4] at h
          by_cases hc5 : a1 = (4 : Int32)
          · rw [if_pos hc5] at h
            refine hz_tin (tgt := 116) hO hc5 dX10_size_1 (by decide) (by decide) rfl (by decide) ?_
            refine hz_aload_n hO dX10_size_116 rfl 0 rfl ?_
            refine hz_getR (k := 0) hO 1 hz_K_10 hz_sh_0 (hz_lt_0 hN) rfl (Nat.le_of_ble_eq_true rfl) tw_3_28 rfl dX10_size_117 ?_
            refine hz_getI (k := 7) hO hz_K_4 hz_sh_1 (hz_lt_1 hN) rfl (Nat.le_of_ble_eq_true rfl) tw_1_66 rfl dX10_size_120 ?_
            exact hz_nameM (hz_some_e h).2.symm (hz_name (hz_some_e h).1.symm (hz_iret hO dX10_size_123))
          · rw [if_neg hc5] at h
            by_cases hc6 : a1 = (5 : Int32)
            · rw [if_pos hc6] at h
              refine hz_tin (tgt := 124) hO hc6 dX10_size_1 (by decide) (by decide) rfl (by decide) ?_
              refine hz_aload_n hO dX10_size_124 rfl 0 rfl ?_
              refine hz_getR (k := 0) hO 1 hz_K_10 hz_sh_0 (hz_lt_0 hN) rfl (Nat.le_of_ble_eq_true rfl) tw_3_28 rfl dX10_size_125 ?_
              refine hz_getI (k := 8) hO hz_K_4 hz_sh_1 (hz_lt_1 hN) rfl (Nat.le_of_ble_eq_true rfl) tw_1_69 rfl dX10_size_128 ?_
              exact hz_nameM (hz_some_e h).2.symm (hz_name (hz_some_e h).1.symm (hz_iret hO dX10_size_131))
            · rw [if_neg hc6] at h
              by_cases hc7 : a1 = (6 : Int32)
              · rw [if_pos hc7] at h
                refine hz_tin (tgt := 132) hO hc7 dX10_size_1 (by decide) (by decide) rfl (by decide) ?_
                refine hz_aload_n hO dX10_size_132 rfl 0 rfl ?_
                refine hz_getR (k := 3) hO 11 hz_K_10 hz_sh_0 (hz_lt_0 hN) rfl (Nat.le_of_ble_eq_true rfl) tw_3_31 rfl dX10_size_133 ?_
                refine hz_getI (k := 17) hO hz_K_7 hz_sh_11 (hz_lt_11 hN) rfl (Nat.le_of_ble_eq_true rfl) tw_1_197 rfl dX10_size_136 ?_
                exact hz_nameM (hz_some_e h).2.symm (hz_name (hz_some_e h).1.symm (hz_iret hO dX10_size_139))
              · rw [if_neg hc7] at h
                by_cases hc8 : a1 = (7 : Int32)
                · rw [if_pos hc8] at h
                  refine hz_tin (tgt := 140) hO hc8 dX10_size_1 (by decide) (by decide) rfl (by decide) ?_
                  refine hz_aload_n hO dX10_size_140 rfl 0 rfl ?_
                  refine hz_getR (k := 3) hO 11 hz_K_10 hz_sh_0 (hz_lt_0 hN) rfl (Nat.le_of_ble_eq_true rfl) tw_3_31 rfl dX10_size_141 ?_
                  refine hz_getI (k := 18) hO hz_K_7 hz_sh_11 (hz_lt_11 hN) rfl (Nat.le_of_ble_eq_true rfl) tw_1_199 rfl dX10_size_144 ?_
                  exact hz_nameM (hz_some_e h).2.symm (hz_name (hz_some_e h).1.symm (hz_iret hO dX10_size_147))
                · rw [if_neg hc8] at h
                  by_cases hc9 : a1 = (8 : Int32)
                  · rw [if_pos hc9] at h
                    refine hz_tin (tgt := 148) hO hc9 dX10_size_1 (by decide) (by decide) rfl (by decide) ?_
                    refine hz_aload_n hO dX10_size_148 rfl 0 rfl ?_
                    refine hz_getR (k := 3) hO 11 hz_K_10 hz_sh_0 (hz_lt_0 hN) rfl (Nat.le_of_ble_eq_true rfl) tw_3_31 rfl dX10_size_149 ?_
                    refine hz_getI (k := 19) hO hz_K_7 hz_sh_11 (hz_lt_11 hN) rfl (Nat.le_of_ble_eq_true rfl) tw_1_201 rfl dX10_size_152 ?_
                    exact hz_nameM (hz_some_e h).2.symm (hz_name (hz_some_e h).1.symm (hz_iret hO dX10_size_155))
                  · rw [if_neg hc9] at h
                    by_cases hc10 : a1 = (9 : Int32)
                    · rw [if_pos hc10] at h
                      refine hz_tin (tgt := 156) hO hc10 dX10_size_1 (by decide) (by decide) rfl (by decide) ?_
                      refine hz_aload_n hO dX10_size_156 rfl 0 rfl ?_
                      refine hz_getR (k := 3) hO 11 hz_K_10 hz_sh_0 (hz_lt_0 hN) rfl (Nat.le_of_ble_eq_true rfl) tw_3_31 rfl dX10_size_157 ?_
                      refine hz_getI (k := 14) hO hz_K_7 hz_sh_11 (hz_lt_11 hN) rfl (Nat.le_of_ble_eq_true rfl) tw_1_191 rfl dX10_size_160 ?_
                      exact hz_nameM (hz_some_e h).2.symm (hz_name (hz_some_e h).1.symm (hz_iret hO dX10_size_163))
                    · rw [if_neg hc10] at h
                      by_cases hc11 : a1 = (10 : Int32)
                      · rw [if_pos hc11] at h
                        refine hz_tin (tgt := 164) hO hc11 dX10_size_1 (by decide) (by decide) rfl (by decide) ?_
                        refine hz_aload_n hO dX10_size_164 rfl 0 rfl ?_
                        refine hz_getR (k := 3) hO 11 hz_K_10 hz_sh_0 (hz_lt_0 hN) rfl (Nat.le_of_ble_eq_true rfl) tw_3_31 rfl dX10_size_165 ?_
                        refine hz_getI (k := 15) hO hz_K_7 hz_sh_11 (hz_lt_11 hN) rfl (Nat.le_of_ble_eq_true rfl) tw_1_193 rfl dX10_size_168 ?_
                        exact hz_nameM (hz_some_e h).2.symm (hz_name (hz_some_e h).1.symm (hz_iret hO dX10_size_171))
                      · rw [if_neg hc11] at h
                        by_cases hc12 : a1 = (11 : Int32)
                        · rw [if_pos hc12] at h
                          refine hz_tin (tgt := 172) hO hc12 dX10_size_1 (by decide) (by decide) rfl (by decide) ?_
                          refine hz_aload_n hO dX10_size_172 rfl 0 rfl ?_
                          refine hz_getR (k := 3) hO 11 hz_K_10 hz_sh_0 (hz_lt_0 hN) rfl (Nat.le_of_ble_eq_true rfl) tw_3_31 rfl dX10_size_173 ?_
                          obtain ⟨r13, M14, hq15, h⟩ := hz_ct_e h
                          refine hz_callVi (as := []) (rest := []) hO (c_X7_guestsInside l w hN hq15) hz_cal_X7_guestsInside hz_K_7 hz_sh_11 (hz_lt_11 hN) tw_3_64 (Nat.le_of_ble_eq_true rfl) rfl rfl (Nat.le_of_ble_eq_true rfl) dX10_size_176 ?_
                          exact hz_nameM (hz_some_e h).2.symm (hz_name (hz_some_e h).1.symm (hz_iret hO dX10_size_179))
                        · rw [if_neg hc12] at h
                          by_cases hc16 : a1 = (12 : Int32)
                          · rw [if_pos hc16] at h
                            refine hz_tin (tgt := 180) hO hc16 dX10_size_1 (by decide) (by decide) rfl (by decide) ?_
                            refine hz_aload_n hO dX10_size_180 rfl 0 rfl ?_
                            refine hz_getR (k := 3) hO 11 hz_K_10 hz_sh_0 (hz_lt_0 hN) rfl (Nat.le_of_ble_eq_true rfl) tw_3_31 rfl dX10_size_181 ?_
                            obtain ⟨r17, M18, hq19, h⟩ := hz_ct_e h
                            refine hz_callVi (as := []) (rest := []) hO (c_X7_guestsInside l w hN hq19) hz_cal_X7_guestsInside hz_K_7 hz_sh_11 (hz_lt_11 hN) tw_3_64 (Nat.le_of_ble_eq_true rfl) rfl rfl (Nat.le_of_ble_eq_true rfl) dX10_size_184 ?_
                            refine hz_aload_n hO dX10_size_187 rfl 0 rfl ?_
                            refine hz_getR (k := 3) hO 11 hz_K_10 hz_sh_0 (hz_lt_0 hN) rfl (Nat.le_of_ble_eq_true rfl) tw_3_31 rfl dX10_size_188 ?_
                            refine hz_iconst (v := (0 : Int32)) hO dX10_size_191 (by decide) ?_
                            obtain ⟨r20, M21, hq22, h⟩ := hz_ct_e h
                            refine hz_callVi (as := [.int (0 : Int32)]) (rest := [.int r17]) hO (c_X7_guestsAt l w hN (0 : Int32) hq22) hz_cal_X7_guestsAt hz_K_7 hz_sh_11 (hz_lt_11 hN) tw_3_68 (Nat.le_of_ble_eq_true rfl) rfl rfl (Nat.le_of_ble_eq_true rfl) dX10_size_192 ?_
                            refine hz_isub hO dX10_size_195 ?_
                            exact hz_nameM (hz_some_e h).2.symm (hz_name (hz_some_e h).1.symm (hz_iret hO dX10_size_196))
                          · rw [if_neg hc16] at h
                            by_cases hc23 : a1 = (13 : Int32)
                            · rw [if_pos hc23] at h
                              refine hz_tin (tgt := 197) hO hc23 dX10_size_1 (by decide) (by decide) rfl (by decide) ?_
                              refine hz_aload_n hO dX10_size_197 rfl 0 rfl ?_
                              refine hz_getR (k := 3) hO 11 hz_K_10 hz_sh_0 (hz_lt_0 hN) rfl (Nat.le_of_ble_eq_true rfl) tw_3_31 rfl dX10_size_198 ?_
                              obtain ⟨r24, M25, hq26, h⟩ := hz_ct_e h
                              refine hz_callVi (as := []) (rest := []) hO (c_X7_towelsInBasket l w hN hq26) hz_cal_X7_towelsInBasket hz_K_7 hz_sh_11 (hz_lt_11 hN) tw_3_72 (Nat.le_of_ble_eq_true rfl) rfl rfl (Nat.le_of_ble_eq_true rfl) dX10_size_201 ?_
                              exact hz_nameM (hz_some_e h).2.symm (hz_name (hz_some_e h).1.symm (hz_iret hO dX10_size_204))
                            · rw [if_neg hc23] at h
                              by_cases hc27 : a1 = (14 : Int32)
                              · rw [if_pos hc27] at h
                                refine hz_tin (tgt := 205) hO hc27 dX10_size_1 (by decide) (by decide) rfl (by decide) ?_
                                refine hz_aload_n hO dX10_size_205 rfl 0 rfl ?_
                                refine hz_getR (k := 0) hO 1 hz_K_10 hz_sh_0 (hz_lt_0 hN) rfl (Nat.le_of_ble_eq_true rfl) tw_3_28 rfl dX10_size_206 ?_
                                refine hz_getI (k := 4) hO hz_K_4 hz_sh_1 (hz_lt_1 hN) rfl (Nat.le_of_ble_eq_true rfl) tw_1_55 rfl dX10_size_209 ?_
                                refine hz_aload_n hO dX10_size_212 rfl 0 rfl ?_
                                refine hz_getR (k := 3) hO 11 hz_K_10 hz_sh_0 (hz_lt_0 hN) rfl (Nat.le_of_ble_eq_true rfl) tw_3_31 rfl dX10_size_213 ?_
                                obtain ⟨r28, M29, hq30, h⟩ := hz_ct_e h
                                refine hz_callVi (as := []) (rest := [.int (M 1 4)]) hO (c_X7_lockersInUse l w hN hq30) hz_cal_X7_lockersInUse hz_K_7 hz_sh_11 (hz_lt_11 hN) tw_3_80 (Nat.le_of_ble_eq_true rfl) rfl rfl (Nat.le_of_ble_eq_true rfl) dX10_size_216 ?_
                                refine hz_isub hO dX10_size_219 ?_
                                exact hz_nameM (hz_some_e h).2.symm (hz_name (hz_some_e h).1.symm (hz_iret hO dX10_size_220))
                              · rw [if_neg hc27] at h
                                by_cases hc31 : a1 = (15 : Int32)
                                · rw [if_pos hc31] at h
                                  refine hz_tin (tgt := 221) hO hc31 dX10_size_1 (by decide) (by decide) rfl (by decide) ?_
                                  refine hz_aload_n hO dX10_size_221 rfl 0 rfl ?_
                                  refine hz_getR (k := 3) hO 11 hz_K_10 hz_sh_0 (hz_lt_0 hN) rfl (Nat.le_of_ble_eq_true rfl) tw_3_31 rfl dX10_size_222 ?_
                                  obtain ⟨r32, M33, hq34, h⟩ := hz_ct_e h
                                  refine hz_callVi (as := []) (rest := []) hO (c_X7_isSilence l w hN hq34) hz_cal_X7_isSilence hz_K_7 hz_sh_11 (hz_lt_11 hN) tw_3_84 (Nat.le_of_ble_eq_true rfl) rfl rfl (Nat.le_of_ble_eq_true rfl) dX10_size_225 ?_
                                  refine hz_if_eq (tgt := 235) hO dX10_size_228 (by decide) (fun hc35 => ?_) (fun hc35 => ?_)
                                  · rw [if_pos hc35] at h
                                    refine hz_iconst (v := (0 : Int32)) hO dX10_size_235 (by decide) ?_
                                    exact hz_nameM (hz_some_e h).2.symm (hz_name (hz_some_e h).1.symm (hz_iret hO dX10_size_236))
                                  · rw [if_neg hc35] at h
                                    refine hz_iconst (v := (1 : Int32)) hO dX10_size_231 (by decide) ?_
                                    refine hz_goto (tgt := 236) hO dX10_size_232 (by decide) ?_
                                    exact hz_nameM (hz_some_e h).2.symm (hz_name (hz_some_e h).1.symm (hz_iret hO dX10_size_236))
                                · rw [if_neg hc31] at h
                                  by_cases hc36 : a1 = (16 : Int32)
                                  · rw [if_pos hc36] at h
                                    refine hz_tin (tgt := 237) hO hc36 dX10_size_1 (by decide) (by decide) rfl (by decide) ?_
                                    refine hz_aload_n hO dX10_size_237 rfl 0 rfl ?_
                                    refine hz_getR (k := 7) hO 32 hz_K_10 hz_sh_0 (hz_lt_0 hN) rfl (Nat.le_of_ble_eq_true rfl) tw_3_35 rfl dX10_size_238 ?_
                                    refine hz_getI (k := 4) hO hz_K_3 hz_sh_32 (hz_lt_32 hN) rfl (Nat.le_of_ble_eq_true rfl) tw_2_82 rfl dX10_size_241 ?_
                                    exact hz_nameM (hz_some_e h).2.symm (hz_name (hz_some_e h).1.symm (hz_iret hO dX10_size_244))
                                  · rw [if_neg hc36] at h
                                    have hn0 : ¬ a1.toInt = 0 := lv_neT hc1 rfl
                                    have hn1 : ¬ a1.toInt = 1 := lv_neT hc2 rfl
                                    have hn2 : ¬ a1.toInt = 2 := lv_neT hc3 rfl
                                    have hn3 : ¬ a1.toInt = 3 := lv_neT hc4 rfl
                                    have hn4 : ¬ a1.toInt = 4 := lv_neT hc5 rfl
                                    have hn5 : ¬ a1.toInt = 5 := lv_neT hc6 rfl
                                    have hn6 : ¬ a1.toInt = 6 := lv_neT hc7 rfl
                                    have hn7 : ¬ a1.toInt = 7 := lv_neT hc8 rfl
                                    have hn8 : ¬ a1.toInt = 8 := lv_neT hc9 rfl
                                    have hn9 : ¬ a1.toInt = 9 := lv_neT hc10 rfl
                                    have hn10 : ¬ a1.toInt = 10 := lv_neT hc11 rfl
                                    have hn11 : ¬ a1.toInt = 11 := lv_neT hc12 rfl
                                    have hn12 : ¬ a1.toInt = 12 := lv_neT hc16 rfl
                                    have hn13 : ¬ a1.toInt = 13 := lv_neT hc23 rfl
                                    have hn14 : ¬ a1.toInt = 14 := lv_neT hc27 rfl
                                    have hn15 : ¬ a1.toInt = 15 := lv_neT hc31 rfl
                                    have hn16 : ¬ a1.toInt = 16 := lv_neT hc36 rfl
                                    refine hz_tout (tgt := 245) hO dX10_size_1 (by omega) (by decide) ?_
                                    cases h
def f_X10_driest (M : hz_M) : hz_O :=
  hz_ct (f_X7_driestOnPegs M) fun r1 M2 =>
  some (r1, M2)
set_option maxRecDepth 100000 in
set_option maxHeartbeats 4000000 in
theorem c_X10_driest (l : Launch) (w : hz_C) {N : Nat} (hN : 178 ≤ N) {M : hz_M} {rE : Int32} {ME : hz_M} (h : f_X10_driest M = some (rE, ME)) : hz_Ct l yX10_driest cX10_driest 1 (some .int) 1 w N [.ref (hz_ad w 0)] M (hz_Qi w N rE ME) := by
  refine hz_ofW (by decide) rfl (Nat.le_of_ble_eq_true rfl) tw_5_29 ?_
  intro p e s m args below meth c hO
  show hz_G p l e 1 hz_z0 s m args below meth c w N 1 _ M 0 [(0, .ref (hz_ad w 0))] []
  unfold f_X10_driest at h
  refine hz_aload_n hO dX10_driest_0 rfl 0 rfl ?_
  refine hz_getR (k := 3) hO 11 hz_K_10 hz_sh_0 (hz_lt_0 hN) rfl (Nat.le_of_ble_eq_true rfl) tw_3_31 rfl dX10_driest_1 ?_
  obtain ⟨r1, M2, hq3, h⟩ := hz_ct_e h
  refine hz_callVi (as := []) (rest := []) hO (c_X7_driestOnPegs l w hN hq3) hz_cal_X7_driestOnPegs hz_K_7 hz_sh_11 (hz_lt_11 hN) tw_5_30 (Nat.le_of_ble_eq_true rfl) rfl rfl (Nat.le_of_ble_eq_true rfl) dX10_driest_4 ?_
  exact hz_nameM (hz_some_e h).2.symm (hz_name (hz_some_e h).1.symm (hz_iret hO dX10_driest_7))
def f_X10_gap (M : hz_M) : hz_O :=
  hz_ct (f_X7_guestsInside M) fun r1 M2 =>
  hz_ct (f_X7_towelsOnPegs M2) fun r4 M5 =>
  hz_ct (f_X7_towelsWithGuests M5) fun r7 M8 =>
  hz_ct (f_X7_towelsInBasket M8) fun r10 M11 =>
  hz_lt (((((M2 1 6) - r4) - r7) - r10)) fun x13 =>
  hz_lt ((((M11 24 (Int32.toNatClampNeg (0 : Int32))) - (M11 24 (Int32.toNatClampNeg (1 : Int32)))) - r1)) fun x14 =>
  hz_ct (f_X7_lockersInUse M11) fun r15 M16 =>
  hz_lt ((r15 - r1)) fun x18 =>
  hz_ct (f_X7_pegsUntold M16) fun r19 M20 =>
  some (((((if 0 ≤ x13 then x13 else 0 - x13) + r19) + (if 0 ≤ x14 then x14 else 0 - x14)) + (if 0 ≤ x18 then x18 else 0 - x18)), M20)
set_option maxRecDepth 100000 in
set_option maxHeartbeats 4000000 in
theorem c_X10_gap (l : Launch) (w : hz_C) {N : Nat} (hN : 178 ≤ N) {M : hz_M} {rE : Int32} {ME : hz_M} (h : f_X10_gap M = some (rE, ME)) : hz_Ct l yX10_gap cX10_gap 5 (some .int) 2 w N [.ref (hz_ad w 0)] M (hz_Qi w N rE ME) := by
  refine hz_ofW (by decide) rfl (Nat.le_of_ble_eq_true rfl) tw_5_35 ?_
  intro p e s m args below meth c hO
  show hz_G p l e 2 hz_z0 s m args below meth c w N 5 _ M 0 [(0, .ref (hz_ad w 0))] []
  unfold f_X10_gap at h
  refine hz_aload_n hO dX10_gap_0 rfl 0 rfl ?_
  refine hz_getR (k := 3) hO 11 hz_K_10 hz_sh_0 (hz_lt_0 hN) rfl (Nat.le_of_ble_eq_true rfl) tw_3_31 rfl dX10_gap_1 ?_
  obtain ⟨r1, M2, hq3, h⟩ := hz_ct_e h
  refine hz_callVi (as := []) (rest := []) hO (c_X7_guestsInside l w hN hq3) hz_cal_X7_guestsInside hz_K_7 hz_sh_11 (hz_lt_11 hN) tw_3_64 (Nat.le_of_ble_eq_true rfl) rfl rfl (Nat.le_of_ble_eq_true rfl) dX10_gap_4 ?_
  refine hz_istore_n (ls1 := [(1, .int r1), (0, .ref (hz_ad w 0))]) hO dX10_gap_7 rfl (Nat.le_of_ble_eq_true rfl) rfl ?_
  refine hz_aload_n hO dX10_gap_8 rfl 1 rfl ?_
  refine hz_getR (k := 0) hO 1 hz_K_10 hz_sh_0 (hz_lt_0 hN) rfl (Nat.le_of_ble_eq_true rfl) tw_3_28 rfl dX10_gap_9 ?_
  refine hz_getI (k := 6) hO hz_K_4 hz_sh_1 (hz_lt_1 hN) rfl (Nat.le_of_ble_eq_true rfl) tw_1_63 rfl dX10_gap_12 ?_
  refine hz_aload_n hO dX10_gap_15 rfl 1 rfl ?_
  refine hz_getR (k := 3) hO 11 hz_K_10 hz_sh_0 (hz_lt_0 hN) rfl (Nat.le_of_ble_eq_true rfl) tw_3_31 rfl dX10_gap_16 ?_
  obtain ⟨r4, M5, hq6, h⟩ := hz_ct_e h
  refine hz_callVi (as := []) (rest := [.int (M2 1 6)]) hO (c_X7_towelsOnPegs l w hN hq6) hz_cal_X7_towelsOnPegs hz_K_7 hz_sh_11 (hz_lt_11 hN) tw_5_36 (Nat.le_of_ble_eq_true rfl) rfl rfl (Nat.le_of_ble_eq_true rfl) dX10_gap_19 ?_
  refine hz_isub hO dX10_gap_22 ?_
  refine hz_aload_n hO dX10_gap_23 rfl 1 rfl ?_
  refine hz_getR (k := 3) hO 11 hz_K_10 hz_sh_0 (hz_lt_0 hN) rfl (Nat.le_of_ble_eq_true rfl) tw_3_31 rfl dX10_gap_24 ?_
  obtain ⟨r7, M8, hq9, h⟩ := hz_ct_e h
  refine hz_callVi (as := []) (rest := [.int ((M2 1 6) - r4)]) hO (c_X7_towelsWithGuests l w hN hq9) hz_cal_X7_towelsWithGuests hz_K_7 hz_sh_11 (hz_lt_11 hN) tw_5_40 (Nat.le_of_ble_eq_true rfl) rfl rfl (Nat.le_of_ble_eq_true rfl) dX10_gap_27 ?_
  refine hz_isub hO dX10_gap_30 ?_
  refine hz_aload_n hO dX10_gap_31 rfl 1 rfl ?_
  refine hz_getR (k := 3) hO 11 hz_K_10 hz_sh_0 (hz_lt_0 hN) rfl (Nat.le_of_ble_eq_true rfl) tw_3_31 rfl dX10_gap_32 ?_
  obtain ⟨r10, M11, hq12, h⟩ := hz_ct_e h
  refine hz_callVi (as := []) (rest := [.int (((M2 1 6) - r4) - r7)]) hO (c_X7_towelsInBasket l w hN hq12) hz_cal_X7_towelsInBasket hz_K_7 hz_sh_11 (hz_lt_11 hN) tw_3_72 (Nat.le_of_ble_eq_true rfl) rfl rfl (Nat.le_of_ble_eq_true rfl) dX10_gap_35 ?_
  refine hz_isub hO dX10_gap_38 ?_
  obtain ⟨x13, h_x13, h⟩ := hz_lt_e h
  refine hz_name h_x13 ?_
  refine hz_istore_n (ls1 := [(2, .int x13), (1, .int r1), (0, .ref (hz_ad w 0))]) hO dX10_gap_39 rfl (Nat.le_of_ble_eq_true rfl) rfl ?_
  refine hz_aload_n hO dX10_gap_40 rfl 2 rfl ?_
  refine hz_getR (k := 3) hO 11 hz_K_10 hz_sh_0 (hz_lt_0 hN) rfl (Nat.le_of_ble_eq_true rfl) tw_3_31 rfl dX10_gap_41 ?_
  refine hz_getR (k := 13) hO 24 hz_K_7 hz_sh_11 (hz_lt_11 hN) rfl (Nat.le_of_ble_eq_true rfl) tw_1_188 rfl dX10_gap_44 ?_
  refine hz_iconst (v := (0 : Int32)) hO dX10_gap_47 (by decide) ?_
  refine hz_iald hO hz_sh_24 (hz_lt_24 hN) (by decide) dX10_gap_48 ?_
  refine hz_aload_n hO dX10_gap_49 rfl 2 rfl ?_
  refine hz_getR (k := 3) hO 11 hz_K_10 hz_sh_0 (hz_lt_0 hN) rfl (Nat.le_of_ble_eq_true rfl) tw_3_31 rfl dX10_gap_50 ?_
  refine hz_getR (k := 13) hO 24 hz_K_7 hz_sh_11 (hz_lt_11 hN) rfl (Nat.le_of_ble_eq_true rfl) tw_1_188 rfl dX10_gap_53 ?_
  refine hz_iconst (v := (1 : Int32)) hO dX10_gap_56 (by decide) ?_
  refine hz_iald hO hz_sh_24 (hz_lt_24 hN) (by decide) dX10_gap_57 ?_
  refine hz_isub hO dX10_gap_58 ?_
  refine hz_iload_n hO dX10_gap_59 rfl 1 rfl ?_
  refine hz_isub hO dX10_gap_60 ?_
  obtain ⟨x14, h_x14, h⟩ := hz_lt_e h
  refine hz_name h_x14 ?_
  refine hz_istore_n (ls1 := [(3, .int x14), (2, .int x13), (1, .int r1), (0, .ref (hz_ad w 0))]) hO dX10_gap_61 rfl (Nat.le_of_ble_eq_true rfl) rfl ?_
  refine hz_aload_n hO dX10_gap_62 rfl 3 rfl ?_
  refine hz_getR (k := 3) hO 11 hz_K_10 hz_sh_0 (hz_lt_0 hN) rfl (Nat.le_of_ble_eq_true rfl) tw_3_31 rfl dX10_gap_63 ?_
  obtain ⟨r15, M16, hq17, h⟩ := hz_ct_e h
  refine hz_callVi (as := []) (rest := []) hO (c_X7_lockersInUse l w hN hq17) hz_cal_X7_lockersInUse hz_K_7 hz_sh_11 (hz_lt_11 hN) tw_3_80 (Nat.le_of_ble_eq_true rfl) rfl rfl (Nat.le_of_ble_eq_true rfl) dX10_gap_66 ?_
  refine hz_iload_n hO dX10_gap_69 rfl 2 rfl ?_
  refine hz_isub hO dX10_gap_70 ?_
  obtain ⟨x18, h_x18, h⟩ := hz_lt_e h
  refine hz_name h_x18 ?_
  refine hz_istore (ls1 := [(4, .int x18), (3, .int x14), (2, .int x13), (1, .int r1), (0, .ref (hz_ad w 0))]) hO dX10_gap_71 (Nat.le_of_ble_eq_true rfl) rfl ?_
  refine hz_iload_n hO dX10_gap_73 rfl 2 rfl ?_
  refine hz_mabs hO tw_5_44 (Nat.le_of_ble_eq_true rfl) (Nat.le_of_ble_eq_true rfl) dX10_gap_74 ?_
  refine hz_aload_n hO dX10_gap_77 rfl 4 rfl ?_
  refine hz_getR (k := 3) hO 11 hz_K_10 hz_sh_0 (hz_lt_0 hN) rfl (Nat.le_of_ble_eq_true rfl) tw_3_31 rfl dX10_gap_78 ?_
  obtain ⟨r19, M20, hq21, h⟩ := hz_ct_e h
  refine hz_callVi (as := []) (rest := [.int (if 0 ≤ x13 then x13 else 0 - x13)]) hO (c_X7_pegsUntold l w hN hq21) hz_cal_X7_pegsUntold hz_K_7 hz_sh_11 (hz_lt_11 hN) tw_5_47 (Nat.le_of_ble_eq_true rfl) rfl rfl (Nat.le_of_ble_eq_true rfl) dX10_gap_81 ?_
  refine hz_iadd hO dX10_gap_84 ?_
  refine hz_iload_n hO dX10_gap_85 rfl 1 rfl ?_
  refine hz_mabs hO tw_5_44 (Nat.le_of_ble_eq_true rfl) (Nat.le_of_ble_eq_true rfl) dX10_gap_86 ?_
  refine hz_iadd hO dX10_gap_89 ?_
  refine hz_iload hO dX10_gap_90 0 rfl ?_
  refine hz_mabs hO tw_5_44 (Nat.le_of_ble_eq_true rfl) (Nat.le_of_ble_eq_true rfl) dX10_gap_92 ?_
  refine hz_iadd hO dX10_gap_95 ?_
  exact hz_nameM (hz_some_e h).2.symm (hz_name (hz_some_e h).1.symm (hz_iret hO dX10_gap_96))
def f_X10_meanWet (M : hz_M) : hz_O :=
  if 0 < (M 1 6) then
    hz_ct (f_X7_allWet M) fun r2 M3 =>
    hz_gd (hz_n64 (FP.ddiv (FP.i2d r2) (FP.i2d (M3 1 6)))) <|
    hz_gd ((FP.ddiv (FP.i2d r2) (FP.i2d (M3 1 6))) == hz_dd (r2 * 32 + (M3 1 6))) <|
    some ((r2 * 32 + (M3 1 6)), M3)
  else
    hz_gd (FP.dconst0 == hz_dd 0) <|
    some (0, M)
set_option maxRecDepth 100000 in
set_option maxHeartbeats 4000000 in
theorem c_X10_meanWet (l : Launch) (w : hz_C) {N : Nat} (hN : 178 ≤ N) {M : hz_M} {rE : Int32} {ME : hz_M} (h : f_X10_meanWet M = some (rE, ME)) : hz_Ct l yX10_meanWet cX10_meanWet 1 (some .double) 1 w N [.ref (hz_ad w 0)] M (hz_Qd w N rE ME) := by
  refine hz_ofW (by decide) rfl (Nat.le_of_ble_eq_true rfl) tw_5_55 ?_
  intro p e s m args below meth c hO
  show hz_G p l e 1 hz_z0 s m args below meth c w N 1 _ M 0 [(0, .ref (hz_ad w 0))] []
  unfold f_X10_meanWet at h
  refine hz_aload_n hO dX10_meanWet_0 rfl 0 rfl ?_
  refine hz_getR (k := 0) hO 1 hz_K_10 hz_sh_0 (hz_lt_0 hN) rfl (Nat.le_of_ble_eq_true rfl) tw_3_28 rfl dX10_meanWet_1 ?_
  refine hz_getI (k := 6) hO hz_K_4 hz_sh_1 (hz_lt_1 hN) rfl (Nat.le_of_ble_eq_true rfl) tw_1_63 rfl dX10_meanWet_4 ?_
  refine hz_if_gt (tgt := 12) hO dX10_meanWet_7 (by decide) (fun hc1 => ?_) (fun hc1 => ?_)
  · rw [if_pos hc1] at h
    refine hz_aload_n hO dX10_meanWet_12 rfl 0 rfl ?_
    refine hz_getR (k := 3) hO 11 hz_K_10 hz_sh_0 (hz_lt_0 hN) rfl (Nat.le_of_ble_eq_true rfl) tw_3_31 rfl dX10_meanWet_13 ?_
    obtain ⟨r2, M3, hq4, h⟩ := hz_ct_e h
    refine hz_callVi (as := []) (rest := []) hO (c_X7_allWet l w hN hq4) hz_cal_X7_allWet hz_K_7 hz_sh_11 (hz_lt_11 hN) tw_5_56 (Nat.le_of_ble_eq_true rfl) rfl rfl (Nat.le_of_ble_eq_true rfl) dX10_meanWet_16 ?_
    refine hz_i2d hO dX10_meanWet_19 ?_
    refine hz_aload_n hO dX10_meanWet_20 rfl 0 rfl ?_
    refine hz_getR (k := 0) hO 1 hz_K_10 hz_sh_0 (hz_lt_0 hN) rfl (Nat.le_of_ble_eq_true rfl) tw_3_28 rfl dX10_meanWet_21 ?_
    refine hz_getI (k := 6) hO hz_K_4 hz_sh_1 (hz_lt_1 hN) rfl (Nat.le_of_ble_eq_true rfl) tw_1_63 rfl dX10_meanWet_24 ?_
    refine hz_i2d hO dX10_meanWet_27 ?_
    obtain ⟨hg5, h⟩ := hz_gd_e h
    refine hz_ddiv hO dX10_meanWet_28 hg5 ?_
    obtain ⟨hg6, h⟩ := hz_gd_e h
    exact hz_nameM (hz_some_e h).2.symm (hz_dret hO ((eq_of_beq hg6).trans (by rw [(hz_some_e h).1])) dX10_meanWet_29)
  · rw [if_neg hc1] at h
    refine hz_dconst0 hO dX10_meanWet_10 ?_
    obtain ⟨hg7, h⟩ := hz_gd_e h
    exact hz_nameM (hz_some_e h).2.symm (hz_dret hO ((eq_of_beq hg7).trans (by rw [(hz_some_e h).1])) dX10_meanWet_11)
def f_X10_silenceIn (M : hz_M) : hz_O :=
  hz_ct (f_X7_isSilence M) fun r1 M2 =>
  if r1 = 0 then
    if (M2 11 19) ≤ 0 then
      some ((-1 : Int32), M2)
    else
      hz_ct (f_X7_minutesToGong M2) fun r6 M7 =>
      some (r6, M7)
  else
    some ((0 : Int32), M2)
set_option maxRecDepth 100000 in
set_option maxHeartbeats 4000000 in
theorem c_X10_silenceIn (l : Launch) (w : hz_C) {N : Nat} (hN : 178 ≤ N) {M : hz_M} {rE : Int32} {ME : hz_M} (h : f_X10_silenceIn M = some (rE, ME)) : hz_Ct l yX10_silenceIn cX10_silenceIn 1 (some .int) 1 w N [.ref (hz_ad w 0)] M (hz_Qi w N rE ME) := by
  refine hz_ofW (by decide) rfl (Nat.le_of_ble_eq_true rfl) tw_5_125 ?_
  intro p e s m args below meth c hO
  show hz_G p l e 1 hz_z0 s m args below meth c w N 1 _ M 0 [(0, .ref (hz_ad w 0))] []
  unfold f_X10_silenceIn at h
  refine hz_aload_n hO dX10_silenceIn_0 rfl 0 rfl ?_
  refine hz_getR (k := 3) hO 11 hz_K_10 hz_sh_0 (hz_lt_0 hN) rfl (Nat.le_of_ble_eq_true rfl) tw_3_31 rfl dX10_silenceIn_1 ?_
  obtain ⟨r1, M2, hq3, h⟩ := hz_ct_e h
  refine hz_callVi (as := []) (rest := []) hO (c_X7_isSilence l w hN hq3) hz_cal_X7_isSilence hz_K_7 hz_sh_11 (hz_lt_11 hN) tw_3_84 (Nat.le_of_ble_eq_true rfl) rfl rfl (Nat.le_of_ble_eq_true rfl) dX10_silenceIn_4 ?_
  refine hz_if_eq (tgt := 12) hO dX10_silenceIn_7 (by decide) (fun hc4 => ?_) (fun hc4 => ?_)
  · rw [if_pos hc4] at h
    refine hz_aload_n hO dX10_silenceIn_12 rfl 0 rfl ?_
    refine hz_getR (k := 3) hO 11 hz_K_10 hz_sh_0 (hz_lt_0 hN) rfl (Nat.le_of_ble_eq_true rfl) tw_3_31 rfl dX10_silenceIn_13 ?_
    refine hz_getI (k := 19) hO hz_K_7 hz_sh_11 (hz_lt_11 hN) rfl (Nat.le_of_ble_eq_true rfl) tw_1_201 rfl dX10_silenceIn_16 ?_
    refine hz_if_le (tgt := 32) hO dX10_silenceIn_19 (by decide) (fun hc5 => ?_) (fun hc5 => ?_)
    · rw [if_pos hc5] at h
      refine hz_iconst (v := (-1 : Int32)) hO dX10_silenceIn_32 (by decide) ?_
      exact hz_nameM (hz_some_e h).2.symm (hz_name (hz_some_e h).1.symm (hz_iret hO dX10_silenceIn_33))
    · rw [if_neg hc5] at h
      refine hz_aload_n hO dX10_silenceIn_22 rfl 0 rfl ?_
      refine hz_getR (k := 3) hO 11 hz_K_10 hz_sh_0 (hz_lt_0 hN) rfl (Nat.le_of_ble_eq_true rfl) tw_3_31 rfl dX10_silenceIn_23 ?_
      obtain ⟨r6, M7, hq8, h⟩ := hz_ct_e h
      refine hz_callVi (as := []) (rest := []) hO (c_X7_minutesToGong l w hN hq8) hz_cal_X7_minutesToGong hz_K_7 hz_sh_11 (hz_lt_11 hN) tw_5_126 (Nat.le_of_ble_eq_true rfl) rfl rfl (Nat.le_of_ble_eq_true rfl) dX10_silenceIn_26 ?_
      refine hz_goto (tgt := 33) hO dX10_silenceIn_29 (by decide) ?_
      exact hz_nameM (hz_some_e h).2.symm (hz_name (hz_some_e h).1.symm (hz_iret hO dX10_silenceIn_33))
  · rw [if_neg hc4] at h
    refine hz_iconst (v := (0 : Int32)) hO dX10_silenceIn_10 (by decide) ?_
    exact hz_nameM (hz_some_e h).2.symm (hz_name (hz_some_e h).1.symm (hz_iret hO dX10_silenceIn_11))
def f_X10_need (a0 : Int32) (M : hz_M) : hz_O :=
  if a0 = 0 then
    none
  else
    some (0, M)
set_option maxRecDepth 100000 in
set_option maxHeartbeats 4000000 in
theorem c_X10_need (l : Launch) (w : hz_C) {N : Nat} (hN : 178 ≤ N) (a0 : Int32) {M : hz_M} {rE : Int32} {ME : hz_M} (h : f_X10_need a0 M = some (rE, ME)) : hz_Ct l yX10_need cX10_need 1 none 0 w N [.int a0] M (hz_Qv w N ME) := by
  refine hz_ofW (by decide) rfl (Nat.le_of_ble_eq_true rfl) tw_4_63 ?_
  intro p e s m args below meth c hO
  show hz_G p l e 0 hz_z0 s m args below meth c w N 1 _ M 0 [(0, .int a0)] []
  unfold f_X10_need at h
  refine hz_iload_n hO dX10_need_0 rfl 0 rfl ?_
  refine hz_if_ne (tgt := 15) hO dX10_need_1 (by decide) (fun hc1 => ?_) (fun hc1 => ?_)
  · rw [if_neg hc1] at h
    exact hz_nameM (hz_some_e h).2.symm (hz_vret hO dX10_need_15)
  · rw [if_pos hc1] at h
    cases h
def f_X10_isOpening (a0 : Int32) (M : hz_M) : hz_O :=
  if a0 < 0 then
    some ((0 : Int32), M)
  else
    if (9 : Int32) < a0 then
      some ((0 : Int32), M)
    else
      some ((1 : Int32), M)
set_option maxRecDepth 100000 in
set_option maxHeartbeats 4000000 in
theorem c_X10_isOpening (l : Launch) (w : hz_C) {N : Nat} (hN : 178 ≤ N) (a0 : Int32) {M : hz_M} {rE : Int32} {ME : hz_M} (h : f_X10_isOpening a0 M = some (rE, ME)) : hz_Ct l yX10_isOpening cX10_isOpening 1 (some .boolean) 0 w N [.int a0] M (hz_Qi w N rE ME) := by
  refine hz_ofW (by decide) rfl (Nat.le_of_ble_eq_true rfl) tw_5_136 ?_
  intro p e s m args below meth c hO
  show hz_G p l e 0 hz_z0 s m args below meth c w N 1 _ M 0 [(0, .int a0)] []
  unfold f_X10_isOpening at h
  refine hz_iload_n hO dX10_isOpening_0 rfl 0 rfl ?_
  refine hz_if_lt (tgt := 14) hO dX10_isOpening_1 (by decide) (fun hc1 => ?_) (fun hc1 => ?_)
  · rw [if_pos hc1] at h
    refine hz_iconst (v := (0 : Int32)) hO dX10_isOpening_14 (by decide) ?_
    exact hz_nameM (hz_some_e h).2.symm (hz_name (hz_some_e h).1.symm (hz_zret hO (by rw [← (hz_some_e h).1]; decide) dX10_isOpening_15))
  · rw [if_neg hc1] at h
    refine hz_iload_n hO dX10_isOpening_4 rfl 0 rfl ?_
    refine hz_bipush (v := (9 : Int32)) hO dX10_isOpening_5 (by decide) ?_
    refine hz_icmp_gt (tgt := 14) hO dX10_isOpening_7 (by decide) (fun hc2 => ?_) (fun hc2 => ?_)
    · rw [if_pos hc2] at h
      refine hz_iconst (v := (0 : Int32)) hO dX10_isOpening_14 (by decide) ?_
      exact hz_nameM (hz_some_e h).2.symm (hz_name (hz_some_e h).1.symm (hz_zret hO (by rw [← (hz_some_e h).1]; decide) dX10_isOpening_15))
    · rw [if_neg hc2] at h
      refine hz_iconst (v := (1 : Int32)) hO dX10_isOpening_10 (by decide) ?_
      refine hz_goto (tgt := 15) hO dX10_isOpening_11 (by decide) ?_
      exact hz_nameM (hz_some_e h).2.symm (hz_name (hz_some_e h).1.symm (hz_zret hO (by rw [← (hz_some_e h).1]; decide) dX10_isOpening_15))
def f_X10_isSetting (a0 : Int32) (a1 : Int32) (M : hz_M) : hz_O :=
  if a0 = 6 then
    if a1 < (1 : Int32) then
      some ((0 : Int32), M)
    else
      if (9 : Int32) < a1 then
        some ((0 : Int32), M)
      else
        some ((1 : Int32), M)
  else
  if a0 = 7 then
    if a1 < (2 : Int32) then
      some ((0 : Int32), M)
    else
      if (60 : Int32) < a1 then
        some ((0 : Int32), M)
      else
        some ((1 : Int32), M)
  else
  if a0 = 8 then
    if a1 < 0 then
      some ((0 : Int32), M)
    else
      if (30 : Int32) < a1 then
        some ((0 : Int32), M)
      else
        some ((1 : Int32), M)
  else
  some ((0 : Int32), M)
set_option maxRecDepth 100000 in
set_option maxHeartbeats 4000000 in
theorem c_X10_isSetting (l : Launch) (w : hz_C) {N : Nat} (hN : 178 ≤ N) (a0 : Int32) (a1 : Int32) {M : hz_M} {rE : Int32} {ME : hz_M} (h : f_X10_isSetting a0 a1 M = some (rE, ME)) : hz_Ct l yX10_isSetting cX10_isSetting 2 (some .boolean) 0 w N [.int a0, .int a1] M (hz_Qi w N rE ME) := by
  refine hz_ofW (by decide) rfl (Nat.le_of_ble_eq_true rfl) tw_6_93 ?_
  intro p e s m args below meth c hO
  show hz_G p l e 0 hz_z0 s m args below meth c w N 2 _ M 0 [(0, .int a0), (1, .int a1)] []
  unfold f_X10_isSetting at h
  refine hz_iload_n hO dX10_isSetting_0 rfl 0 rfl ?_
  by_cases hc1 : a0 = (6 : Int32)
  · rw [if_pos hc1] at h
    refine hz_tin (tgt := 28) hO hc1 dX10_isSetting_1 (by decide) (by decide) rfl (by decide) ?_
    refine hz_iload_n hO dX10_isSetting_28 rfl 1 rfl ?_
    refine hz_iconst (v := (1 : Int32)) hO dX10_isSetting_29 (by decide) ?_
    refine hz_icmp_lt (tgt := 43) hO dX10_isSetting_30 (by decide) (fun hc2 => ?_) (fun hc2 => ?_)
    · rw [if_pos hc2] at h
      refine hz_iconst (v := (0 : Int32)) hO dX10_isSetting_43 (by decide) ?_
      exact hz_nameM (hz_some_e h).2.symm (hz_name (hz_some_e h).1.symm (hz_zret hO (by rw [← (hz_some_e h).1]; decide) dX10_isSetting_44))
    · rw [if_neg hc2] at h
      refine hz_iload_n hO dX10_isSetting_33 rfl 1 rfl ?_
      refine hz_bipush (v := (9 : Int32)) hO dX10_isSetting_34 (by decide) ?_
      refine hz_icmp_gt (tgt := 43) hO dX10_isSetting_36 (by decide) (fun hc3 => ?_) (fun hc3 => ?_)
      · rw [if_pos hc3] at h
        refine hz_iconst (v := (0 : Int32)) hO dX10_isSetting_43 (by decide) ?_
        exact hz_nameM (hz_some_e h).2.symm (hz_name (hz_some_e h).1.symm (hz_zret hO (by rw [← (hz_some_e h).1]; decide) dX10_isSetting_44))
      · rw [if_neg hc3] at h
        refine hz_iconst (v := (1 : Int32)) hO dX10_isSetting_39 (by decide) ?_
        refine hz_goto (tgt := 44) hO dX10_isSetting_40 (by decide) ?_
        exact hz_nameM (hz_some_e h).2.symm (hz_name (hz_some_e h).1.symm (hz_zret hO (by rw [← (hz_some_e h).1]; decide) dX10_isSetting_44))
  · rw [if_neg hc1] at h
    by_cases hc4 : a0 = (7 : Int32)
    · rw [if_pos hc4] at h
      refine hz_tin (tgt := 45) hO hc4 dX10_isSetting_1 (by decide) (by decide) rfl (by decide) ?_
      refine hz_iload_n hO dX10_isSetting_45 rfl 1 rfl ?_
      refine hz_iconst (v := (2 : Int32)) hO dX10_isSetting_46 (by decide) ?_
      refine hz_icmp_lt (tgt := 60) hO dX10_isSetting_47 (by decide) (fun hc5 => ?_) (fun hc5 => ?_)
      · rw [if_pos hc5] at h
        refine hz_iconst (v := (0 : Int32)) hO dX10_isSetting_60 (by decide) ?_
        exact hz_nameM (hz_some_e h).2.symm (hz_name (hz_some_e h).1.symm (hz_zret hO (by rw [← (hz_some_e h).1]; decide) dX10_isSetting_61))
      · rw [if_neg hc5] at h
        refine hz_iload_n hO dX10_isSetting_50 rfl 1 rfl ?_
        refine hz_bipush (v := (60 : Int32)) hO dX10_isSetting_51 (by decide) ?_
        refine hz_icmp_gt (tgt := 60) hO dX10_isSetting_53 (by decide) (fun hc6 => ?_) (fun hc6 => ?_)
        · rw [if_pos hc6] at h
          refine hz_iconst (v := (0 : Int32)) hO dX10_isSetting_60 (by decide) ?_
          exact hz_nameM (hz_some_e h).2.symm (hz_name (hz_some_e h).1.symm (hz_zret hO (by rw [← (hz_some_e h).1]; decide) dX10_isSetting_61))
        · rw [if_neg hc6] at h
          refine hz_iconst (v := (1 : Int32)) hO dX10_isSetting_56 (by decide) ?_
          refine hz_goto (tgt := 61) hO dX10_isSetting_57 (by decide) ?_
          exact hz_nameM (hz_some_e h).2.symm (hz_name (hz_some_e h).1.symm (hz_zret hO (by rw [← (hz_some_e h).1]; decide) dX10_isSetting_61))
    · rw [if_neg hc4] at h
      by_cases hc7 : a0 = (8 : Int32)
      · rw [if_pos hc7] at h
        refine hz_tin (tgt := 62) hO hc7 dX10_isSetting_1 (by decide) (by decide) rfl (by decide) ?_
        refine hz_iload_n hO dX10_isSetting_62 rfl 1 rfl ?_
        refine hz_if_lt (tgt := 76) hO dX10_isSetting_63 (by decide) (fun hc8 => ?_) (fun hc8 => ?_)
        · rw [if_pos hc8] at h
          refine hz_iconst (v := (0 : Int32)) hO dX10_isSetting_76 (by decide) ?_
          exact hz_nameM (hz_some_e h).2.symm (hz_name (hz_some_e h).1.symm (hz_zret hO (by rw [← (hz_some_e h).1]; decide) dX10_isSetting_77))
        · rw [if_neg hc8] at h
          refine hz_iload_n hO dX10_isSetting_66 rfl 1 rfl ?_
          refine hz_bipush (v := (30 : Int32)) hO dX10_isSetting_67 (by decide) ?_
          refine hz_icmp_gt (tgt := 76) hO dX10_isSetting_69 (by decide) (fun hc9 => ?_) (fun hc9 => ?_)
          · rw [if_pos hc9] at h
            refine hz_iconst (v := (0 : Int32)) hO dX10_isSetting_76 (by decide) ?_
            exact hz_nameM (hz_some_e h).2.symm (hz_name (hz_some_e h).1.symm (hz_zret hO (by rw [← (hz_some_e h).1]; decide) dX10_isSetting_77))
          · rw [if_neg hc9] at h
            refine hz_iconst (v := (1 : Int32)) hO dX10_isSetting_72 (by decide) ?_
            refine hz_goto (tgt := 77) hO dX10_isSetting_73 (by decide) ?_
            exact hz_nameM (hz_some_e h).2.symm (hz_name (hz_some_e h).1.symm (hz_zret hO (by rw [← (hz_some_e h).1]; decide) dX10_isSetting_77))
      · rw [if_neg hc7] at h
        have hn6 : ¬ a0.toInt = 6 := lv_neT hc1 rfl
        have hn7 : ¬ a0.toInt = 7 := lv_neT hc4 rfl
        have hn8 : ¬ a0.toInt = 8 := lv_neT hc7 rfl
        refine hz_tout (tgt := 78) hO dX10_isSetting_1 (by omega) (by decide) ?_
        refine hz_iconst (v := (0 : Int32)) hO dX10_isSetting_78 (by decide) ?_
        exact hz_nameM (hz_some_e h).2.symm (hz_name (hz_some_e h).1.symm (hz_zret hO (by rw [← (hz_some_e h).1]; decide) dX10_isSetting_79))
def f_X10_endReading (M : hz_M) : hz_O :=
  hz_jn (fun (q1 : Int32) (M2 : hz_M) =>
    hz_lm (hz_set M2 0 9 q1) fun M3 =>
    hz_ct (f_X8_clear M3) fun r4 M5 =>
    some (0, M5)
    ) fun k7 =>
  if (M 9 6) = 0 then
    k7 (-1 : Int32) M
  else
    k7 (M 9 7) M
set_option maxRecDepth 100000 in
set_option maxHeartbeats 4000000 in
theorem c_X10_endReading (l : Launch) (w : hz_C) {N : Nat} (hN : 178 ≤ N) {M : hz_M} {rE : Int32} {ME : hz_M} (h : f_X10_endReading M = some (rE, ME)) : hz_Ct l yX10_endReading cX10_endReading 1 none 1 w N [.ref (hz_ad w 0)] M (hz_Qv w N ME) := by
  refine hz_ofW (by decide) rfl (Nat.le_of_ble_eq_true rfl) tw_7_129 ?_
  intro p e s m args below meth c hO
  show hz_G p l e 1 hz_z0 s m args below meth c w N 1 _ M 0 [(0, .ref (hz_ad w 0))] []
  unfold f_X10_endReading at h
  refine hz_aload_n hO dX10_endReading_0 rfl 0 rfl ?_
  refine hz_aload_n hO dX10_endReading_1 rfl 0 rfl ?_
  refine hz_getR (k := 2) hO 9 hz_K_10 hz_sh_0 (hz_lt_0 hN) rfl (Nat.le_of_ble_eq_true rfl) tw_3_30 rfl dX10_endReading_2 ?_
  refine hz_getI (k := 6) hO hz_K_8 hz_sh_9 (hz_lt_9 hN) rfl (Nat.le_of_ble_eq_true rfl) tw_1_118 rfl dX10_endReading_5 ?_
  obtain ⟨k7, hk7, h⟩ := hz_jn_e h
  have gk7 : ∀ (q1 : Int32) (M2 : hz_M), k7 q1 M2 = some (rE, ME) → hz_G p l e 1 hz_z0 s m args below meth c w N 1 (MQ below (hz_Qv w N ME) args s 0 0 (hz_A w)) M2 22 [(0, .ref (hz_ad w 0))] [.int q1, .ref (hz_ad w 0)] := by
    intro q1 M2 h
    rw [hk7] at h
    dsimp only at h
    obtain ⟨M3, h_M3, h⟩ := hz_lm_e h
    refine hz_putI (k := 9) (ty := .int) hO hz_K_10 tyX10_ok nmX10 hz_sh_0 (hz_lt_0 hN) rfl (Nat.le_of_ble_eq_true rfl) tw_3_37 rfl rfl rfl rfl rfl dX10_endReading_22 ?_
    refine hz_nameM h_M3 ?_
    refine hz_aload_n hO dX10_endReading_25 rfl 0 rfl ?_
    refine hz_getR (k := 2) hO 9 hz_K_10 hz_sh_0 (hz_lt_0 hN) rfl (Nat.le_of_ble_eq_true rfl) tw_3_30 rfl dX10_endReading_26 ?_
    obtain ⟨r4, M5, hq6, h⟩ := hz_ct_e h
    refine hz_callVv (as := []) (rest := []) hO (c_X8_clear l w hN hq6) hz_cal_X8_clear hz_K_8 hz_sh_9 (hz_lt_9 hN) tw_3_13 (Nat.le_of_ble_eq_true rfl) rfl rfl (Nat.le_of_ble_eq_true rfl) dX10_endReading_29 ?_
    exact hz_nameM (hz_some_e h).2.symm (hz_vret hO dX10_endReading_32)
  clear hk7
  refine hz_if_ne (tgt := 15) hO dX10_endReading_8 (by decide) (fun hc8 => ?_) (fun hc8 => ?_)
  · rw [if_neg hc8] at h
    refine hz_aload_n hO dX10_endReading_15 rfl 0 rfl ?_
    refine hz_getR (k := 2) hO 9 hz_K_10 hz_sh_0 (hz_lt_0 hN) rfl (Nat.le_of_ble_eq_true rfl) tw_3_30 rfl dX10_endReading_16 ?_
    refine hz_getI (k := 7) hO hz_K_8 hz_sh_9 (hz_lt_9 hN) rfl (Nat.le_of_ble_eq_true rfl) tw_1_122 rfl dX10_endReading_19 ?_
    exact hz_ls [0] rfl (gk7 (M 9 7) M h)
  · rw [if_pos hc8] at h
    refine hz_iconst (v := (-1 : Int32)) hO dX10_endReading_11 (by decide) ?_
    refine hz_goto (tgt := 22) hO dX10_endReading_12 (by decide) ?_
    exact hz_ls [0] rfl (gk7 (-1 : Int32) M h)
def f_X10_bitsOf_L15 (kk40 : Int32 → UInt32 → hz_M → hz_O) : Nat → Int32 → UInt32 → Int32 → hz_M → hz_O
  | 0, _, _, _, _ => none
  | n + 1, v1_8, v2_9, v3_10, M11 =>
    if (126 : Int32) ≤ v3_10 then
      kk40 v1_8 v2_9 M11
    else
      if 0 ≤ (Op.cmpValue (FP.fcmp v2_9 FP.fconst1) .g) then
        kk40 v1_8 v2_9 M11
      else
        hz_gd (hz_n32 (FP.fmul v2_9 FP.fconst2)) <|
        hz_ltF ((FP.fmul v2_9 FP.fconst2)) fun x15 =>
        hz_lt (v1_8 + (-1 : Int32)) fun x16 =>
        hz_lt (v3_10 + (1 : Int32)) fun x17 =>
        f_X10_bitsOf_L15 kk40 n x16 x15 x17 M11
def f_X10_bitsOf (a0 : UInt32) (M : hz_M) : hz_O :=
  if 0 < (Op.cmpValue (FP.fcmp a0 FP.fconst0) .l) then
    hz_jn (fun (v1_2 : Int32) (v2_3 : UInt32) (M4 : hz_M) =>
      hz_gd (hz_n32 (FP.fsub v2_3 FP.fconst1)) <|
      hz_gd (hz_n32 (FP.fmul (FP.fsub v2_3 FP.fconst1) (1258291200 : UInt32))) <|
      some (((v1_2 <<< ((23 : Int32) &&& 31)) ||| (FP.f2i (FP.fmul (FP.fsub v2_3 FP.fconst1) (1258291200 : UInt32)))), M4)
      ) fun k7 =>
    f_X10_bitsOf_L15 k7 hz_FU (127 : Int32) a0 (0 : Int32) M
  else
    some ((0 : Int32), M)
set_option maxRecDepth 100000 in
set_option maxHeartbeats 4000000 in
theorem g_X10_bitsOf_L15 {p : Program} {l : Launch} {e : Env} {s : State} {m : MethodId} {args : Array Value} {below : List Frame} {meth : Method} {c : Code} {w : hz_C} {N : Nat} (hN : 178 ≤ N) {rE : Int32} {ME : hz_M} (hO : hz_Ok p s m args meth c w cX10_bitsOf 4 RX10 (some .int)) (kk40 : Int32 → UInt32 → hz_M → hz_O) (gkk40 : ∀ (v1_2 : Int32) (v2_3 : UInt32) (M : hz_M), kk40 v1_2 v2_3 M = some (rE, ME) → hz_G p l e 0 hz_z0 s m args below meth c w N 4 (MQ below (hz_Qi w N rE ME) args s 0 0 (hz_A w)) M 40 [(1, .int v1_2), (2, .float v2_3)] []) : ∀ (n : Nat) (v1_8 : Int32) (v2_9 : UInt32) (v3_10 : Int32) (M11 : hz_M), f_X10_bitsOf_L15 kk40 n v1_8 v2_9 v3_10 M11 = some (rE, ME) → hz_G p l e 0 hz_z0 s m args below meth c w N 4 (MQ below (hz_Qi w N rE ME) args s 0 0 (hz_A w)) M11 15 [(1, .int v1_8), (2, .float v2_9), (3, .int v3_10)] [] := by
  intro n
  induction n with
  | zero =>
    intro v1_8 v2_9 v3_10 M11 h
    rw [f_X10_bitsOf_L15] at h
    cases h
  | succ n ih =>
    intro v1_8 v2_9 v3_10 M11 h
    rw [f_X10_bitsOf_L15] at h
    refine hz_iload_n hO dX10_bitsOf_15 rfl 2 rfl ?_
    refine hz_bipush (v := (126 : Int32)) hO dX10_bitsOf_16 (by decide) ?_
    refine hz_icmp_ge (tgt := 40) hO dX10_bitsOf_18 (by decide) (fun hc12 => ?_) (fun hc12 => ?_)
    · rw [if_pos hc12] at h
      exact hz_ls [0, 1] rfl (gkk40 v1_8 v2_9 M11 h)
    · rw [if_neg hc12] at h
      refine hz_fload_n hO dX10_bitsOf_21 rfl 1 rfl ?_
      refine hz_fconst1 hO dX10_bitsOf_22 ?_
      refine hz_fcmp hO dX10_bitsOf_23 ?_
      refine hz_if_ge (tgt := 40) hO dX10_bitsOf_24 (by decide) (fun hc13 => ?_) (fun hc13 => ?_)
      · rw [if_pos hc13] at h
        exact hz_ls [0, 1] rfl (gkk40 v1_8 v2_9 M11 h)
      · rw [if_neg hc13] at h
        refine hz_fload_n hO dX10_bitsOf_27 rfl 1 rfl ?_
        refine hz_fconst2 hO dX10_bitsOf_28 ?_
        obtain ⟨hg14, h⟩ := hz_gd_e h
        refine hz_fmul hO dX10_bitsOf_29 hg14 ?_
        obtain ⟨x15, h_x15, h⟩ := hz_ltF_e h
        refine hz_nameF h_x15 ?_
        refine hz_fstore_n (ls1 := [(2, .float x15), (1, .int v1_8), (3, .int v3_10)]) hO dX10_bitsOf_30 rfl (Nat.le_of_ble_eq_true rfl) rfl ?_
        obtain ⟨x16, h_x16, h⟩ := hz_lt_e h
        refine hz_iinc (k := 1) (v := x16) (ls1 := [(1, .int x16), (2, .float x15), (3, .int v3_10)]) hO dX10_bitsOf_31 rfl (by rw [h_x16]; rfl) (Nat.le_of_ble_eq_true rfl) rfl ?_
        obtain ⟨x17, h_x17, h⟩ := hz_lt_e h
        refine hz_iinc (k := 2) (v := x17) (ls1 := [(3, .int x17), (1, .int x16), (2, .float x15)]) hO dX10_bitsOf_34 rfl (by rw [h_x17]; rfl) (Nat.le_of_ble_eq_true rfl) rfl ?_
        refine hz_goto (tgt := 15) hO dX10_bitsOf_37 (by decide) ?_
        exact hz_ls [1, 2, 0] rfl (ih x16 x15 x17 M11 h)
set_option maxRecDepth 100000 in
set_option maxHeartbeats 4000000 in
theorem c_X10_bitsOf (l : Launch) (w : hz_C) {N : Nat} (hN : 178 ≤ N) (a0 : UInt32) {M : hz_M} {rE : Int32} {ME : hz_M} (h : f_X10_bitsOf a0 M = some (rE, ME)) : hz_Ct l yX10_bitsOf cX10_bitsOf 4 (some .int) 0 w N [.float a0] M (hz_Qi w N rE ME) := by
  refine hz_ofW (by decide) rfl (Nat.le_of_ble_eq_true rfl) tw_5_67 ?_
  intro p e s m args below meth c hO
  show hz_G p l e 0 hz_z0 s m args below meth c w N 4 _ M 0 [(0, .float a0)] []
  unfold f_X10_bitsOf at h
  refine hz_fload_n hO dX10_bitsOf_0 rfl 0 rfl ?_
  refine hz_fconst0 hO dX10_bitsOf_1 ?_
  refine hz_fcmp hO dX10_bitsOf_2 ?_
  refine hz_if_gt (tgt := 8) hO dX10_bitsOf_3 (by decide) (fun hc1 => ?_) (fun hc1 => ?_)
  · rw [if_pos hc1] at h
    refine hz_bipush (v := (127 : Int32)) hO dX10_bitsOf_8 (by decide) ?_
    refine hz_istore_n (ls1 := [(1, .int (127 : Int32)), (0, .float a0)]) hO dX10_bitsOf_10 rfl (Nat.le_of_ble_eq_true rfl) rfl ?_
    refine hz_fload_n hO dX10_bitsOf_11 rfl 1 rfl ?_
    refine hz_fstore_n (ls1 := [(2, .float a0), (1, .int (127 : Int32)), (0, .float a0)]) hO dX10_bitsOf_12 rfl (Nat.le_of_ble_eq_true rfl) rfl ?_
    refine hz_iconst (v := (0 : Int32)) hO dX10_bitsOf_13 (by decide) ?_
    refine hz_istore_n (ls1 := [(3, .int (0 : Int32)), (2, .float a0), (1, .int (127 : Int32)), (0, .float a0)]) hO dX10_bitsOf_14 rfl (Nat.le_of_ble_eq_true rfl) rfl ?_
    obtain ⟨k7, hk7, h⟩ := hz_jn_e h
    have gk7 : ∀ (v1_2 : Int32) (v2_3 : UInt32) (M4 : hz_M), k7 v1_2 v2_3 M4 = some (rE, ME) → hz_G p l e 0 hz_z0 s m args below meth c w N 4 (MQ below (hz_Qi w N rE ME) args s 0 0 (hz_A w)) M4 40 [(1, .int v1_2), (2, .float v2_3)] [] := by
      intro v1_2 v2_3 M4 h
      rw [hk7] at h
      dsimp only at h
      refine hz_iload_n hO dX10_bitsOf_40 rfl 0 rfl ?_
      refine hz_bipush (v := (23 : Int32)) hO dX10_bitsOf_41 (by decide) ?_
      refine hz_ishl hO dX10_bitsOf_43 ?_
      refine hz_fload_n hO dX10_bitsOf_44 rfl 1 rfl ?_
      refine hz_fconst1 hO dX10_bitsOf_45 ?_
      obtain ⟨hg5, h⟩ := hz_gd_e h
      refine hz_fsub hO dX10_bitsOf_46 hg5 ?_
      refine hz_ldcwF hO tw_5_68 dX10_bitsOf_47 ?_
      obtain ⟨hg6, h⟩ := hz_gd_e h
      refine hz_fmul hO dX10_bitsOf_50 hg6 ?_
      refine hz_f2i hO dX10_bitsOf_51 ?_
      refine hz_ior hO dX10_bitsOf_52 ?_
      exact hz_nameM (hz_some_e h).2.symm (hz_name (hz_some_e h).1.symm (hz_iret hO dX10_bitsOf_53))
    clear hk7
    exact hz_ls [2, 1, 0] rfl (g_X10_bitsOf_L15 hN hO _ gk7 _ (127 : Int32) a0 (0 : Int32) M h)
  · rw [if_neg hc1] at h
    refine hz_iconst (v := (0 : Int32)) hO dX10_bitsOf_6 (by decide) ?_
    exact hz_nameM (hz_some_e h).2.symm (hz_name (hz_some_e h).1.symm (hz_iret hO dX10_bitsOf_7))
def f_X1_letIn (a1 : Int32) (M : hz_M) : hz_O :=
  hz_ct (f_X7_freeLocker M) fun r1 M2 =>
  hz_ct (f_X7_driestOnPegs M2) fun r4 M5 =>
  hz_ct (f_X3_isLocker r1 M5) fun r7 M8 =>
  if r7 = 0 then
    some ((-1 : Int32), M8)
  else
    hz_ct (f_X3_isTowel r4 M8) fun r11 M12 =>
    if r11 = 0 then
      some ((-1 : Int32), M12)
    else
      hz_gd (hz_in r1 12) <|
      hz_lm (hz_set M12 19 (Int32.toNatClampNeg r1) a1) fun M16 =>
      hz_gd (hz_in a1 16) <|
      hz_lm (hz_set M16 14 (Int32.toNatClampNeg a1) r1) fun M18 =>
      hz_ct (f_X7_giveToGuest r4 a1 M18) fun r19 M20 =>
      hz_gd (hz_in a1 16) <|
      hz_lm (hz_set M20 13 (Int32.toNatClampNeg a1) (0 : Int32)) fun M23 =>
      hz_gd (hz_in a1 16) <|
      hz_lm (hz_set M23 16 (Int32.toNatClampNeg a1) (0 : Int32)) fun M25 =>
      hz_lm (hz_set M25 24 (Int32.toNatClampNeg (0 : Int32)) ((M25 24 (Int32.toNatClampNeg (0 : Int32))) + (1 : Int32))) fun M26 =>
      some (r1, M26)
set_option maxRecDepth 100000 in
set_option maxHeartbeats 4000000 in
theorem c_X1_letIn (l : Launch) (w : hz_C) {N : Nat} (hN : 178 ≤ N) (a1 : Int32) {M : hz_M} {rE : Int32} {ME : hz_M} (h : f_X1_letIn a1 M = some (rE, ME)) : hz_Ct l yX1_letIn cX1_letIn 4 (some .int) 2 w N [.ref (hz_ad w 26), .int a1] M (hz_Qi w N rE ME) := by
  refine hz_ofW (by decide) rfl (Nat.le_of_ble_eq_true rfl) tw_5_182 ?_
  intro p e s m args below meth c hO
  show hz_G p l e 2 hz_z0 s m args below meth c w N 4 _ M 0 [(0, .ref (hz_ad w 26)), (1, .int a1)] []
  unfold f_X1_letIn at h
  refine hz_aload_n hO dX1_letIn_0 rfl 0 rfl ?_
  refine hz_getR (k := 1) hO 11 hz_K_2 hz_sh_26 (hz_lt_26 hN) rfl (Nat.le_of_ble_eq_true rfl) tw_2_23 rfl dX1_letIn_1 ?_
  obtain ⟨r1, M2, hq3, h⟩ := hz_ct_e h
  refine hz_callVi (as := []) (rest := []) hO (c_X7_freeLocker l w hN hq3) hz_cal_X7_freeLocker hz_K_7 hz_sh_11 (hz_lt_11 hN) tw_5_183 (Nat.le_of_ble_eq_true rfl) rfl rfl (Nat.le_of_ble_eq_true rfl) dX1_letIn_4 ?_
  refine hz_istore_n (ls1 := [(2, .int r1), (0, .ref (hz_ad w 26)), (1, .int a1)]) hO dX1_letIn_7 rfl (Nat.le_of_ble_eq_true rfl) rfl ?_
  refine hz_aload_n hO dX1_letIn_8 rfl 1 rfl ?_
  refine hz_getR (k := 1) hO 11 hz_K_2 hz_sh_26 (hz_lt_26 hN) rfl (Nat.le_of_ble_eq_true rfl) tw_2_23 rfl dX1_letIn_9 ?_
  obtain ⟨r4, M5, hq6, h⟩ := hz_ct_e h
  refine hz_callVi (as := []) (rest := []) hO (c_X7_driestOnPegs l w hN hq6) hz_cal_X7_driestOnPegs hz_K_7 hz_sh_11 (hz_lt_11 hN) tw_5_184 (Nat.le_of_ble_eq_true rfl) rfl rfl (Nat.le_of_ble_eq_true rfl) dX1_letIn_12 ?_
  refine hz_istore_n (ls1 := [(3, .int r4), (2, .int r1), (0, .ref (hz_ad w 26)), (1, .int a1)]) hO dX1_letIn_15 rfl (Nat.le_of_ble_eq_true rfl) rfl ?_
  refine hz_aload_n hO dX1_letIn_16 rfl 2 rfl ?_
  refine hz_getR (k := 0) hO 1 hz_K_2 hz_sh_26 (hz_lt_26 hN) rfl (Nat.le_of_ble_eq_true rfl) tw_2_22 rfl dX1_letIn_17 ?_
  refine hz_iload_n hO dX1_letIn_20 rfl 1 rfl ?_
  obtain ⟨r7, M8, hq9, h⟩ := hz_ct_e h
  refine hz_callVi (as := [.int r1]) (rest := []) hO (c_X3_isLocker l w hN r1 hq9) hz_cal_X3_isLocker hz_K_4 hz_sh_1 (hz_lt_1 hN) tw_5_185 (Nat.le_of_ble_eq_true rfl) rfl rfl (Nat.le_of_ble_eq_true rfl) dX1_letIn_21 ?_
  refine hz_if_eq (tgt := 38) hO dX1_letIn_24 (by decide) (fun hc10 => ?_) (fun hc10 => ?_)
  · rw [if_pos hc10] at h
    refine hz_iconst (v := (-1 : Int32)) hO dX1_letIn_38 (by decide) ?_
    exact hz_nameM (hz_some_e h).2.symm (hz_name (hz_some_e h).1.symm (hz_iret hO dX1_letIn_39))
  · rw [if_neg hc10] at h
    refine hz_aload_n hO dX1_letIn_27 rfl 2 rfl ?_
    refine hz_getR (k := 0) hO 1 hz_K_2 hz_sh_26 (hz_lt_26 hN) rfl (Nat.le_of_ble_eq_true rfl) tw_2_22 rfl dX1_letIn_28 ?_
    refine hz_iload_n hO dX1_letIn_31 rfl 0 rfl ?_
    obtain ⟨r11, M12, hq13, h⟩ := hz_ct_e h
    refine hz_callVi (as := [.int r4]) (rest := []) hO (c_X3_isTowel l w hN r4 hq13) hz_cal_X3_isTowel hz_K_4 hz_sh_1 (hz_lt_1 hN) tw_5_186 (Nat.le_of_ble_eq_true rfl) rfl rfl (Nat.le_of_ble_eq_true rfl) dX1_letIn_32 ?_
    refine hz_if_ne (tgt := 40) hO dX1_letIn_35 (by decide) (fun hc14 => ?_) (fun hc14 => ?_)
    · rw [if_neg hc14] at h
      refine hz_aload_n hO dX1_letIn_40 rfl 2 rfl ?_
      refine hz_getR (k := 1) hO 11 hz_K_2 hz_sh_26 (hz_lt_26 hN) rfl (Nat.le_of_ble_eq_true rfl) tw_2_23 rfl dX1_letIn_41 ?_
      refine hz_getR (k := 8) hO 19 hz_K_7 hz_sh_11 (hz_lt_11 hN) rfl (Nat.le_of_ble_eq_true rfl) tw_1_172 rfl dX1_letIn_44 ?_
      refine hz_iload_n hO dX1_letIn_47 rfl 1 rfl ?_
      refine hz_iload_n hO dX1_letIn_48 rfl 3 rfl ?_
      obtain ⟨hg15, h⟩ := hz_gd_e h
      obtain ⟨M16, h_M16, h⟩ := hz_lm_e h
      refine hz_iast hO hz_sh_19 (hz_lt_19 hN) hg15 dX1_letIn_49 ?_
      refine hz_nameM h_M16 ?_
      refine hz_aload_n hO dX1_letIn_50 rfl 2 rfl ?_
      refine hz_getR (k := 1) hO 11 hz_K_2 hz_sh_26 (hz_lt_26 hN) rfl (Nat.le_of_ble_eq_true rfl) tw_2_23 rfl dX1_letIn_51 ?_
      refine hz_getR (k := 3) hO 14 hz_K_7 hz_sh_11 (hz_lt_11 hN) rfl (Nat.le_of_ble_eq_true rfl) tw_1_155 rfl dX1_letIn_54 ?_
      refine hz_iload_n hO dX1_letIn_57 rfl 3 rfl ?_
      refine hz_iload_n hO dX1_letIn_58 rfl 1 rfl ?_
      obtain ⟨hg17, h⟩ := hz_gd_e h
      obtain ⟨M18, h_M18, h⟩ := hz_lm_e h
      refine hz_iast hO hz_sh_14 (hz_lt_14 hN) hg17 dX1_letIn_59 ?_
      refine hz_nameM h_M18 ?_
      refine hz_aload_n hO dX1_letIn_60 rfl 2 rfl ?_
      refine hz_getR (k := 1) hO 11 hz_K_2 hz_sh_26 (hz_lt_26 hN) rfl (Nat.le_of_ble_eq_true rfl) tw_2_23 rfl dX1_letIn_61 ?_
      refine hz_iload_n hO dX1_letIn_64 rfl 0 rfl ?_
      refine hz_iload_n hO dX1_letIn_65 rfl 3 rfl ?_
      obtain ⟨r19, M20, hq21, h⟩ := hz_ct_e h
      refine hz_callVv (as := [.int r4, .int a1]) (rest := []) hO (c_X7_giveToGuest l w hN r4 a1 hq21) hz_cal_X7_giveToGuest hz_K_7 hz_sh_11 (hz_lt_11 hN) tw_5_187 (Nat.le_of_ble_eq_true rfl) rfl rfl (Nat.le_of_ble_eq_true rfl) dX1_letIn_66 ?_
      refine hz_aload_n hO dX1_letIn_69 rfl 2 rfl ?_
      refine hz_getR (k := 1) hO 11 hz_K_2 hz_sh_26 (hz_lt_26 hN) rfl (Nat.le_of_ble_eq_true rfl) tw_2_23 rfl dX1_letIn_70 ?_
      refine hz_getR (k := 2) hO 13 hz_K_7 hz_sh_11 (hz_lt_11 hN) rfl (Nat.le_of_ble_eq_true rfl) tw_1_152 rfl dX1_letIn_73 ?_
      refine hz_iload_n hO dX1_letIn_76 rfl 3 rfl ?_
      refine hz_iconst (v := (0 : Int32)) hO dX1_letIn_77 (by decide) ?_
      obtain ⟨hg22, h⟩ := hz_gd_e h
      obtain ⟨M23, h_M23, h⟩ := hz_lm_e h
      refine hz_iast hO hz_sh_13 (hz_lt_13 hN) hg22 dX1_letIn_78 ?_
      refine hz_nameM h_M23 ?_
      refine hz_aload_n hO dX1_letIn_79 rfl 2 rfl ?_
      refine hz_getR (k := 1) hO 11 hz_K_2 hz_sh_26 (hz_lt_26 hN) rfl (Nat.le_of_ble_eq_true rfl) tw_2_23 rfl dX1_letIn_80 ?_
      refine hz_getR (k := 5) hO 16 hz_K_7 hz_sh_11 (hz_lt_11 hN) rfl (Nat.le_of_ble_eq_true rfl) tw_1_162 rfl dX1_letIn_83 ?_
      refine hz_iload_n hO dX1_letIn_86 rfl 3 rfl ?_
      refine hz_iconst (v := (0 : Int32)) hO dX1_letIn_87 (by decide) ?_
      obtain ⟨hg24, h⟩ := hz_gd_e h
      obtain ⟨M25, h_M25, h⟩ := hz_lm_e h
      refine hz_iast hO hz_sh_16 (hz_lt_16 hN) hg24 dX1_letIn_88 ?_
      refine hz_nameM h_M25 ?_
      refine hz_aload_n hO dX1_letIn_89 rfl 2 rfl ?_
      refine hz_getR (k := 1) hO 11 hz_K_2 hz_sh_26 (hz_lt_26 hN) rfl (Nat.le_of_ble_eq_true rfl) tw_2_23 rfl dX1_letIn_90 ?_
      refine hz_getR (k := 13) hO 24 hz_K_7 hz_sh_11 (hz_lt_11 hN) rfl (Nat.le_of_ble_eq_true rfl) tw_1_187 rfl dX1_letIn_93 ?_
      refine hz_iconst (v := (0 : Int32)) hO dX1_letIn_96 (by decide) ?_
      refine hz_dup2 hO dX1_letIn_97 rfl rfl ?_
      refine hz_iald hO hz_sh_24 (hz_lt_24 hN) (by decide) dX1_letIn_98 ?_
      refine hz_iconst (v := (1 : Int32)) hO dX1_letIn_99 (by decide) ?_
      refine hz_iadd hO dX1_letIn_100 ?_
      obtain ⟨M26, h_M26, h⟩ := hz_lm_e h
      refine hz_iast hO hz_sh_24 (hz_lt_24 hN) (by decide) dX1_letIn_101 ?_
      refine hz_nameM h_M26 ?_
      refine hz_iload_n hO dX1_letIn_102 rfl 1 rfl ?_
      exact hz_nameM (hz_some_e h).2.symm (hz_name (hz_some_e h).1.symm (hz_iret hO dX1_letIn_103))
    · rw [if_pos hc14] at h
      refine hz_iconst (v := (-1 : Int32)) hO dX1_letIn_38 (by decide) ?_
      exact hz_nameM (hz_some_e h).2.symm (hz_name (hz_some_e h).1.symm (hz_iret hO dX1_letIn_39))
def f_X1_seat (a1 : Int32) (a2 : Int32) (M : hz_M) : hz_O :=
  hz_gd (hz_in a1 16) <|
  hz_lm (hz_set M 13 (Int32.toNatClampNeg a1) a2) fun M2 =>
  hz_ct (f_X7_temperature a2 M2) fun r3 M4 =>
  some (r3, M4)
set_option maxRecDepth 100000 in
set_option maxHeartbeats 4000000 in
theorem c_X1_seat (l : Launch) (w : hz_C) {N : Nat} (hN : 178 ≤ N) (a1 : Int32) (a2 : Int32) {M : hz_M} {rE : Int32} {ME : hz_M} (h : f_X1_seat a1 a2 M = some (rE, ME)) : hz_Ct l yX1_seat cX1_seat 3 (some .int) 1 w N [.ref (hz_ad w 26), .int a1, .int a2] M (hz_Qi w N rE ME) := by
  refine hz_ofW (by decide) rfl (Nat.le_of_ble_eq_true rfl) tw_5_195 ?_
  intro p e s m args below meth c hO
  show hz_G p l e 1 hz_z0 s m args below meth c w N 3 _ M 0 [(0, .ref (hz_ad w 26)), (1, .int a1), (2, .int a2)] []
  unfold f_X1_seat at h
  refine hz_aload_n hO dX1_seat_0 rfl 0 rfl ?_
  refine hz_getR (k := 1) hO 11 hz_K_2 hz_sh_26 (hz_lt_26 hN) rfl (Nat.le_of_ble_eq_true rfl) tw_2_23 rfl dX1_seat_1 ?_
  refine hz_getR (k := 2) hO 13 hz_K_7 hz_sh_11 (hz_lt_11 hN) rfl (Nat.le_of_ble_eq_true rfl) tw_1_152 rfl dX1_seat_4 ?_
  refine hz_iload_n hO dX1_seat_7 rfl 1 rfl ?_
  refine hz_iload_n hO dX1_seat_8 rfl 2 rfl ?_
  obtain ⟨hg1, h⟩ := hz_gd_e h
  obtain ⟨M2, h_M2, h⟩ := hz_lm_e h
  refine hz_iast hO hz_sh_13 (hz_lt_13 hN) hg1 dX1_seat_9 ?_
  refine hz_nameM h_M2 ?_
  refine hz_aload_n hO dX1_seat_10 rfl 0 rfl ?_
  refine hz_getR (k := 1) hO 11 hz_K_2 hz_sh_26 (hz_lt_26 hN) rfl (Nat.le_of_ble_eq_true rfl) tw_2_23 rfl dX1_seat_11 ?_
  refine hz_iload_n hO dX1_seat_14 rfl 2 rfl ?_
  obtain ⟨r3, M4, hq5, h⟩ := hz_ct_e h
  refine hz_callVi (as := [.int a2]) (rest := []) hO (c_X7_temperature l w hN a2 hq5) hz_cal_X7_temperature hz_K_7 hz_sh_11 (hz_lt_11 hN) tw_5_196 (Nat.le_of_ble_eq_true rfl) rfl rfl (Nat.le_of_ble_eq_true rfl) dX1_seat_15 ?_
  exact hz_nameM (hz_some_e h).2.symm (hz_name (hz_some_e h).1.symm (hz_iret hO dX1_seat_18))
def f_X1_hangUp (a1 : Int32) (a2 : Int32) (M : hz_M) : hz_O :=
  hz_gd (hz_in a1 16) <|
  hz_lt ((M 15 (Int32.toNatClampNeg a1))) fun x2 =>
  hz_ct (f_X3_isTowel x2 M) fun r3 M4 =>
  if r3 = 0 then
    some ((-1 : Int32), M4)
  else
    hz_ct (f_X7_putOnPeg x2 a2 M4) fun r7 M8 =>
    hz_gd (hz_in a1 16) <|
    hz_lm (hz_set M8 15 (Int32.toNatClampNeg a1) (-1 : Int32)) fun M11 =>
    some (x2, M11)
set_option maxRecDepth 100000 in
set_option maxHeartbeats 4000000 in
theorem c_X1_hangUp (l : Launch) (w : hz_C) {N : Nat} (hN : 178 ≤ N) (a1 : Int32) (a2 : Int32) {M : hz_M} {rE : Int32} {ME : hz_M} (h : f_X1_hangUp a1 a2 M = some (rE, ME)) : hz_Ct l yX1_hangUp cX1_hangUp 4 (some .int) 1 w N [.ref (hz_ad w 26), .int a1, .int a2] M (hz_Qi w N rE ME) := by
  refine hz_ofW (by decide) rfl (Nat.le_of_ble_eq_true rfl) tw_5_204 ?_
  intro p e s m args below meth c hO
  show hz_G p l e 1 hz_z0 s m args below meth c w N 4 _ M 0 [(0, .ref (hz_ad w 26)), (1, .int a1), (2, .int a2)] []
  unfold f_X1_hangUp at h
  refine hz_aload_n hO dX1_hangUp_0 rfl 0 rfl ?_
  refine hz_getR (k := 1) hO 11 hz_K_2 hz_sh_26 (hz_lt_26 hN) rfl (Nat.le_of_ble_eq_true rfl) tw_2_23 rfl dX1_hangUp_1 ?_
  refine hz_getR (k := 4) hO 15 hz_K_7 hz_sh_11 (hz_lt_11 hN) rfl (Nat.le_of_ble_eq_true rfl) tw_1_160 rfl dX1_hangUp_4 ?_
  refine hz_iload_n hO dX1_hangUp_7 rfl 1 rfl ?_
  obtain ⟨hg1, h⟩ := hz_gd_e h
  refine hz_iald hO hz_sh_15 (hz_lt_15 hN) hg1 dX1_hangUp_8 ?_
  obtain ⟨x2, h_x2, h⟩ := hz_lt_e h
  refine hz_name h_x2 ?_
  refine hz_istore_n (ls1 := [(3, .int x2), (0, .ref (hz_ad w 26)), (1, .int a1), (2, .int a2)]) hO dX1_hangUp_9 rfl (Nat.le_of_ble_eq_true rfl) rfl ?_
  refine hz_aload_n hO dX1_hangUp_10 rfl 1 rfl ?_
  refine hz_getR (k := 0) hO 1 hz_K_2 hz_sh_26 (hz_lt_26 hN) rfl (Nat.le_of_ble_eq_true rfl) tw_2_22 rfl dX1_hangUp_11 ?_
  refine hz_iload_n hO dX1_hangUp_14 rfl 0 rfl ?_
  obtain ⟨r3, M4, hq5, h⟩ := hz_ct_e h
  refine hz_callVi (as := [.int x2]) (rest := []) hO (c_X3_isTowel l w hN x2 hq5) hz_cal_X3_isTowel hz_K_4 hz_sh_1 (hz_lt_1 hN) tw_5_186 (Nat.le_of_ble_eq_true rfl) rfl rfl (Nat.le_of_ble_eq_true rfl) dX1_hangUp_15 ?_
  refine hz_if_ne (tgt := 23) hO dX1_hangUp_18 (by decide) (fun hc6 => ?_) (fun hc6 => ?_)
  · rw [if_neg hc6] at h
    refine hz_aload_n hO dX1_hangUp_23 rfl 1 rfl ?_
    refine hz_getR (k := 1) hO 11 hz_K_2 hz_sh_26 (hz_lt_26 hN) rfl (Nat.le_of_ble_eq_true rfl) tw_2_23 rfl dX1_hangUp_24 ?_
    refine hz_iload_n hO dX1_hangUp_27 rfl 0 rfl ?_
    refine hz_iload_n hO dX1_hangUp_28 rfl 3 rfl ?_
    obtain ⟨r7, M8, hq9, h⟩ := hz_ct_e h
    refine hz_callVv (as := [.int x2, .int a2]) (rest := []) hO (c_X7_putOnPeg l w hN x2 a2 hq9) hz_cal_X7_putOnPeg hz_K_7 hz_sh_11 (hz_lt_11 hN) tw_5_205 (Nat.le_of_ble_eq_true rfl) rfl rfl (Nat.le_of_ble_eq_true rfl) dX1_hangUp_29 ?_
    refine hz_aload_n hO dX1_hangUp_32 rfl 1 rfl ?_
    refine hz_getR (k := 1) hO 11 hz_K_2 hz_sh_26 (hz_lt_26 hN) rfl (Nat.le_of_ble_eq_true rfl) tw_2_23 rfl dX1_hangUp_33 ?_
    refine hz_getR (k := 4) hO 15 hz_K_7 hz_sh_11 (hz_lt_11 hN) rfl (Nat.le_of_ble_eq_true rfl) tw_1_160 rfl dX1_hangUp_36 ?_
    refine hz_iload_n hO dX1_hangUp_39 rfl 2 rfl ?_
    refine hz_iconst (v := (-1 : Int32)) hO dX1_hangUp_40 (by decide) ?_
    obtain ⟨hg10, h⟩ := hz_gd_e h
    obtain ⟨M11, h_M11, h⟩ := hz_lm_e h
    refine hz_iast hO hz_sh_15 (hz_lt_15 hN) hg10 dX1_hangUp_41 ?_
    refine hz_nameM h_M11 ?_
    refine hz_iload_n hO dX1_hangUp_42 rfl 0 rfl ?_
    exact hz_nameM (hz_some_e h).2.symm (hz_name (hz_some_e h).1.symm (hz_iret hO dX1_hangUp_43))
  · rw [if_pos hc6] at h
    refine hz_iconst (v := (-1 : Int32)) hO dX1_hangUp_21 (by decide) ?_
    exact hz_nameM (hz_some_e h).2.symm (hz_name (hz_some_e h).1.symm (hz_iret hO dX1_hangUp_22))
def f_X1_takeDown (a1 : Int32) (a2 : Int32) (M : hz_M) : hz_O :=
  hz_gd (hz_in a2 16) <|
  hz_lt ((M 23 (Int32.toNatClampNeg a2))) fun x2 =>
  hz_ct (f_X3_isTowel x2 M) fun r3 M4 =>
  if r3 = 0 then
    some ((-1 : Int32), M4)
  else
    hz_ct (f_X7_giveToGuest x2 a1 M4) fun r7 M8 =>
    some (x2, M8)
set_option maxRecDepth 100000 in
set_option maxHeartbeats 4000000 in
theorem c_X1_takeDown (l : Launch) (w : hz_C) {N : Nat} (hN : 178 ≤ N) (a1 : Int32) (a2 : Int32) {M : hz_M} {rE : Int32} {ME : hz_M} (h : f_X1_takeDown a1 a2 M = some (rE, ME)) : hz_Ct l yX1_takeDown cX1_takeDown 4 (some .int) 2 w N [.ref (hz_ad w 26), .int a1, .int a2] M (hz_Qi w N rE ME) := by
  refine hz_ofW (by decide) rfl (Nat.le_of_ble_eq_true rfl) tw_5_209 ?_
  intro p e s m args below meth c hO
  show hz_G p l e 2 hz_z0 s m args below meth c w N 4 _ M 0 [(0, .ref (hz_ad w 26)), (1, .int a1), (2, .int a2)] []
  unfold f_X1_takeDown at h
  refine hz_aload_n hO dX1_takeDown_0 rfl 0 rfl ?_
  refine hz_getR (k := 1) hO 11 hz_K_2 hz_sh_26 (hz_lt_26 hN) rfl (Nat.le_of_ble_eq_true rfl) tw_2_23 rfl dX1_takeDown_1 ?_
  refine hz_getR (k := 12) hO 23 hz_K_7 hz_sh_11 (hz_lt_11 hN) rfl (Nat.le_of_ble_eq_true rfl) tw_1_185 rfl dX1_takeDown_4 ?_
  refine hz_iload_n hO dX1_takeDown_7 rfl 2 rfl ?_
  obtain ⟨hg1, h⟩ := hz_gd_e h
  refine hz_iald hO hz_sh_23 (hz_lt_23 hN) hg1 dX1_takeDown_8 ?_
  obtain ⟨x2, h_x2, h⟩ := hz_lt_e h
  refine hz_name h_x2 ?_
  refine hz_istore_n (ls1 := [(3, .int x2), (0, .ref (hz_ad w 26)), (1, .int a1), (2, .int a2)]) hO dX1_takeDown_9 rfl (Nat.le_of_ble_eq_true rfl) rfl ?_
  refine hz_aload_n hO dX1_takeDown_10 rfl 1 rfl ?_
  refine hz_getR (k := 0) hO 1 hz_K_2 hz_sh_26 (hz_lt_26 hN) rfl (Nat.le_of_ble_eq_true rfl) tw_2_22 rfl dX1_takeDown_11 ?_
  refine hz_iload_n hO dX1_takeDown_14 rfl 0 rfl ?_
  obtain ⟨r3, M4, hq5, h⟩ := hz_ct_e h
  refine hz_callVi (as := [.int x2]) (rest := []) hO (c_X3_isTowel l w hN x2 hq5) hz_cal_X3_isTowel hz_K_4 hz_sh_1 (hz_lt_1 hN) tw_5_186 (Nat.le_of_ble_eq_true rfl) rfl rfl (Nat.le_of_ble_eq_true rfl) dX1_takeDown_15 ?_
  refine hz_if_ne (tgt := 23) hO dX1_takeDown_18 (by decide) (fun hc6 => ?_) (fun hc6 => ?_)
  · rw [if_neg hc6] at h
    refine hz_aload_n hO dX1_takeDown_23 rfl 1 rfl ?_
    refine hz_getR (k := 1) hO 11 hz_K_2 hz_sh_26 (hz_lt_26 hN) rfl (Nat.le_of_ble_eq_true rfl) tw_2_23 rfl dX1_takeDown_24 ?_
    refine hz_iload_n hO dX1_takeDown_27 rfl 0 rfl ?_
    refine hz_iload_n hO dX1_takeDown_28 rfl 2 rfl ?_
    obtain ⟨r7, M8, hq9, h⟩ := hz_ct_e h
    refine hz_callVv (as := [.int x2, .int a1]) (rest := []) hO (c_X7_giveToGuest l w hN x2 a1 hq9) hz_cal_X7_giveToGuest hz_K_7 hz_sh_11 (hz_lt_11 hN) tw_5_187 (Nat.le_of_ble_eq_true rfl) rfl rfl (Nat.le_of_ble_eq_true rfl) dX1_takeDown_29 ?_
    refine hz_iload_n hO dX1_takeDown_32 rfl 0 rfl ?_
    exact hz_nameM (hz_some_e h).2.symm (hz_name (hz_some_e h).1.symm (hz_iret hO dX1_takeDown_33))
  · rw [if_pos hc6] at h
    refine hz_iconst (v := (-1 : Int32)) hO dX1_takeDown_21 (by decide) ?_
    exact hz_nameM (hz_some_e h).2.symm (hz_name (hz_some_e h).1.symm (hz_iret hO dX1_takeDown_22))
def f_X1_letGo (a1 : Int32) (M : hz_M) : hz_O :=
  hz_gd (hz_in a1 16) <|
  hz_lt ((M 14 (Int32.toNatClampNeg a1))) fun x2 =>
  hz_gd (hz_in a1 16) <|
  hz_lt ((M 15 (Int32.toNatClampNeg a1))) fun x4 =>
  hz_ct (f_X3_isLocker x2 M) fun r5 M6 =>
  hz_jn (fun (v1_8 : Int32) (v2_9 : Int32) (v3_10 : Int32) (M11 : hz_M) =>
    hz_ct (f_X3_isTowel v3_10 M11) fun r12 M13 =>
    hz_jn (fun (v1_15 : Int32) (v2_16 : Int32) (M17 : hz_M) =>
      hz_gd (hz_in v1_15 16) <|
      hz_lm (hz_set M17 14 (Int32.toNatClampNeg v1_15) (-1 : Int32)) fun M19 =>
      hz_gd (hz_in v1_15 16) <|
      hz_lm (hz_set M19 15 (Int32.toNatClampNeg v1_15) (-1 : Int32)) fun M21 =>
      hz_gd (hz_in v1_15 16) <|
      hz_lm (hz_set M21 13 (Int32.toNatClampNeg v1_15) (-1 : Int32)) fun M23 =>
      hz_lm (hz_set M23 24 (Int32.toNatClampNeg (1 : Int32)) ((M23 24 (Int32.toNatClampNeg (1 : Int32))) + (1 : Int32))) fun M24 =>
      some (v2_16, M24)
      ) fun k25 =>
    if r12 = 0 then
      k25 v1_8 v2_9 M13
    else
      hz_gd (hz_in v3_10 16) <|
      hz_lm (hz_set M13 22 (Int32.toNatClampNeg v3_10) (-1 : Int32)) fun M28 =>
      k25 v1_8 v2_9 M28
    ) fun k29 =>
  if r5 = 0 then
    k29 a1 x2 x4 M6
  else
    hz_gd (hz_in x2 12) <|
    hz_lm (hz_set M6 19 (Int32.toNatClampNeg x2) (-1 : Int32)) fun M32 =>
    k29 a1 x2 x4 M32
set_option maxRecDepth 100000 in
set_option maxHeartbeats 4000000 in
theorem c_X1_letGo (l : Launch) (w : hz_C) {N : Nat} (hN : 178 ≤ N) (a1 : Int32) {M : hz_M} {rE : Int32} {ME : hz_M} (h : f_X1_letGo a1 M = some (rE, ME)) : hz_Ct l yX1_letGo cX1_letGo 4 (some .int) 1 w N [.ref (hz_ad w 26), .int a1] M (hz_Qi w N rE ME) := by
  refine hz_ofW (by decide) rfl (Nat.le_of_ble_eq_true rfl) tw_5_213 ?_
  intro p e s m args below meth c hO
  show hz_G p l e 1 hz_z0 s m args below meth c w N 4 _ M 0 [(0, .ref (hz_ad w 26)), (1, .int a1)] []
  unfold f_X1_letGo at h
  refine hz_aload_n hO dX1_letGo_0 rfl 0 rfl ?_
  refine hz_getR (k := 1) hO 11 hz_K_2 hz_sh_26 (hz_lt_26 hN) rfl (Nat.le_of_ble_eq_true rfl) tw_2_23 rfl dX1_letGo_1 ?_
  refine hz_getR (k := 3) hO 14 hz_K_7 hz_sh_11 (hz_lt_11 hN) rfl (Nat.le_of_ble_eq_true rfl) tw_1_155 rfl dX1_letGo_4 ?_
  refine hz_iload_n hO dX1_letGo_7 rfl 1 rfl ?_
  obtain ⟨hg1, h⟩ := hz_gd_e h
  refine hz_iald hO hz_sh_14 (hz_lt_14 hN) hg1 dX1_letGo_8 ?_
  obtain ⟨x2, h_x2, h⟩ := hz_lt_e h
  refine hz_name h_x2 ?_
  refine hz_istore_n (ls1 := [(2, .int x2), (0, .ref (hz_ad w 26)), (1, .int a1)]) hO dX1_letGo_9 rfl (Nat.le_of_ble_eq_true rfl) rfl ?_
  refine hz_aload_n hO dX1_letGo_10 rfl 1 rfl ?_
  refine hz_getR (k := 1) hO 11 hz_K_2 hz_sh_26 (hz_lt_26 hN) rfl (Nat.le_of_ble_eq_true rfl) tw_2_23 rfl dX1_letGo_11 ?_
  refine hz_getR (k := 4) hO 15 hz_K_7 hz_sh_11 (hz_lt_11 hN) rfl (Nat.le_of_ble_eq_true rfl) tw_1_160 rfl dX1_letGo_14 ?_
  refine hz_iload_n hO dX1_letGo_17 rfl 2 rfl ?_
  obtain ⟨hg3, h⟩ := hz_gd_e h
  refine hz_iald hO hz_sh_15 (hz_lt_15 hN) hg3 dX1_letGo_18 ?_
  obtain ⟨x4, h_x4, h⟩ := hz_lt_e h
  refine hz_name h_x4 ?_
  refine hz_istore_n (ls1 := [(3, .int x4), (2, .int x2), (0, .ref (hz_ad w 26)), (1, .int a1)]) hO dX1_letGo_19 rfl (Nat.le_of_ble_eq_true rfl) rfl ?_
  refine hz_aload_n hO dX1_letGo_20 rfl 2 rfl ?_
  refine hz_getR (k := 0) hO 1 hz_K_2 hz_sh_26 (hz_lt_26 hN) rfl (Nat.le_of_ble_eq_true rfl) tw_2_22 rfl dX1_letGo_21 ?_
  refine hz_iload_n hO dX1_letGo_24 rfl 1 rfl ?_
  obtain ⟨r5, M6, hq7, h⟩ := hz_ct_e h
  refine hz_callVi (as := [.int x2]) (rest := []) hO (c_X3_isLocker l w hN x2 hq7) hz_cal_X3_isLocker hz_K_4 hz_sh_1 (hz_lt_1 hN) tw_5_185 (Nat.le_of_ble_eq_true rfl) rfl rfl (Nat.le_of_ble_eq_true rfl) dX1_letGo_25 ?_
  obtain ⟨k29, hk29, h⟩ := hz_jn_e h
  have gk29 : ∀ (v1_8 : Int32) (v2_9 : Int32) (v3_10 : Int32) (M11 : hz_M), k29 v1_8 v2_9 v3_10 M11 = some (rE, ME) → hz_G p l e 1 hz_z0 s m args below meth c w N 4 (MQ below (hz_Qi w N rE ME) args s 0 0 (hz_A w)) M11 41 [(0, .ref (hz_ad w 26)), (1, .int v1_8), (2, .int v2_9), (3, .int v3_10)] [] := by
    intro v1_8 v2_9 v3_10 M11 h
    rw [hk29] at h
    dsimp only at h
    refine hz_aload_n hO dX1_letGo_41 rfl 0 rfl ?_
    refine hz_getR (k := 0) hO 1 hz_K_2 hz_sh_26 (hz_lt_26 hN) rfl (Nat.le_of_ble_eq_true rfl) tw_2_22 rfl dX1_letGo_42 ?_
    refine hz_iload_n hO dX1_letGo_45 rfl 3 rfl ?_
    obtain ⟨r12, M13, hq14, h⟩ := hz_ct_e h
    refine hz_callVi (as := [.int v3_10]) (rest := []) hO (c_X3_isTowel l w hN v3_10 hq14) hz_cal_X3_isTowel hz_K_4 hz_sh_1 (hz_lt_1 hN) tw_5_186 (Nat.le_of_ble_eq_true rfl) rfl rfl (Nat.le_of_ble_eq_true rfl) dX1_letGo_46 ?_
    obtain ⟨k25, hk25, h⟩ := hz_jn_e h
    have gk25 : ∀ (v1_15 : Int32) (v2_16 : Int32) (M17 : hz_M), k25 v1_15 v2_16 M17 = some (rE, ME) → hz_G p l e 1 hz_z0 s m args below meth c w N 4 (MQ below (hz_Qi w N rE ME) args s 0 0 (hz_A w)) M17 62 [(0, .ref (hz_ad w 26)), (1, .int v1_15), (2, .int v2_16)] [] := by
      intro v1_15 v2_16 M17 h
      rw [hk25] at h
      dsimp only at h
      refine hz_aload_n hO dX1_letGo_62 rfl 0 rfl ?_
      refine hz_getR (k := 1) hO 11 hz_K_2 hz_sh_26 (hz_lt_26 hN) rfl (Nat.le_of_ble_eq_true rfl) tw_2_23 rfl dX1_letGo_63 ?_
      refine hz_getR (k := 3) hO 14 hz_K_7 hz_sh_11 (hz_lt_11 hN) rfl (Nat.le_of_ble_eq_true rfl) tw_1_155 rfl dX1_letGo_66 ?_
      refine hz_iload_n hO dX1_letGo_69 rfl 1 rfl ?_
      refine hz_iconst (v := (-1 : Int32)) hO dX1_letGo_70 (by decide) ?_
      obtain ⟨hg18, h⟩ := hz_gd_e h
      obtain ⟨M19, h_M19, h⟩ := hz_lm_e h
      refine hz_iast hO hz_sh_14 (hz_lt_14 hN) hg18 dX1_letGo_71 ?_
      refine hz_nameM h_M19 ?_
      refine hz_aload_n hO dX1_letGo_72 rfl 0 rfl ?_
      refine hz_getR (k := 1) hO 11 hz_K_2 hz_sh_26 (hz_lt_26 hN) rfl (Nat.le_of_ble_eq_true rfl) tw_2_23 rfl dX1_letGo_73 ?_
      refine hz_getR (k := 4) hO 15 hz_K_7 hz_sh_11 (hz_lt_11 hN) rfl (Nat.le_of_ble_eq_true rfl) tw_1_160 rfl dX1_letGo_76 ?_
      refine hz_iload_n hO dX1_letGo_79 rfl 1 rfl ?_
      refine hz_iconst (v := (-1 : Int32)) hO dX1_letGo_80 (by decide) ?_
      obtain ⟨hg20, h⟩ := hz_gd_e h
      obtain ⟨M21, h_M21, h⟩ := hz_lm_e h
      refine hz_iast hO hz_sh_15 (hz_lt_15 hN) hg20 dX1_letGo_81 ?_
      refine hz_nameM h_M21 ?_
      refine hz_aload_n hO dX1_letGo_82 rfl 0 rfl ?_
      refine hz_getR (k := 1) hO 11 hz_K_2 hz_sh_26 (hz_lt_26 hN) rfl (Nat.le_of_ble_eq_true rfl) tw_2_23 rfl dX1_letGo_83 ?_
      refine hz_getR (k := 2) hO 13 hz_K_7 hz_sh_11 (hz_lt_11 hN) rfl (Nat.le_of_ble_eq_true rfl) tw_1_152 rfl dX1_letGo_86 ?_
      refine hz_iload_n hO dX1_letGo_89 rfl 1 rfl ?_
      refine hz_iconst (v := (-1 : Int32)) hO dX1_letGo_90 (by decide) ?_
      obtain ⟨hg22, h⟩ := hz_gd_e h
      obtain ⟨M23, h_M23, h⟩ := hz_lm_e h
      refine hz_iast hO hz_sh_13 (hz_lt_13 hN) hg22 dX1_letGo_91 ?_
      refine hz_nameM h_M23 ?_
      refine hz_aload_n hO dX1_letGo_92 rfl 0 rfl ?_
      refine hz_getR (k := 1) hO 11 hz_K_2 hz_sh_26 (hz_lt_26 hN) rfl (Nat.le_of_ble_eq_true rfl) tw_2_23 rfl dX1_letGo_93 ?_
      refine hz_getR (k := 13) hO 24 hz_K_7 hz_sh_11 (hz_lt_11 hN) rfl (Nat.le_of_ble_eq_true rfl) tw_1_187 rfl dX1_letGo_96 ?_
      refine hz_iconst (v := (1 : Int32)) hO dX1_letGo_99 (by decide) ?_
      refine hz_dup2 hO dX1_letGo_100 rfl rfl ?_
      refine hz_iald hO hz_sh_24 (hz_lt_24 hN) (by decide) dX1_letGo_101 ?_
      refine hz_iconst (v := (1 : Int32)) hO dX1_letGo_102 (by decide) ?_
      refine hz_iadd hO dX1_letGo_103 ?_
      obtain ⟨M24, h_M24, h⟩ := hz_lm_e h
      refine hz_iast hO hz_sh_24 (hz_lt_24 hN) (by decide) dX1_letGo_104 ?_
      refine hz_nameM h_M24 ?_
      refine hz_iload_n hO dX1_letGo_105 rfl 2 rfl ?_
      exact hz_nameM (hz_some_e h).2.symm (hz_name (hz_some_e h).1.symm (hz_iret hO dX1_letGo_106))
    clear hk25
    refine hz_if_eq (tgt := 62) hO dX1_letGo_49 (by decide) (fun hc26 => ?_) (fun hc26 => ?_)
    · rw [if_pos hc26] at h
      exact hz_ls [0, 1, 2] rfl (gk25 v1_8 v2_9 M13 h)
    · rw [if_neg hc26] at h
      refine hz_aload_n hO dX1_letGo_52 rfl 0 rfl ?_
      refine hz_getR (k := 1) hO 11 hz_K_2 hz_sh_26 (hz_lt_26 hN) rfl (Nat.le_of_ble_eq_true rfl) tw_2_23 rfl dX1_letGo_53 ?_
      refine hz_getR (k := 11) hO 22 hz_K_7 hz_sh_11 (hz_lt_11 hN) rfl (Nat.le_of_ble_eq_true rfl) tw_1_181 rfl dX1_letGo_56 ?_
      refine hz_iload_n hO dX1_letGo_59 rfl 3 rfl ?_
      refine hz_iconst (v := (-1 : Int32)) hO dX1_letGo_60 (by decide) ?_
      obtain ⟨hg27, h⟩ := hz_gd_e h
      obtain ⟨M28, h_M28, h⟩ := hz_lm_e h
      refine hz_iast hO hz_sh_22 (hz_lt_22 hN) hg27 dX1_letGo_61 ?_
      refine hz_nameM h_M28 ?_
      exact hz_ls [0, 1, 2] rfl (gk25 v1_8 v2_9 M28 h)
  clear hk29
  refine hz_if_eq (tgt := 41) hO dX1_letGo_28 (by decide) (fun hc30 => ?_) (fun hc30 => ?_)
  · rw [if_pos hc30] at h
    exact hz_ls [2, 3, 1, 0] rfl (gk29 a1 x2 x4 M6 h)
  · rw [if_neg hc30] at h
    refine hz_aload_n hO dX1_letGo_31 rfl 2 rfl ?_
    refine hz_getR (k := 1) hO 11 hz_K_2 hz_sh_26 (hz_lt_26 hN) rfl (Nat.le_of_ble_eq_true rfl) tw_2_23 rfl dX1_letGo_32 ?_
    refine hz_getR (k := 8) hO 19 hz_K_7 hz_sh_11 (hz_lt_11 hN) rfl (Nat.le_of_ble_eq_true rfl) tw_1_172 rfl dX1_letGo_35 ?_
    refine hz_iload_n hO dX1_letGo_38 rfl 1 rfl ?_
    refine hz_iconst (v := (-1 : Int32)) hO dX1_letGo_39 (by decide) ?_
    obtain ⟨hg31, h⟩ := hz_gd_e h
    obtain ⟨M32, h_M32, h⟩ := hz_lm_e h
    refine hz_iast hO hz_sh_19 (hz_lt_19 hN) hg31 dX1_letGo_40 ?_
    refine hz_nameM h_M32 ?_
    exact hz_ls [2, 3, 1, 0] rfl (gk29 a1 x2 x4 M32 h)
def f_X1_hear (a1 : Int32) (M : hz_M) : hz_O :=
  hz_ct (f_X7_isSilence M) fun r1 M2 =>
  if r1 = 0 then
    hz_gd (hz_in a1 16) <|
    some ((M2 17 (Int32.toNatClampNeg a1)), M2)
  else
    hz_gd (hz_in a1 16) <|
    hz_gd (hz_in a1 16) <|
    hz_lm (hz_set M2 17 (Int32.toNatClampNeg a1) ((M2 17 (Int32.toNatClampNeg a1)) + (1 : Int32))) fun M7 =>
    hz_lm (hz_set M7 24 (Int32.toNatClampNeg (3 : Int32)) ((M7 24 (Int32.toNatClampNeg (3 : Int32))) + (1 : Int32))) fun M8 =>
    hz_gd (hz_in a1 16) <|
    if (3 : Int32) ≤ (M8 17 (Int32.toNatClampNeg a1)) then
      hz_ct (f_X1_letGo a1 M8) fun r11 M12 =>
      hz_gd (hz_in a1 16) <|
      hz_lm (hz_set M12 17 (Int32.toNatClampNeg a1) (0 : Int32)) fun M15 =>
      hz_ct (f_X7_day M15) fun r16 M17 =>
      hz_gd (hz_in a1 16) <|
      hz_lm (hz_set M17 18 (Int32.toNatClampNeg a1) r16) fun M20 =>
      hz_lm (hz_set M20 24 (Int32.toNatClampNeg (2 : Int32)) ((M20 24 (Int32.toNatClampNeg (2 : Int32))) + (1 : Int32))) fun M21 =>
      some ((3 : Int32), M21)
    else
      hz_gd (hz_in a1 16) <|
      some ((M8 17 (Int32.toNatClampNeg a1)), M8)
set_option maxRecDepth 100000 in
set_option maxHeartbeats 4000000 in
theorem c_X1_hear (l : Launch) (w : hz_C) {N : Nat} (hN : 178 ≤ N) (a1 : Int32) {M : hz_M} {rE : Int32} {ME : hz_M} (h : f_X1_hear a1 M = some (rE, ME)) : hz_Ct l yX1_hear cX1_hear 2 (some .int) 2 w N [.ref (hz_ad w 26), .int a1] M (hz_Qi w N rE ME) := by
  refine hz_ofW (by decide) rfl (Nat.le_of_ble_eq_true rfl) tw_5_217 ?_
  intro p e s m args below meth c hO
  show hz_G p l e 2 hz_z0 s m args below meth c w N 2 _ M 0 [(0, .ref (hz_ad w 26)), (1, .int a1)] []
  unfold f_X1_hear at h
  refine hz_aload_n hO dX1_hear_0 rfl 0 rfl ?_
  refine hz_getR (k := 1) hO 11 hz_K_2 hz_sh_26 (hz_lt_26 hN) rfl (Nat.le_of_ble_eq_true rfl) tw_2_23 rfl dX1_hear_1 ?_
  obtain ⟨r1, M2, hq3, h⟩ := hz_ct_e h
  refine hz_callVi (as := []) (rest := []) hO (c_X7_isSilence l w hN hq3) hz_cal_X7_isSilence hz_K_7 hz_sh_11 (hz_lt_11 hN) tw_5_218 (Nat.le_of_ble_eq_true rfl) rfl rfl (Nat.le_of_ble_eq_true rfl) dX1_hear_4 ?_
  refine hz_if_ne (tgt := 20) hO dX1_hear_7 (by decide) (fun hc4 => ?_) (fun hc4 => ?_)
  · rw [if_neg hc4] at h
    refine hz_aload_n hO dX1_hear_20 rfl 0 rfl ?_
    refine hz_getR (k := 1) hO 11 hz_K_2 hz_sh_26 (hz_lt_26 hN) rfl (Nat.le_of_ble_eq_true rfl) tw_2_23 rfl dX1_hear_21 ?_
    refine hz_getR (k := 6) hO 17 hz_K_7 hz_sh_11 (hz_lt_11 hN) rfl (Nat.le_of_ble_eq_true rfl) tw_1_166 rfl dX1_hear_24 ?_
    refine hz_iload_n hO dX1_hear_27 rfl 1 rfl ?_
    refine hz_dup2 hO dX1_hear_28 rfl rfl ?_
    obtain ⟨hg5, h⟩ := hz_gd_e h
    refine hz_iald hO hz_sh_17 (hz_lt_17 hN) hg5 dX1_hear_29 ?_
    refine hz_iconst (v := (1 : Int32)) hO dX1_hear_30 (by decide) ?_
    refine hz_iadd hO dX1_hear_31 ?_
    obtain ⟨hg6, h⟩ := hz_gd_e h
    obtain ⟨M7, h_M7, h⟩ := hz_lm_e h
    refine hz_iast hO hz_sh_17 (hz_lt_17 hN) hg6 dX1_hear_32 ?_
    refine hz_nameM h_M7 ?_
    refine hz_aload_n hO dX1_hear_33 rfl 0 rfl ?_
    refine hz_getR (k := 1) hO 11 hz_K_2 hz_sh_26 (hz_lt_26 hN) rfl (Nat.le_of_ble_eq_true rfl) tw_2_23 rfl dX1_hear_34 ?_
    refine hz_getR (k := 13) hO 24 hz_K_7 hz_sh_11 (hz_lt_11 hN) rfl (Nat.le_of_ble_eq_true rfl) tw_1_187 rfl dX1_hear_37 ?_
    refine hz_iconst (v := (3 : Int32)) hO dX1_hear_40 (by decide) ?_
    refine hz_dup2 hO dX1_hear_41 rfl rfl ?_
    refine hz_iald hO hz_sh_24 (hz_lt_24 hN) (by decide) dX1_hear_42 ?_
    refine hz_iconst (v := (1 : Int32)) hO dX1_hear_43 (by decide) ?_
    refine hz_iadd hO dX1_hear_44 ?_
    obtain ⟨M8, h_M8, h⟩ := hz_lm_e h
    refine hz_iast hO hz_sh_24 (hz_lt_24 hN) (by decide) dX1_hear_45 ?_
    refine hz_nameM h_M8 ?_
    refine hz_aload_n hO dX1_hear_46 rfl 0 rfl ?_
    refine hz_getR (k := 1) hO 11 hz_K_2 hz_sh_26 (hz_lt_26 hN) rfl (Nat.le_of_ble_eq_true rfl) tw_2_23 rfl dX1_hear_47 ?_
    refine hz_getR (k := 6) hO 17 hz_K_7 hz_sh_11 (hz_lt_11 hN) rfl (Nat.le_of_ble_eq_true rfl) tw_1_166 rfl dX1_hear_50 ?_
    refine hz_iload_n hO dX1_hear_53 rfl 1 rfl ?_
    obtain ⟨hg9, h⟩ := hz_gd_e h
    refine hz_iald hO hz_sh_17 (hz_lt_17 hN) hg9 dX1_hear_54 ?_
    refine hz_iconst (v := (3 : Int32)) hO dX1_hear_55 (by decide) ?_
    refine hz_icmp_ge (tgt := 69) hO dX1_hear_56 (by decide) (fun hc10 => ?_) (fun hc10 => ?_)
    · rw [if_pos hc10] at h
      refine hz_aload_n hO dX1_hear_69 rfl 0 rfl ?_
      refine hz_iload_n hO dX1_hear_70 rfl 1 rfl ?_
      obtain ⟨r11, M12, hq13, h⟩ := hz_ct_e h
      refine hz_callVi (as := [.int a1]) (rest := []) hO (c_X1_letGo l w hN a1 hq13) hz_cal_X1_letGo hz_K_2 hz_sh_26 (hz_lt_26 hN) tw_5_210 (Nat.le_of_ble_eq_true rfl) rfl rfl (Nat.le_of_ble_eq_true rfl) dX1_hear_71 ?_
      refine hz_pop hO dX1_hear_74 rfl ?_
      refine hz_aload_n hO dX1_hear_75 rfl 0 rfl ?_
      refine hz_getR (k := 1) hO 11 hz_K_2 hz_sh_26 (hz_lt_26 hN) rfl (Nat.le_of_ble_eq_true rfl) tw_2_23 rfl dX1_hear_76 ?_
      refine hz_getR (k := 6) hO 17 hz_K_7 hz_sh_11 (hz_lt_11 hN) rfl (Nat.le_of_ble_eq_true rfl) tw_1_166 rfl dX1_hear_79 ?_
      refine hz_iload_n hO dX1_hear_82 rfl 1 rfl ?_
      refine hz_iconst (v := (0 : Int32)) hO dX1_hear_83 (by decide) ?_
      obtain ⟨hg14, h⟩ := hz_gd_e h
      obtain ⟨M15, h_M15, h⟩ := hz_lm_e h
      refine hz_iast hO hz_sh_17 (hz_lt_17 hN) hg14 dX1_hear_84 ?_
      refine hz_nameM h_M15 ?_
      refine hz_aload_n hO dX1_hear_85 rfl 0 rfl ?_
      refine hz_getR (k := 1) hO 11 hz_K_2 hz_sh_26 (hz_lt_26 hN) rfl (Nat.le_of_ble_eq_true rfl) tw_2_23 rfl dX1_hear_86 ?_
      refine hz_getR (k := 7) hO 18 hz_K_7 hz_sh_11 (hz_lt_11 hN) rfl (Nat.le_of_ble_eq_true rfl) tw_1_170 rfl dX1_hear_89 ?_
      refine hz_iload_n hO dX1_hear_92 rfl 1 rfl ?_
      refine hz_aload_n hO dX1_hear_93 rfl 0 rfl ?_
      refine hz_getR (k := 1) hO 11 hz_K_2 hz_sh_26 (hz_lt_26 hN) rfl (Nat.le_of_ble_eq_true rfl) tw_2_23 rfl dX1_hear_94 ?_
      obtain ⟨r16, M17, hq18, h⟩ := hz_ct_e h
      refine hz_callVi (as := []) (rest := [.int a1, .ref (hz_ad w 18)]) hO (c_X7_day l w hN hq18) hz_cal_X7_day hz_K_7 hz_sh_11 (hz_lt_11 hN) tw_5_219 (Nat.le_of_ble_eq_true rfl) rfl rfl (Nat.le_of_ble_eq_true rfl) dX1_hear_97 ?_
      obtain ⟨hg19, h⟩ := hz_gd_e h
      obtain ⟨M20, h_M20, h⟩ := hz_lm_e h
      refine hz_iast hO hz_sh_18 (hz_lt_18 hN) hg19 dX1_hear_100 ?_
      refine hz_nameM h_M20 ?_
      refine hz_aload_n hO dX1_hear_101 rfl 0 rfl ?_
      refine hz_getR (k := 1) hO 11 hz_K_2 hz_sh_26 (hz_lt_26 hN) rfl (Nat.le_of_ble_eq_true rfl) tw_2_23 rfl dX1_hear_102 ?_
      refine hz_getR (k := 13) hO 24 hz_K_7 hz_sh_11 (hz_lt_11 hN) rfl (Nat.le_of_ble_eq_true rfl) tw_1_187 rfl dX1_hear_105 ?_
      refine hz_iconst (v := (2 : Int32)) hO dX1_hear_108 (by decide) ?_
      refine hz_dup2 hO dX1_hear_109 rfl rfl ?_
      refine hz_iald hO hz_sh_24 (hz_lt_24 hN) (by decide) dX1_hear_110 ?_
      refine hz_iconst (v := (1 : Int32)) hO dX1_hear_111 (by decide) ?_
      refine hz_iadd hO dX1_hear_112 ?_
      obtain ⟨M21, h_M21, h⟩ := hz_lm_e h
      refine hz_iast hO hz_sh_24 (hz_lt_24 hN) (by decide) dX1_hear_113 ?_
      refine hz_nameM h_M21 ?_
      refine hz_iconst (v := (3 : Int32)) hO dX1_hear_114 (by decide) ?_
      exact hz_nameM (hz_some_e h).2.symm (hz_name (hz_some_e h).1.symm (hz_iret hO dX1_hear_115))
    · rw [if_neg hc10] at h
      refine hz_aload_n hO dX1_hear_59 rfl 0 rfl ?_
      refine hz_getR (k := 1) hO 11 hz_K_2 hz_sh_26 (hz_lt_26 hN) rfl (Nat.le_of_ble_eq_true rfl) tw_2_23 rfl dX1_hear_60 ?_
      refine hz_getR (k := 6) hO 17 hz_K_7 hz_sh_11 (hz_lt_11 hN) rfl (Nat.le_of_ble_eq_true rfl) tw_1_166 rfl dX1_hear_63 ?_
      refine hz_iload_n hO dX1_hear_66 rfl 1 rfl ?_
      obtain ⟨hg22, h⟩ := hz_gd_e h
      refine hz_iald hO hz_sh_17 (hz_lt_17 hN) hg22 dX1_hear_67 ?_
      exact hz_nameM (hz_some_e h).2.symm (hz_name (hz_some_e h).1.symm (hz_iret hO dX1_hear_68))
  · rw [if_pos hc4] at h
    refine hz_aload_n hO dX1_hear_10 rfl 0 rfl ?_
    refine hz_getR (k := 1) hO 11 hz_K_2 hz_sh_26 (hz_lt_26 hN) rfl (Nat.le_of_ble_eq_true rfl) tw_2_23 rfl dX1_hear_11 ?_
    refine hz_getR (k := 6) hO 17 hz_K_7 hz_sh_11 (hz_lt_11 hN) rfl (Nat.le_of_ble_eq_true rfl) tw_1_166 rfl dX1_hear_14 ?_
    refine hz_iload_n hO dX1_hear_17 rfl 1 rfl ?_
    obtain ⟨hg23, h⟩ := hz_gd_e h
    refine hz_iald hO hz_sh_17 (hz_lt_17 hN) hg23 dX1_hear_18 ?_
    exact hz_nameM (hz_some_e h).2.symm (hz_name (hz_some_e h).1.symm (hz_iret hO dX1_hear_19))
def f_X1_washBasket_L4 (kk77 : Int32 → hz_M → hz_O) : Nat → Int32 → Int32 → hz_M → hz_O
  | 0, _, _, _ => none
  | n + 1, v1_5, v2_6, M7 =>
    if (M7 1 6) ≤ v2_6 then
      kk77 v1_5 M7
    else
      hz_ct (f_X7_isInBasket v2_6 M7) fun r9 M10 =>
      hz_jn (fun (v1_12 : Int32) (v2_13 : Int32) (q14 : Int32) (M15 : hz_M) =>
        hz_ct (f_X3_isPeg q14 M15) fun r16 M17 =>
        hz_jn (fun (v1_19 : Int32) (v2_20 : Int32) (M21 : hz_M) =>
          hz_lt (v2_20 + (1 : Int32)) fun x22 =>
          f_X1_washBasket_L4 kk77 n v1_19 x22 M21
          ) fun k23 =>
        if r16 = 0 then
          k23 v1_12 v2_13 M17
        else
          hz_gd (hz_in v2_13 16) <|
          hz_lm (hz_set M17 20 (Int32.toNatClampNeg v2_13) (0 : Int32)) fun M26 =>
          hz_ct (f_X7_putOnPeg v2_13 q14 M26) fun r27 M28 =>
          hz_lt (v1_12 + (1 : Int32)) fun x30 =>
          k23 x30 v2_13 M28
        ) fun k31 =>
      if r9 = 0 then
        k31 v1_5 v2_6 (-1 : Int32) M10
      else
        hz_ct (f_X7_freePeg M10) fun r33 M34 =>
        k31 v1_5 v2_6 r33 M34
def f_X1_washBasket (M : hz_M) : hz_O :=
  hz_jn (fun (v1_1 : Int32) (M2 : hz_M) =>
    hz_lm (hz_set M2 24 (Int32.toNatClampNeg (5 : Int32)) ((M2 24 (Int32.toNatClampNeg (5 : Int32))) + v1_1)) fun M3 =>
    some (v1_1, M3)
    ) fun k4 =>
  f_X1_washBasket_L4 k4 hz_FU (0 : Int32) (0 : Int32) M
set_option maxRecDepth 100000 in
set_option maxHeartbeats 4000000 in
theorem g_X1_washBasket_L4 {p : Program} {l : Launch} {e : Env} {s : State} {m : MethodId} {args : Array Value} {below : List Frame} {meth : Method} {c : Code} {w : hz_C} {N : Nat} (hN : 178 ≤ N) {rE : Int32} {ME : hz_M} (hO : hz_Ok p s m args meth c w cX1_washBasket 4 RX1 (some .int)) (kk77 : Int32 → hz_M → hz_O) (gkk77 : ∀ (v1_1 : Int32) (M : hz_M), kk77 v1_1 M = some (rE, ME) → hz_G p l e 1 hz_z0 s m args below meth c w N 4 (MQ below (hz_Qi w N rE ME) args s 0 0 (hz_A w)) M 77 [(0, .ref (hz_ad w 26)), (1, .int v1_1)] []) : ∀ (n : Nat) (v1_5 : Int32) (v2_6 : Int32) (M7 : hz_M), f_X1_washBasket_L4 kk77 n v1_5 v2_6 M7 = some (rE, ME) → hz_G p l e 1 hz_z0 s m args below meth c w N 4 (MQ below (hz_Qi w N rE ME) args s 0 0 (hz_A w)) M7 4 [(0, .ref (hz_ad w 26)), (1, .int v1_5), (2, .int v2_6)] [] := by
  intro n
  induction n with
  | zero =>
    intro v1_5 v2_6 M7 h
    rw [f_X1_washBasket_L4] at h
    cases h
  | succ n ih =>
    intro v1_5 v2_6 M7 h
    rw [f_X1_washBasket_L4] at h
    refine hz_iload_n hO dX1_washBasket_4 rfl 2 rfl ?_
    refine hz_aload_n hO dX1_washBasket_5 rfl 0 rfl ?_
    refine hz_getR (k := 0) hO 1 hz_K_2 hz_sh_26 (hz_lt_26 hN) rfl (Nat.le_of_ble_eq_true rfl) tw_2_22 rfl dX1_washBasket_6 ?_
    refine hz_getI (k := 6) hO hz_K_4 hz_sh_1 (hz_lt_1 hN) rfl (Nat.le_of_ble_eq_true rfl) tw_1_64 rfl dX1_washBasket_9 ?_
    refine hz_icmp_ge (tgt := 77) hO dX1_washBasket_12 (by decide) (fun hc8 => ?_) (fun hc8 => ?_)
    · rw [if_pos hc8] at h
      exact hz_ls [0, 1] rfl (gkk77 v1_5 M7 h)
    · rw [if_neg hc8] at h
      refine hz_aload_n hO dX1_washBasket_15 rfl 0 rfl ?_
      refine hz_getR (k := 1) hO 11 hz_K_2 hz_sh_26 (hz_lt_26 hN) rfl (Nat.le_of_ble_eq_true rfl) tw_2_23 rfl dX1_washBasket_16 ?_
      refine hz_iload_n hO dX1_washBasket_19 rfl 2 rfl ?_
      obtain ⟨r9, M10, hq11, h⟩ := hz_ct_e h
      refine hz_callVi (as := [.int v2_6]) (rest := []) hO (c_X7_isInBasket l w hN v2_6 hq11) hz_cal_X7_isInBasket hz_K_7 hz_sh_11 (hz_lt_11 hN) tw_5_224 (Nat.le_of_ble_eq_true rfl) rfl rfl (Nat.le_of_ble_eq_true rfl) dX1_washBasket_20 ?_
      obtain ⟨k31, hk31, h⟩ := hz_jn_e h
      have gk31 : ∀ (v1_12 : Int32) (v2_13 : Int32) (q14 : Int32) (M15 : hz_M), k31 v1_12 v2_13 q14 M15 = some (rE, ME) → hz_G p l e 1 hz_z0 s m args below meth c w N 4 (MQ below (hz_Qi w N rE ME) args s 0 0 (hz_A w)) M15 37 [(0, .ref (hz_ad w 26)), (1, .int v1_12), (2, .int v2_13)] [.int q14] := by
        intro v1_12 v2_13 q14 M15 h
        rw [hk31] at h
        dsimp only at h
        refine hz_istore_n (ls1 := [(3, .int q14), (0, .ref (hz_ad w 26)), (1, .int v1_12), (2, .int v2_13)]) hO dX1_washBasket_37 rfl (Nat.le_of_ble_eq_true rfl) rfl ?_
        refine hz_aload_n hO dX1_washBasket_38 rfl 1 rfl ?_
        refine hz_getR (k := 0) hO 1 hz_K_2 hz_sh_26 (hz_lt_26 hN) rfl (Nat.le_of_ble_eq_true rfl) tw_2_22 rfl dX1_washBasket_39 ?_
        refine hz_iload_n hO dX1_washBasket_42 rfl 0 rfl ?_
        obtain ⟨r16, M17, hq18, h⟩ := hz_ct_e h
        refine hz_callVi (as := [.int q14]) (rest := []) hO (c_X3_isPeg l w hN q14 hq18) hz_cal_X3_isPeg hz_K_4 hz_sh_1 (hz_lt_1 hN) tw_5_229 (Nat.le_of_ble_eq_true rfl) rfl rfl (Nat.le_of_ble_eq_true rfl) dX1_washBasket_43 ?_
        obtain ⟨k23, hk23, h⟩ := hz_jn_e h
        have gk23 : ∀ (v1_19 : Int32) (v2_20 : Int32) (M21 : hz_M), k23 v1_19 v2_20 M21 = some (rE, ME) → hz_G p l e 1 hz_z0 s m args below meth c w N 4 (MQ below (hz_Qi w N rE ME) args s 0 0 (hz_A w)) M21 71 [(0, .ref (hz_ad w 26)), (1, .int v1_19), (2, .int v2_20)] [] := by
          intro v1_19 v2_20 M21 h
          rw [hk23] at h
          dsimp only at h
          obtain ⟨x22, h_x22, h⟩ := hz_lt_e h
          refine hz_iinc (k := 2) (v := x22) (ls1 := [(2, .int x22), (0, .ref (hz_ad w 26)), (1, .int v1_19)]) hO dX1_washBasket_71 rfl (by rw [h_x22]; rfl) (Nat.le_of_ble_eq_true rfl) rfl ?_
          refine hz_goto (tgt := 4) hO dX1_washBasket_74 (by decide) ?_
          exact hz_ls [1, 2, 0] rfl (ih v1_19 x22 M21 h)
        clear hk23
        refine hz_if_eq (tgt := 71) hO dX1_washBasket_46 (by decide) (fun hc24 => ?_) (fun hc24 => ?_)
        · rw [if_pos hc24] at h
          exact hz_ls [1, 2, 3] rfl (gk23 v1_12 v2_13 M17 h)
        · rw [if_neg hc24] at h
          refine hz_aload_n hO dX1_washBasket_49 rfl 1 rfl ?_
          refine hz_getR (k := 1) hO 11 hz_K_2 hz_sh_26 (hz_lt_26 hN) rfl (Nat.le_of_ble_eq_true rfl) tw_2_23 rfl dX1_washBasket_50 ?_
          refine hz_getR (k := 9) hO 20 hz_K_7 hz_sh_11 (hz_lt_11 hN) rfl (Nat.le_of_ble_eq_true rfl) tw_1_176 rfl dX1_washBasket_53 ?_
          refine hz_iload_n hO dX1_washBasket_56 rfl 3 rfl ?_
          refine hz_iconst (v := (0 : Int32)) hO dX1_washBasket_57 (by decide) ?_
          obtain ⟨hg25, h⟩ := hz_gd_e h
          obtain ⟨M26, h_M26, h⟩ := hz_lm_e h
          refine hz_iast hO hz_sh_20 (hz_lt_20 hN) hg25 dX1_washBasket_58 ?_
          refine hz_nameM h_M26 ?_
          refine hz_aload_n hO dX1_washBasket_59 rfl 1 rfl ?_
          refine hz_getR (k := 1) hO 11 hz_K_2 hz_sh_26 (hz_lt_26 hN) rfl (Nat.le_of_ble_eq_true rfl) tw_2_23 rfl dX1_washBasket_60 ?_
          refine hz_iload_n hO dX1_washBasket_63 rfl 3 rfl ?_
          refine hz_iload_n hO dX1_washBasket_64 rfl 0 rfl ?_
          obtain ⟨r27, M28, hq29, h⟩ := hz_ct_e h
          refine hz_callVv (as := [.int v2_13, .int q14]) (rest := []) hO (c_X7_putOnPeg l w hN v2_13 q14 hq29) hz_cal_X7_putOnPeg hz_K_7 hz_sh_11 (hz_lt_11 hN) tw_5_205 (Nat.le_of_ble_eq_true rfl) rfl rfl (Nat.le_of_ble_eq_true rfl) dX1_washBasket_65 ?_
          obtain ⟨x30, h_x30, h⟩ := hz_lt_e h
          refine hz_iinc (k := 2) (v := x30) (ls1 := [(1, .int x30), (3, .int q14), (0, .ref (hz_ad w 26)), (2, .int v2_13)]) hO dX1_washBasket_68 rfl (by rw [h_x30]; rfl) (Nat.le_of_ble_eq_true rfl) rfl ?_
          exact hz_ls [2, 0, 3] rfl (gk23 x30 v2_13 M28 h)
      clear hk31
      refine hz_if_eq (tgt := 36) hO dX1_washBasket_23 (by decide) (fun hc32 => ?_) (fun hc32 => ?_)
      · rw [if_pos hc32] at h
        refine hz_iconst (v := (-1 : Int32)) hO dX1_washBasket_36 (by decide) ?_
        exact hz_ls [0, 1, 2] rfl (gk31 v1_5 v2_6 (-1 : Int32) M10 h)
      · rw [if_neg hc32] at h
        refine hz_aload_n hO dX1_washBasket_26 rfl 0 rfl ?_
        refine hz_getR (k := 1) hO 11 hz_K_2 hz_sh_26 (hz_lt_26 hN) rfl (Nat.le_of_ble_eq_true rfl) tw_2_23 rfl dX1_washBasket_27 ?_
        obtain ⟨r33, M34, hq35, h⟩ := hz_ct_e h
        refine hz_callVi (as := []) (rest := []) hO (c_X7_freePeg l w hN hq35) hz_cal_X7_freePeg hz_K_7 hz_sh_11 (hz_lt_11 hN) tw_5_225 (Nat.le_of_ble_eq_true rfl) rfl rfl (Nat.le_of_ble_eq_true rfl) dX1_washBasket_30 ?_
        refine hz_goto (tgt := 37) hO dX1_washBasket_33 (by decide) ?_
        exact hz_ls [0, 1, 2] rfl (gk31 v1_5 v2_6 r33 M34 h)
set_option maxRecDepth 100000 in
set_option maxHeartbeats 4000000 in
theorem c_X1_washBasket (l : Launch) (w : hz_C) {N : Nat} (hN : 178 ≤ N) {M : hz_M} {rE : Int32} {ME : hz_M} (h : f_X1_washBasket M = some (rE, ME)) : hz_Ct l yX1_washBasket cX1_washBasket 4 (some .int) 1 w N [.ref (hz_ad w 26)] M (hz_Qi w N rE ME) := by
  refine hz_ofW (by decide) rfl (Nat.le_of_ble_eq_true rfl) tw_5_223 ?_
  intro p e s m args below meth c hO
  show hz_G p l e 1 hz_z0 s m args below meth c w N 4 _ M 0 [(0, .ref (hz_ad w 26))] []
  unfold f_X1_washBasket at h
  refine hz_iconst (v := (0 : Int32)) hO dX1_washBasket_0 (by decide) ?_
  refine hz_istore_n (ls1 := [(1, .int (0 : Int32)), (0, .ref (hz_ad w 26))]) hO dX1_washBasket_1 rfl (Nat.le_of_ble_eq_true rfl) rfl ?_
  refine hz_iconst (v := (0 : Int32)) hO dX1_washBasket_2 (by decide) ?_
  refine hz_istore_n (ls1 := [(2, .int (0 : Int32)), (1, .int (0 : Int32)), (0, .ref (hz_ad w 26))]) hO dX1_washBasket_3 rfl (Nat.le_of_ble_eq_true rfl) rfl ?_
  obtain ⟨k4, hk4, h⟩ := hz_jn_e h
  have gk4 : ∀ (v1_1 : Int32) (M2 : hz_M), k4 v1_1 M2 = some (rE, ME) → hz_G p l e 1 hz_z0 s m args below meth c w N 4 (MQ below (hz_Qi w N rE ME) args s 0 0 (hz_A w)) M2 77 [(0, .ref (hz_ad w 26)), (1, .int v1_1)] [] := by
    intro v1_1 M2 h
    rw [hk4] at h
    dsimp only at h
    refine hz_aload_n hO dX1_washBasket_77 rfl 0 rfl ?_
    refine hz_getR (k := 1) hO 11 hz_K_2 hz_sh_26 (hz_lt_26 hN) rfl (Nat.le_of_ble_eq_true rfl) tw_2_23 rfl dX1_washBasket_78 ?_
    refine hz_getR (k := 13) hO 24 hz_K_7 hz_sh_11 (hz_lt_11 hN) rfl (Nat.le_of_ble_eq_true rfl) tw_1_187 rfl dX1_washBasket_81 ?_
    refine hz_iconst (v := (5 : Int32)) hO dX1_washBasket_84 (by decide) ?_
    refine hz_dup2 hO dX1_washBasket_85 rfl rfl ?_
    refine hz_iald hO hz_sh_24 (hz_lt_24 hN) (by decide) dX1_washBasket_86 ?_
    refine hz_iload_n hO dX1_washBasket_87 rfl 1 rfl ?_
    refine hz_iadd hO dX1_washBasket_88 ?_
    obtain ⟨M3, h_M3, h⟩ := hz_lm_e h
    refine hz_iast hO hz_sh_24 (hz_lt_24 hN) (by decide) dX1_washBasket_89 ?_
    refine hz_nameM h_M3 ?_
    refine hz_iload_n hO dX1_washBasket_90 rfl 1 rfl ?_
    exact hz_nameM (hz_some_e h).2.symm (hz_name (hz_some_e h).1.symm (hz_iret hO dX1_washBasket_91))
  clear hk4
  exact hz_ls [2, 1, 0] rfl (g_X1_washBasket_L4 hN hO _ gk4 _ (0 : Int32) (0 : Int32) M h)
def f_X2_record (M : hz_M) : hz_O :=
  hz_jn (fun (q1 : Int32) (M2 : hz_M) =>
    hz_lm (hz_set M2 32 3 q1) fun M3 =>
    hz_gd (hz_in (M3 32 3) 8) <|
    hz_ct (f_X7_copyFrom (hz_pa (M3 32 3)) 11 M3) fun r6 M7 =>
    hz_lm (hz_set M7 32 4 (if ((M7 32 4) + (1 : Int32)) < (8 : Int32) then ((M7 32 4) + (1 : Int32)) else (8 : Int32))) fun M9 =>
    some (0, M9)
    ) fun k10 =>
  if (8 : Int32) ≤ ((M 32 3) + (1 : Int32)) then
    k10 (0 : Int32) M
  else
    k10 ((M 32 3) + (1 : Int32)) M
set_option maxRecDepth 100000 in
set_option maxHeartbeats 4000000 in
theorem c_X2_record (l : Launch) (w : hz_C) {N : Nat} (hN : 178 ≤ N) {M : hz_M} {rE : Int32} {ME : hz_M} (h : f_X2_record M = some (rE, ME)) : hz_Ct l yX2_record cX2_record 3 none 4 w N [.ref (hz_ad w 32), .ref (hz_ad w 11)] M (hz_Qv w N ME) := by
  refine hz_ofW (by decide) rfl (Nat.le_of_ble_eq_true rfl) tw_5_173 ?_
  intro p e s m args below meth c hO
  show hz_G p l e 4 hz_z0 s m args below meth c w N 3 _ M 0 [(0, .ref (hz_ad w 32)), (1, .ref (hz_ad w 11))] []
  unfold f_X2_record at h
  refine hz_aload_n hO dX2_record_0 rfl 0 rfl ?_
  refine hz_aload_n hO dX2_record_1 rfl 0 rfl ?_
  refine hz_getI (k := 3) hO hz_K_3 hz_sh_32 (hz_lt_32 hN) rfl (Nat.le_of_ble_eq_true rfl) tw_2_80 rfl dX2_record_2 ?_
  refine hz_iconst (v := (1 : Int32)) hO dX2_record_5 (by decide) ?_
  refine hz_iadd hO dX2_record_6 ?_
  refine hz_bipush (v := (8 : Int32)) hO dX2_record_7 (by decide) ?_
  obtain ⟨k10, hk10, h⟩ := hz_jn_e h
  have gk10 : ∀ (q1 : Int32) (M2 : hz_M), k10 q1 M2 = some (rE, ME) → hz_G p l e 4 hz_z0 s m args below meth c w N 3 (MQ below (hz_Qv w N ME) args s 0 0 (hz_A w)) M2 22 [(0, .ref (hz_ad w 32)), (1, .ref (hz_ad w 11))] [.int q1, .ref (hz_ad w 32)] := by
    intro q1 M2 h
    rw [hk10] at h
    dsimp only at h
    obtain ⟨M3, h_M3, h⟩ := hz_lm_e h
    refine hz_putI (k := 3) (ty := .int) hO hz_K_3 tyX2_ok nmX2 hz_sh_32 (hz_lt_32 hN) rfl (Nat.le_of_ble_eq_true rfl) tw_2_80 rfl rfl rfl rfl rfl dX2_record_22 ?_
    refine hz_nameM h_M3 ?_
    refine hz_aload_n hO dX2_record_25 rfl 0 rfl ?_
    refine hz_getR (k := 0) hO 33 hz_K_3 hz_sh_32 (hz_lt_32 hN) rfl (Nat.le_of_ble_eq_true rfl) tw_2_77 rfl dX2_record_26 ?_
    refine hz_aload_n hO dX2_record_29 rfl 0 rfl ?_
    refine hz_getI (k := 3) hO hz_K_3 hz_sh_32 (hz_lt_32 hN) rfl (Nat.le_of_ble_eq_true rfl) tw_2_80 rfl dX2_record_30 ?_
    obtain ⟨hg4, h⟩ := hz_gd_e h
    have hB5 := hz_pa_sta hN hg4
    refine hz_raldq (j := hz_pa (M3 32 3)) hO hz_sh_33 (hz_lt_33 hN) hg4 (hz_pa_at hg4) dX2_record_33 ?_
    refine hz_astore_n (ls1 := [(2, .ref (hz_ad w (hz_pa (M3 32 3)))), (0, .ref (hz_ad w 32)), (1, .ref (hz_ad w 11))]) hO dX2_record_34 rfl (Nat.le_of_ble_eq_true rfl) rfl ?_
    refine hz_aload_n hO dX2_record_35 rfl 0 rfl ?_
    refine hz_ifnullP hO dX2_record_36 ?_
    refine hz_aload_n hO dX2_record_39 rfl 0 rfl ?_
    refine hz_aload_n hO dX2_record_40 rfl 2 rfl ?_
    obtain ⟨r6, M7, hq8, h⟩ := hz_ct_e h
    refine hz_callVv (as := [.ref (hz_ad w 11)]) (rest := []) hO (c_X7_copyFrom l w hN hB5 (hz_sta_11 hN) hq8) hz_cal_X7_copyFrom hz_K_7 hB5.1 hB5.2.1 tw_3_161 (Nat.le_of_ble_eq_true rfl) rfl rfl (Nat.le_of_ble_eq_true rfl) dX2_record_41 ?_
    refine hz_aload_n hO dX2_record_44 rfl 1 rfl ?_
    refine hz_bipush (v := (8 : Int32)) hO dX2_record_45 (by decide) ?_
    refine hz_aload_n hO dX2_record_47 rfl 1 rfl ?_
    refine hz_getI (k := 4) hO hz_K_3 hz_sh_32 (hz_lt_32 hN) rfl (Nat.le_of_ble_eq_true rfl) tw_2_81 rfl dX2_record_48 ?_
    refine hz_iconst (v := (1 : Int32)) hO dX2_record_51 (by decide) ?_
    refine hz_iadd hO dX2_record_52 ?_
    refine hz_mmin hO tw_5_174 (Nat.le_of_ble_eq_true rfl) (Nat.le_of_ble_eq_true rfl) dX2_record_53 ?_
    obtain ⟨M9, h_M9, h⟩ := hz_lm_e h
    refine hz_putI (k := 4) (ty := .int) hO hz_K_3 tyX2_ok nmX2 hz_sh_32 (hz_lt_32 hN) rfl (Nat.le_of_ble_eq_true rfl) tw_2_81 rfl rfl rfl rfl rfl dX2_record_56 ?_
    refine hz_nameM h_M9 ?_
    exact hz_nameM (hz_some_e h).2.symm (hz_vret hO dX2_record_59)
  clear hk10
  refine hz_icmp_ge (tgt := 21) hO dX2_record_9 (by decide) (fun hc11 => ?_) (fun hc11 => ?_)
  · rw [if_pos hc11] at h
    refine hz_iconst (v := (0 : Int32)) hO dX2_record_21 (by decide) ?_
    exact hz_ls [0, 1] rfl (gk10 (0 : Int32) M h)
  · rw [if_neg hc11] at h
    refine hz_aload_n hO dX2_record_12 rfl 0 rfl ?_
    refine hz_getI (k := 3) hO hz_K_3 hz_sh_32 (hz_lt_32 hN) rfl (Nat.le_of_ble_eq_true rfl) tw_2_80 rfl dX2_record_13 ?_
    refine hz_iconst (v := (1 : Int32)) hO dX2_record_16 (by decide) ?_
    refine hz_iadd hO dX2_record_17 ?_
    refine hz_goto (tgt := 22) hO dX2_record_18 (by decide) ?_
    exact hz_ls [0, 1] rfl (gk10 ((M 32 3) + (1 : Int32)) M h)
def f_X2_stepBack (M : hz_M) : hz_O :=
  hz_gd (hz_in (M 32 3) 8) <|
  if (M 32 4) = 0 then
    some ((-1 : Int32), M)
  else
    hz_ct (f_X7_copyFrom 11 (hz_pa (M 32 3)) M) fun r4 M5 =>
    hz_jn (fun (q7 : Int32) (M8 : hz_M) =>
      hz_lm (hz_set M8 32 3 q7) fun M9 =>
      hz_lm (hz_set M9 32 4 ((M9 32 4) - (1 : Int32))) fun M10 =>
      some ((M10 32 4), M10)
      ) fun k11 =>
    if (M5 32 3) ≤ 0 then
      k11 (7 : Int32) M5
    else
      k11 ((M5 32 3) - (1 : Int32)) M5
set_option maxRecDepth 100000 in
set_option maxHeartbeats 4000000 in
theorem c_X2_stepBack (l : Launch) (w : hz_C) {N : Nat} (hN : 178 ≤ N) {M : hz_M} {rE : Int32} {ME : hz_M} (h : f_X2_stepBack M = some (rE, ME)) : hz_Ct l yX2_stepBack cX2_stepBack 3 (some .int) 4 w N [.ref (hz_ad w 32), .ref (hz_ad w 11)] M (hz_Qi w N rE ME) := by
  refine hz_ofW (by decide) rfl (Nat.le_of_ble_eq_true rfl) tw_3_160 ?_
  intro p e s m args below meth c hO
  show hz_G p l e 4 hz_z0 s m args below meth c w N 3 _ M 0 [(0, .ref (hz_ad w 32)), (1, .ref (hz_ad w 11))] []
  unfold f_X2_stepBack at h
  refine hz_aload_n hO dX2_stepBack_0 rfl 0 rfl ?_
  refine hz_getR (k := 0) hO 33 hz_K_3 hz_sh_32 (hz_lt_32 hN) rfl (Nat.le_of_ble_eq_true rfl) tw_2_77 rfl dX2_stepBack_1 ?_
  refine hz_aload_n hO dX2_stepBack_4 rfl 0 rfl ?_
  refine hz_getI (k := 3) hO hz_K_3 hz_sh_32 (hz_lt_32 hN) rfl (Nat.le_of_ble_eq_true rfl) tw_2_80 rfl dX2_stepBack_5 ?_
  obtain ⟨hg1, h⟩ := hz_gd_e h
  have hB2 := hz_pa_sta hN hg1
  refine hz_raldq (j := hz_pa (M 32 3)) hO hz_sh_33 (hz_lt_33 hN) hg1 (hz_pa_at hg1) dX2_stepBack_8 ?_
  refine hz_astore_n (ls1 := [(2, .ref (hz_ad w (hz_pa (M 32 3)))), (0, .ref (hz_ad w 32)), (1, .ref (hz_ad w 11))]) hO dX2_stepBack_9 rfl (Nat.le_of_ble_eq_true rfl) rfl ?_
  refine hz_aload_n hO dX2_stepBack_10 rfl 1 rfl ?_
  refine hz_getI (k := 4) hO hz_K_3 hz_sh_32 (hz_lt_32 hN) rfl (Nat.le_of_ble_eq_true rfl) tw_2_81 rfl dX2_stepBack_11 ?_
  refine hz_if_eq (tgt := 21) hO dX2_stepBack_14 (by decide) (fun hc3 => ?_) (fun hc3 => ?_)
  · rw [if_pos hc3] at h
    refine hz_iconst (v := (-1 : Int32)) hO dX2_stepBack_21 (by decide) ?_
    exact hz_nameM (hz_some_e h).2.symm (hz_name (hz_some_e h).1.symm (hz_iret hO dX2_stepBack_22))
  · rw [if_neg hc3] at h
    refine hz_aload_n hO dX2_stepBack_17 rfl 0 rfl ?_
    refine hz_ifnonnullP (tgt := 23) hO dX2_stepBack_18 (by decide) ?_
    refine hz_aload_n hO dX2_stepBack_23 rfl 2 rfl ?_
    refine hz_aload_n hO dX2_stepBack_24 rfl 0 rfl ?_
    obtain ⟨r4, M5, hq6, h⟩ := hz_ct_e h
    refine hz_callVv (as := [.ref (hz_ad w (hz_pa (M 32 3)))]) (rest := []) hO (c_X7_copyFrom l w hN (hz_sta_11 hN) hB2 hq6) hz_cal_X7_copyFrom hz_K_7 hz_sh_11 (hz_lt_11 hN) tw_3_161 (Nat.le_of_ble_eq_true rfl) rfl rfl (Nat.le_of_ble_eq_true rfl) dX2_stepBack_25 ?_
    refine hz_aload_n hO dX2_stepBack_28 rfl 1 rfl ?_
    refine hz_aload_n hO dX2_stepBack_29 rfl 1 rfl ?_
    refine hz_getI (k := 3) hO hz_K_3 hz_sh_32 (hz_lt_32 hN) rfl (Nat.le_of_ble_eq_true rfl) tw_2_80 rfl dX2_stepBack_30 ?_
    obtain ⟨k11, hk11, h⟩ := hz_jn_e h
    have gk11 : ∀ (q7 : Int32) (M8 : hz_M), k11 q7 M8 = some (rE, ME) → hz_G p l e 4 hz_z0 s m args below meth c w N 3 (MQ below (hz_Qi w N rE ME) args s 0 0 (hz_A w)) M8 47 [(0, .ref (hz_ad w 32))] [.int q7, .ref (hz_ad w 32)] := by
      intro q7 M8 h
      rw [hk11] at h
      dsimp only at h
      obtain ⟨M9, h_M9, h⟩ := hz_lm_e h
      refine hz_putI (k := 3) (ty := .int) hO hz_K_3 tyX2_ok nmX2 hz_sh_32 (hz_lt_32 hN) rfl (Nat.le_of_ble_eq_true rfl) tw_2_80 rfl rfl rfl rfl rfl dX2_stepBack_47 ?_
      refine hz_nameM h_M9 ?_
      refine hz_aload_n hO dX2_stepBack_50 rfl 0 rfl ?_
      refine hz_dup hO dX2_stepBack_51 rfl ?_
      refine hz_getI (k := 4) hO hz_K_3 hz_sh_32 (hz_lt_32 hN) rfl (Nat.le_of_ble_eq_true rfl) tw_2_81 rfl dX2_stepBack_52 ?_
      refine hz_iconst (v := (1 : Int32)) hO dX2_stepBack_55 (by decide) ?_
      refine hz_isub hO dX2_stepBack_56 ?_
      obtain ⟨M10, h_M10, h⟩ := hz_lm_e h
      refine hz_putI (k := 4) (ty := .int) hO hz_K_3 tyX2_ok nmX2 hz_sh_32 (hz_lt_32 hN) rfl (Nat.le_of_ble_eq_true rfl) tw_2_81 rfl rfl rfl rfl rfl dX2_stepBack_57 ?_
      refine hz_nameM h_M10 ?_
      refine hz_aload_n hO dX2_stepBack_60 rfl 0 rfl ?_
      refine hz_getI (k := 4) hO hz_K_3 hz_sh_32 (hz_lt_32 hN) rfl (Nat.le_of_ble_eq_true rfl) tw_2_81 rfl dX2_stepBack_61 ?_
      exact hz_nameM (hz_some_e h).2.symm (hz_name (hz_some_e h).1.symm (hz_iret hO dX2_stepBack_64))
    clear hk11
    refine hz_if_le (tgt := 45) hO dX2_stepBack_33 (by decide) (fun hc12 => ?_) (fun hc12 => ?_)
    · rw [if_pos hc12] at h
      refine hz_bipush (v := (7 : Int32)) hO dX2_stepBack_45 (by decide) ?_
      exact hz_ls [1] rfl (gk11 (7 : Int32) M5 h)
    · rw [if_neg hc12] at h
      refine hz_aload_n hO dX2_stepBack_36 rfl 1 rfl ?_
      refine hz_getI (k := 3) hO hz_K_3 hz_sh_32 (hz_lt_32 hN) rfl (Nat.le_of_ble_eq_true rfl) tw_2_80 rfl dX2_stepBack_37 ?_
      refine hz_iconst (v := (1 : Int32)) hO dX2_stepBack_40 (by decide) ?_
      refine hz_isub hO dX2_stepBack_41 ?_
      refine hz_goto (tgt := 47) hO dX2_stepBack_42 (by decide) ?_
      exact hz_ls [1] rfl (gk11 ((M5 32 3) - (1 : Int32)) M5 h)
def f_X3_keepName_L27 (th : Nat) : Nat → Int32 → Int32 → hz_M → hz_O
  | 0, _, _, _ => none
  | n + 1, v2_4, v3_5, M6 =>
    if v2_4 ≤ v3_5 then
      some (0, M6)
    else
      hz_ct (f_X8_byteAt ((M6 9 3) + v3_5) M6) fun r8 M9 =>
      hz_gd (hz_in (((M6 th 3) * (6 : Int32)) + v3_5) 96) <|
      hz_lm (hz_set M9 (th + 2) (Int32.toNatClampNeg (((M6 th 3) * (6 : Int32)) + v3_5)) r8) fun M12 =>
      hz_lt (v3_5 + (1 : Int32)) fun x13 =>
      f_X3_keepName_L27 th n v2_4 x13 M12
def f_X3_keepName (th : Nat) (M : hz_M) : hz_O :=
  hz_lt ((if (6 : Int32) < ((M 9 4) - (M 9 3)) then (6 : Int32) else ((M 9 4) - (M 9 3)))) fun x1 =>
  hz_gd (hz_in (M th 3) 16) <|
  hz_lm (hz_set M (th + 3) (Int32.toNatClampNeg (M th 3)) x1) fun M3 =>
  f_X3_keepName_L27 th hz_FU x1 (0 : Int32) M3
set_option maxRecDepth 100000 in
set_option maxHeartbeats 4000000 in
theorem g_X3_keepName_L27 {p : Program} {l : Launch} {e : Env} {s : State} {m : MethodId} {args : Array Value} {below : List Frame} {meth : Method} {c : Code} {w : hz_C} {N : Nat} (hN : 178 ≤ N) {th : Nat} (hHo : hz_Ho N th) {rE : Int32} {ME : hz_M} (hO : hz_Ok p s m args meth c w cX3_keepName 4 RX3 none) : ∀ (n : Nat) (v2_4 : Int32) (v3_5 : Int32) (M6 : hz_M), f_X3_keepName_L27 th n v2_4 v3_5 M6 = some (rE, ME) → hz_G p l e 1 hz_z0 s m args below meth c w N 4 (MQ below (hz_Qv w N ME) args s 0 0 (hz_A w)) M6 27 [(0, .ref (hz_ad w th)), (1, .ref (hz_ad w 9)), (2, .int v2_4), (3, .int v3_5)] [] := by
  intro n
  induction n with
  | zero =>
    intro v2_4 v3_5 M6 h
    rw [f_X3_keepName_L27] at h
    cases h
  | succ n ih =>
    intro v2_4 v3_5 M6 h
    rw [f_X3_keepName_L27] at h
    refine hz_iload_n hO dX3_keepName_27 rfl 3 rfl ?_
    refine hz_iload_n hO dX3_keepName_28 rfl 2 rfl ?_
    refine hz_icmp_ge (tgt := 62) hO dX3_keepName_29 (by decide) (fun hc7 => ?_) (fun hc7 => ?_)
    · rw [if_pos hc7] at h
      exact hz_nameM (hz_some_e h).2.symm (hz_vret hO dX3_keepName_62)
    · rw [if_neg hc7] at h
      refine hz_aload_n hO dX3_keepName_32 rfl 0 rfl ?_
      refine hz_getR (k := 1) hO (th + 2) hz_K_4 hHo.1 hHo.2.1 rfl (Nat.le_of_ble_eq_true rfl) tw_1_49 rfl dX3_keepName_33 ?_
      refine hz_aload_n hO dX3_keepName_36 rfl 0 rfl ?_
      refine hz_getI (k := 3) hO hz_K_4 hHo.1 hHo.2.1 rfl (Nat.le_of_ble_eq_true rfl) tw_1_51 rfl dX3_keepName_37 ?_
      refine hz_bipush (v := (6 : Int32)) hO dX3_keepName_40 (by decide) ?_
      refine hz_imul hO dX3_keepName_42 ?_
      refine hz_iload_n hO dX3_keepName_43 rfl 3 rfl ?_
      refine hz_iadd hO dX3_keepName_44 ?_
      refine hz_aload_n hO dX3_keepName_45 rfl 1 rfl ?_
      refine hz_aload_n hO dX3_keepName_46 rfl 1 rfl ?_
      refine hz_getI (k := 3) hO hz_K_8 hz_sh_9 (hz_lt_9 hN) rfl (Nat.le_of_ble_eq_true rfl) tw_1_113 rfl dX3_keepName_47 ?_
      refine hz_iload_n hO dX3_keepName_50 rfl 3 rfl ?_
      refine hz_iadd hO dX3_keepName_51 ?_
      obtain ⟨r8, M9, hq10, h⟩ := hz_ct_e h
      refine hz_callVi (as := [.int ((M6 9 3) + v3_5)]) (rest := [.int (((M6 th 3) * (6 : Int32)) + v3_5), .ref (hz_ad w (th + 2))]) hO (c_X8_byteAt l w hN ((M6 9 3) + v3_5) hq10) hz_cal_X8_byteAt hz_K_8 hz_sh_9 (hz_lt_9 hN) tw_3_2 (Nat.le_of_ble_eq_true rfl) rfl rfl (Nat.le_of_ble_eq_true rfl) dX3_keepName_52 ?_
      obtain ⟨hg11, h⟩ := hz_gd_e h
      obtain ⟨M12, h_M12, h⟩ := hz_lm_e h
      refine hz_iast hO hHo.2.2.2.2.1 hHo.2.2.2.2.2.1 hg11 dX3_keepName_55 ?_
      refine hz_nameM h_M12 ?_
      obtain ⟨x13, h_x13, h⟩ := hz_lt_e h
      refine hz_iinc (k := 3) (v := x13) (ls1 := [(3, .int x13), (0, .ref (hz_ad w th)), (1, .ref (hz_ad w 9)), (2, .int v2_4)]) hO dX3_keepName_56 rfl (by rw [h_x13]; rfl) (Nat.le_of_ble_eq_true rfl) rfl ?_
      refine hz_goto (tgt := 27) hO dX3_keepName_59 (by decide) ?_
      exact hz_ls [1, 2, 3, 0] rfl (ih v2_4 x13 M12 h)
set_option maxRecDepth 100000 in
set_option maxHeartbeats 4000000 in
theorem c_X3_keepName (l : Launch) (w : hz_C) {N : Nat} (hN : 178 ≤ N) {th : Nat} (hHo : hz_Ho N th) {M : hz_M} {rE : Int32} {ME : hz_M} (h : f_X3_keepName th M = some (rE, ME)) : hz_Ct l yX3_keepName cX3_keepName 4 none 1 w N [.ref (hz_ad w th), .ref (hz_ad w 9)] M (hz_Qv w N ME) := by
  refine hz_ofW (by decide) rfl (Nat.le_of_ble_eq_true rfl) tw_3_6 ?_
  intro p e s m args below meth c hO
  show hz_G p l e 1 hz_z0 s m args below meth c w N 4 _ M 0 [(0, .ref (hz_ad w th)), (1, .ref (hz_ad w 9))] []
  unfold f_X3_keepName at h
  refine hz_aload_n hO dX3_keepName_0 rfl 1 rfl ?_
  refine hz_getI (k := 4) hO hz_K_8 hz_sh_9 (hz_lt_9 hN) rfl (Nat.le_of_ble_eq_true rfl) tw_1_115 rfl dX3_keepName_1 ?_
  refine hz_aload_n hO dX3_keepName_4 rfl 1 rfl ?_
  refine hz_getI (k := 3) hO hz_K_8 hz_sh_9 (hz_lt_9 hN) rfl (Nat.le_of_ble_eq_true rfl) tw_1_113 rfl dX3_keepName_5 ?_
  refine hz_isub hO dX3_keepName_8 ?_
  refine hz_bipush (v := (6 : Int32)) hO dX3_keepName_9 (by decide) ?_
  refine hz_mmin hO tw_3_7 (Nat.le_of_ble_eq_true rfl) (Nat.le_of_ble_eq_true rfl) dX3_keepName_11 ?_
  obtain ⟨x1, h_x1, h⟩ := hz_lt_e h
  refine hz_name h_x1 ?_
  refine hz_istore_n (ls1 := [(2, .int x1), (0, .ref (hz_ad w th)), (1, .ref (hz_ad w 9))]) hO dX3_keepName_14 rfl (Nat.le_of_ble_eq_true rfl) rfl ?_
  refine hz_aload_n hO dX3_keepName_15 rfl 1 rfl ?_
  refine hz_getR (k := 2) hO (th + 3) hz_K_4 hHo.1 hHo.2.1 rfl (Nat.le_of_ble_eq_true rfl) tw_1_50 rfl dX3_keepName_16 ?_
  refine hz_aload_n hO dX3_keepName_19 rfl 1 rfl ?_
  refine hz_getI (k := 3) hO hz_K_4 hHo.1 hHo.2.1 rfl (Nat.le_of_ble_eq_true rfl) tw_1_51 rfl dX3_keepName_20 ?_
  refine hz_iload_n hO dX3_keepName_23 rfl 0 rfl ?_
  obtain ⟨hg2, h⟩ := hz_gd_e h
  obtain ⟨M3, h_M3, h⟩ := hz_lm_e h
  refine hz_iast hO hHo.2.2.2.2.2.2.1 hHo.2.2.2.2.2.2.2 hg2 dX3_keepName_24 ?_
  refine hz_nameM h_M3 ?_
  refine hz_iconst (v := (0 : Int32)) hO dX3_keepName_25 (by decide) ?_
  refine hz_istore_n (ls1 := [(3, .int (0 : Int32)), (2, .int x1), (0, .ref (hz_ad w th)), (1, .ref (hz_ad w 9))]) hO dX3_keepName_26 rfl (Nat.le_of_ble_eq_true rfl) rfl ?_
  exact hz_ls [2, 3, 1, 0] rfl (g_X3_keepName_L27 hN hHo hO _ x1 (0 : Int32) M3 h)
def f_X3_isNameAt_L3 (th : Nat) : Nat → Int32 → Int32 → Int32 → hz_M → hz_O
  | 0, _, _, _, _ => none
  | n + 1, v1_1, v3_2, v4_3, M4 =>
    hz_gd (hz_in v1_1 16) <|
    if (M4 (th + 3) (Int32.toNatClampNeg v1_1)) ≤ v4_3 then
      some ((1 : Int32), M4)
    else
      hz_gd (hz_in ((v1_1 * (6 : Int32)) + v4_3) 96) <|
      hz_ct (f_X8_byteAt (v3_2 + v4_3) M4) fun r8 M9 =>
      if (M4 (th + 2) (Int32.toNatClampNeg ((v1_1 * (6 : Int32)) + v4_3))) = r8 then
        hz_lt (v4_3 + (1 : Int32)) fun x12 =>
        f_X3_isNameAt_L3 th n v1_1 v3_2 x12 M9
      else
        some ((0 : Int32), M9)
def f_X3_isNameAt (th : Nat) (a1 : Int32) (a3 : Int32) (M : hz_M) : hz_O :=
  f_X3_isNameAt_L3 th hz_FU a1 a3 (0 : Int32) M
set_option maxRecDepth 100000 in
set_option maxHeartbeats 4000000 in
theorem g_X3_isNameAt_L3 {p : Program} {l : Launch} {e : Env} {s : State} {m : MethodId} {args : Array Value} {below : List Frame} {meth : Method} {c : Code} {w : hz_C} {N : Nat} (hN : 178 ≤ N) {th : Nat} (hHo : hz_Ho N th) {rE : Int32} {ME : hz_M} (hO : hz_Ok p s m args meth c w cX3_isNameAt 5 RX3 (some .boolean)) : ∀ (n : Nat) (v1_1 : Int32) (v3_2 : Int32) (v4_3 : Int32) (M4 : hz_M), f_X3_isNameAt_L3 th n v1_1 v3_2 v4_3 M4 = some (rE, ME) → hz_G p l e 1 hz_z0 s m args below meth c w N 5 (MQ below (hz_Qi w N rE ME) args s 0 0 (hz_A w)) M4 3 [(0, .ref (hz_ad w th)), (1, .int v1_1), (2, .ref (hz_ad w 9)), (3, .int v3_2), (4, .int v4_3)] [] := by
  intro n
  induction n with
  | zero =>
    intro v1_1 v3_2 v4_3 M4 h
    rw [f_X3_isNameAt_L3] at h
    cases h
  | succ n ih =>
    intro v1_1 v3_2 v4_3 M4 h
    rw [f_X3_isNameAt_L3] at h
    refine hz_iload hO dX3_isNameAt_3 4 rfl ?_
    refine hz_aload_n hO dX3_isNameAt_5 rfl 0 rfl ?_
    refine hz_getR (k := 2) hO (th + 3) hz_K_4 hHo.1 hHo.2.1 rfl (Nat.le_of_ble_eq_true rfl) tw_1_50 rfl dX3_isNameAt_6 ?_
    refine hz_iload_n hO dX3_isNameAt_9 rfl 1 rfl ?_
    obtain ⟨hg5, h⟩ := hz_gd_e h
    refine hz_iald hO hHo.2.2.2.2.2.2.1 hHo.2.2.2.2.2.2.2 hg5 dX3_isNameAt_10 ?_
    refine hz_icmp_ge (tgt := 45) hO dX3_isNameAt_11 (by decide) (fun hc6 => ?_) (fun hc6 => ?_)
    · rw [if_pos hc6] at h
      refine hz_iconst (v := (1 : Int32)) hO dX3_isNameAt_45 (by decide) ?_
      exact hz_nameM (hz_some_e h).2.symm (hz_name (hz_some_e h).1.symm (hz_zret hO (by rw [← (hz_some_e h).1]; decide) dX3_isNameAt_46))
    · rw [if_neg hc6] at h
      refine hz_aload_n hO dX3_isNameAt_14 rfl 0 rfl ?_
      refine hz_getR (k := 1) hO (th + 2) hz_K_4 hHo.1 hHo.2.1 rfl (Nat.le_of_ble_eq_true rfl) tw_1_49 rfl dX3_isNameAt_15 ?_
      refine hz_iload_n hO dX3_isNameAt_18 rfl 1 rfl ?_
      refine hz_bipush (v := (6 : Int32)) hO dX3_isNameAt_19 (by decide) ?_
      refine hz_imul hO dX3_isNameAt_21 ?_
      refine hz_iload hO dX3_isNameAt_22 4 rfl ?_
      refine hz_iadd hO dX3_isNameAt_24 ?_
      obtain ⟨hg7, h⟩ := hz_gd_e h
      refine hz_iald hO hHo.2.2.2.2.1 hHo.2.2.2.2.2.1 hg7 dX3_isNameAt_25 ?_
      refine hz_aload_n hO dX3_isNameAt_26 rfl 2 rfl ?_
      refine hz_iload_n hO dX3_isNameAt_27 rfl 3 rfl ?_
      refine hz_iload hO dX3_isNameAt_28 4 rfl ?_
      refine hz_iadd hO dX3_isNameAt_30 ?_
      obtain ⟨r8, M9, hq10, h⟩ := hz_ct_e h
      refine hz_callVi (as := [.int (v3_2 + v4_3)]) (rest := [.int (M4 (th + 2) (Int32.toNatClampNeg ((v1_1 * (6 : Int32)) + v4_3)))]) hO (c_X8_byteAt l w hN (v3_2 + v4_3) hq10) hz_cal_X8_byteAt hz_K_8 hz_sh_9 (hz_lt_9 hN) tw_3_2 (Nat.le_of_ble_eq_true rfl) rfl rfl (Nat.le_of_ble_eq_true rfl) dX3_isNameAt_31 ?_
      refine hz_icmp_eq (tgt := 39) hO dX3_isNameAt_34 (by decide) (fun hc11 => ?_) (fun hc11 => ?_)
      · rw [if_pos hc11] at h
        obtain ⟨x12, h_x12, h⟩ := hz_lt_e h
        refine hz_iinc (k := 4) (v := x12) (ls1 := [(4, .int x12), (0, .ref (hz_ad w th)), (1, .int v1_1), (2, .ref (hz_ad w 9)), (3, .int v3_2)]) hO dX3_isNameAt_39 rfl (by rw [h_x12]; rfl) (Nat.le_of_ble_eq_true rfl) rfl ?_
        refine hz_goto (tgt := 3) hO dX3_isNameAt_42 (by decide) ?_
        exact hz_ls [1, 2, 3, 4, 0] rfl (ih v1_1 v3_2 x12 M9 h)
      · rw [if_neg hc11] at h
        refine hz_iconst (v := (0 : Int32)) hO dX3_isNameAt_37 (by decide) ?_
        exact hz_nameM (hz_some_e h).2.symm (hz_name (hz_some_e h).1.symm (hz_zret hO (by rw [← (hz_some_e h).1]; decide) dX3_isNameAt_38))
set_option maxRecDepth 100000 in
set_option maxHeartbeats 4000000 in
theorem c_X3_isNameAt (l : Launch) (w : hz_C) {N : Nat} (hN : 178 ≤ N) {th : Nat} (hHo : hz_Ho N th) (a1 : Int32) (a3 : Int32) {M : hz_M} {rE : Int32} {ME : hz_M} (h : f_X3_isNameAt th a1 a3 M = some (rE, ME)) : hz_Ct l yX3_isNameAt cX3_isNameAt 5 (some .boolean) 1 w N [.ref (hz_ad w th), .int a1, .ref (hz_ad w 9), .int a3] M (hz_Qi w N rE ME) := by
  refine hz_ofW (by decide) rfl (Nat.le_of_ble_eq_true rfl) tw_3_1 ?_
  intro p e s m args below meth c hO
  show hz_G p l e 1 hz_z0 s m args below meth c w N 5 _ M 0 [(0, .ref (hz_ad w th)), (1, .int a1), (2, .ref (hz_ad w 9)), (3, .int a3)] []
  unfold f_X3_isNameAt at h
  refine hz_iconst (v := (0 : Int32)) hO dX3_isNameAt_0 (by decide) ?_
  refine hz_istore (ls1 := [(4, .int (0 : Int32)), (0, .ref (hz_ad w th)), (1, .int a1), (2, .ref (hz_ad w 9)), (3, .int a3)]) hO dX3_isNameAt_1 (Nat.le_of_ble_eq_true rfl) rfl ?_
  exact hz_ls [1, 2, 3, 4, 0] rfl (g_X3_isNameAt_L3 hN hHo hO _ a1 a3 (0 : Int32) M h)
