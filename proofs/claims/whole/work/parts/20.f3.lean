-- X3_isGuest X3_isLocker X3_isPeg X3_isTowel X3_isValve X3_isStep X3_bears X3_ageFor X3_highestByAge X8_clear X8_bytesIn X8_put X8_byteAt X8_isBlank X8_isLetter X8_isDigit X8_isSign X8_fail X8_checkName X3_keepName X3_isNameAt X3_letterOf X8_append X8_advance X8_goOnIf X8_needNumber X3_guestNamed X8_rewind X8_needSign X8_needEnd
def f_X3_isGuest (a1 : Int32) (M : hz_M) : hz_O :=
  if a1 < 0 then
    some ((0 : Int32), M)
  else
    if (M 1 3) ≤ a1 then
      some ((0 : Int32), M)
    else
      some ((1 : Int32), M)
set_option maxRecDepth 100000 in
set_option maxHeartbeats 4000000 in
theorem c_X3_isGuest (l : Launch) (w : hz_C) {N : Nat} (hN : 178 ≤ N) (a1 : Int32) {M : hz_M} {rE : Int32} {ME : hz_M} (h : f_X3_isGuest a1 M = some (rE, ME)) : hz_Ct l yX3_isGuest cX3_isGuest 2 (some .boolean) 0 w N [.ref (hz_ad w 1), .int a1] M (hz_Qi w N rE ME) := by
  refine hz_ofW (by decide) rfl (Nat.le_of_ble_eq_true rfl) tw_3_187 ?_
  intro p e s m args below meth c hO
  show hz_G p l e 0 hz_z0 s m args below meth c w N 2 _ M 0 [(0, .ref (hz_ad w 1)), (1, .int a1)] []
  unfold f_X3_isGuest at h
  refine hz_iload_n hO dX3_isGuest_0 rfl 1 rfl ?_
  refine hz_if_lt (tgt := 16) hO dX3_isGuest_1 (by decide) (fun hc1 => ?_) (fun hc1 => ?_)
  · rw [if_pos hc1] at h
    refine hz_iconst (v := (0 : Int32)) hO dX3_isGuest_16 (by decide) ?_
    exact hz_nameM (hz_some_e h).2.symm (hz_name (hz_some_e h).1.symm (hz_zret hO (by rw [← (hz_some_e h).1]; decide) dX3_isGuest_17))
  · rw [if_neg hc1] at h
    refine hz_iload_n hO dX3_isGuest_4 rfl 1 rfl ?_
    refine hz_aload_n hO dX3_isGuest_5 rfl 0 rfl ?_
    refine hz_getI (k := 3) hO hz_K_2 hz_sh_1 (hz_lt_1 hN) rfl (Nat.le_of_ble_eq_true rfl) tw_1_49 rfl dX3_isGuest_6 ?_
    refine hz_icmp_ge (tgt := 16) hO dX3_isGuest_9 (by decide) (fun hc2 => ?_) (fun hc2 => ?_)
    · rw [if_pos hc2] at h
      refine hz_iconst (v := (0 : Int32)) hO dX3_isGuest_16 (by decide) ?_
      exact hz_nameM (hz_some_e h).2.symm (hz_name (hz_some_e h).1.symm (hz_zret hO (by rw [← (hz_some_e h).1]; decide) dX3_isGuest_17))
    · rw [if_neg hc2] at h
      refine hz_iconst (v := (1 : Int32)) hO dX3_isGuest_12 (by decide) ?_
      refine hz_goto (tgt := 17) hO dX3_isGuest_13 (by decide) ?_
      exact hz_nameM (hz_some_e h).2.symm (hz_name (hz_some_e h).1.symm (hz_zret hO (by rw [← (hz_some_e h).1]; decide) dX3_isGuest_17))
def f_X3_isLocker (a1 : Int32) (M : hz_M) : hz_O :=
  if a1 < 0 then
    some ((0 : Int32), M)
  else
    if (M 1 4) ≤ a1 then
      some ((0 : Int32), M)
    else
      some ((1 : Int32), M)
set_option maxRecDepth 100000 in
set_option maxHeartbeats 4000000 in
theorem c_X3_isLocker (l : Launch) (w : hz_C) {N : Nat} (hN : 178 ≤ N) (a1 : Int32) {M : hz_M} {rE : Int32} {ME : hz_M} (h : f_X3_isLocker a1 M = some (rE, ME)) : hz_Ct l yX3_isLocker cX3_isLocker 2 (some .boolean) 0 w N [.ref (hz_ad w 1), .int a1] M (hz_Qi w N rE ME) := by
  refine hz_ofW (by decide) rfl (Nat.le_of_ble_eq_true rfl) tw_4_31 ?_
  intro p e s m args below meth c hO
  show hz_G p l e 0 hz_z0 s m args below meth c w N 2 _ M 0 [(0, .ref (hz_ad w 1)), (1, .int a1)] []
  unfold f_X3_isLocker at h
  refine hz_iload_n hO dX3_isLocker_0 rfl 1 rfl ?_
  refine hz_if_lt (tgt := 16) hO dX3_isLocker_1 (by decide) (fun hc1 => ?_) (fun hc1 => ?_)
  · rw [if_pos hc1] at h
    refine hz_iconst (v := (0 : Int32)) hO dX3_isLocker_16 (by decide) ?_
    exact hz_nameM (hz_some_e h).2.symm (hz_name (hz_some_e h).1.symm (hz_zret hO (by rw [← (hz_some_e h).1]; decide) dX3_isLocker_17))
  · rw [if_neg hc1] at h
    refine hz_iload_n hO dX3_isLocker_4 rfl 1 rfl ?_
    refine hz_aload_n hO dX3_isLocker_5 rfl 0 rfl ?_
    refine hz_getI (k := 4) hO hz_K_2 hz_sh_1 (hz_lt_1 hN) rfl (Nat.le_of_ble_eq_true rfl) tw_1_53 rfl dX3_isLocker_6 ?_
    refine hz_icmp_ge (tgt := 16) hO dX3_isLocker_9 (by decide) (fun hc2 => ?_) (fun hc2 => ?_)
    · rw [if_pos hc2] at h
      refine hz_iconst (v := (0 : Int32)) hO dX3_isLocker_16 (by decide) ?_
      exact hz_nameM (hz_some_e h).2.symm (hz_name (hz_some_e h).1.symm (hz_zret hO (by rw [← (hz_some_e h).1]; decide) dX3_isLocker_17))
    · rw [if_neg hc2] at h
      refine hz_iconst (v := (1 : Int32)) hO dX3_isLocker_12 (by decide) ?_
      refine hz_goto (tgt := 17) hO dX3_isLocker_13 (by decide) ?_
      exact hz_nameM (hz_some_e h).2.symm (hz_name (hz_some_e h).1.symm (hz_zret hO (by rw [← (hz_some_e h).1]; decide) dX3_isLocker_17))
def f_X3_isPeg (a1 : Int32) (M : hz_M) : hz_O :=
  if a1 < 0 then
    some ((0 : Int32), M)
  else
    if (M 1 5) ≤ a1 then
      some ((0 : Int32), M)
    else
      some ((1 : Int32), M)
set_option maxRecDepth 100000 in
set_option maxHeartbeats 4000000 in
theorem c_X3_isPeg (l : Launch) (w : hz_C) {N : Nat} (hN : 178 ≤ N) (a1 : Int32) {M : hz_M} {rE : Int32} {ME : hz_M} (h : f_X3_isPeg a1 M = some (rE, ME)) : hz_Ct l yX3_isPeg cX3_isPeg 2 (some .boolean) 0 w N [.ref (hz_ad w 1), .int a1] M (hz_Qi w N rE ME) := by
  refine hz_ofW (by decide) rfl (Nat.le_of_ble_eq_true rfl) tw_3_201 ?_
  intro p e s m args below meth c hO
  show hz_G p l e 0 hz_z0 s m args below meth c w N 2 _ M 0 [(0, .ref (hz_ad w 1)), (1, .int a1)] []
  unfold f_X3_isPeg at h
  refine hz_iload_n hO dX3_isPeg_0 rfl 1 rfl ?_
  refine hz_if_lt (tgt := 16) hO dX3_isPeg_1 (by decide) (fun hc1 => ?_) (fun hc1 => ?_)
  · rw [if_pos hc1] at h
    refine hz_iconst (v := (0 : Int32)) hO dX3_isPeg_16 (by decide) ?_
    exact hz_nameM (hz_some_e h).2.symm (hz_name (hz_some_e h).1.symm (hz_zret hO (by rw [← (hz_some_e h).1]; decide) dX3_isPeg_17))
  · rw [if_neg hc1] at h
    refine hz_iload_n hO dX3_isPeg_4 rfl 1 rfl ?_
    refine hz_aload_n hO dX3_isPeg_5 rfl 0 rfl ?_
    refine hz_getI (k := 5) hO hz_K_2 hz_sh_1 (hz_lt_1 hN) rfl (Nat.le_of_ble_eq_true rfl) tw_1_57 rfl dX3_isPeg_6 ?_
    refine hz_icmp_ge (tgt := 16) hO dX3_isPeg_9 (by decide) (fun hc2 => ?_) (fun hc2 => ?_)
    · rw [if_pos hc2] at h
      refine hz_iconst (v := (0 : Int32)) hO dX3_isPeg_16 (by decide) ?_
      exact hz_nameM (hz_some_e h).2.symm (hz_name (hz_some_e h).1.symm (hz_zret hO (by rw [← (hz_some_e h).1]; decide) dX3_isPeg_17))
    · rw [if_neg hc2] at h
      refine hz_iconst (v := (1 : Int32)) hO dX3_isPeg_12 (by decide) ?_
      refine hz_goto (tgt := 17) hO dX3_isPeg_13 (by decide) ?_
      exact hz_nameM (hz_some_e h).2.symm (hz_name (hz_some_e h).1.symm (hz_zret hO (by rw [← (hz_some_e h).1]; decide) dX3_isPeg_17))
def f_X3_isTowel (a1 : Int32) (M : hz_M) : hz_O :=
  if a1 < 0 then
    some ((0 : Int32), M)
  else
    if (M 1 6) ≤ a1 then
      some ((0 : Int32), M)
    else
      some ((1 : Int32), M)
set_option maxRecDepth 100000 in
set_option maxHeartbeats 4000000 in
theorem c_X3_isTowel (l : Launch) (w : hz_C) {N : Nat} (hN : 178 ≤ N) (a1 : Int32) {M : hz_M} {rE : Int32} {ME : hz_M} (h : f_X3_isTowel a1 M = some (rE, ME)) : hz_Ct l yX3_isTowel cX3_isTowel 2 (some .boolean) 0 w N [.ref (hz_ad w 1), .int a1] M (hz_Qi w N rE ME) := by
  refine hz_ofW (by decide) rfl (Nat.le_of_ble_eq_true rfl) tw_4_35 ?_
  intro p e s m args below meth c hO
  show hz_G p l e 0 hz_z0 s m args below meth c w N 2 _ M 0 [(0, .ref (hz_ad w 1)), (1, .int a1)] []
  unfold f_X3_isTowel at h
  refine hz_iload_n hO dX3_isTowel_0 rfl 1 rfl ?_
  refine hz_if_lt (tgt := 16) hO dX3_isTowel_1 (by decide) (fun hc1 => ?_) (fun hc1 => ?_)
  · rw [if_pos hc1] at h
    refine hz_iconst (v := (0 : Int32)) hO dX3_isTowel_16 (by decide) ?_
    exact hz_nameM (hz_some_e h).2.symm (hz_name (hz_some_e h).1.symm (hz_zret hO (by rw [← (hz_some_e h).1]; decide) dX3_isTowel_17))
  · rw [if_neg hc1] at h
    refine hz_iload_n hO dX3_isTowel_4 rfl 1 rfl ?_
    refine hz_aload_n hO dX3_isTowel_5 rfl 0 rfl ?_
    refine hz_getI (k := 6) hO hz_K_2 hz_sh_1 (hz_lt_1 hN) rfl (Nat.le_of_ble_eq_true rfl) tw_1_61 rfl dX3_isTowel_6 ?_
    refine hz_icmp_ge (tgt := 16) hO dX3_isTowel_9 (by decide) (fun hc2 => ?_) (fun hc2 => ?_)
    · rw [if_pos hc2] at h
      refine hz_iconst (v := (0 : Int32)) hO dX3_isTowel_16 (by decide) ?_
      exact hz_nameM (hz_some_e h).2.symm (hz_name (hz_some_e h).1.symm (hz_zret hO (by rw [← (hz_some_e h).1]; decide) dX3_isTowel_17))
    · rw [if_neg hc2] at h
      refine hz_iconst (v := (1 : Int32)) hO dX3_isTowel_12 (by decide) ?_
      refine hz_goto (tgt := 17) hO dX3_isTowel_13 (by decide) ?_
      exact hz_nameM (hz_some_e h).2.symm (hz_name (hz_some_e h).1.symm (hz_zret hO (by rw [← (hz_some_e h).1]; decide) dX3_isTowel_17))
def f_X3_isValve (a1 : Int32) (M : hz_M) : hz_O :=
  if a1 < 0 then
    some ((0 : Int32), M)
  else
    if (M 1 7) ≤ a1 then
      some ((0 : Int32), M)
    else
      some ((1 : Int32), M)
set_option maxRecDepth 100000 in
set_option maxHeartbeats 4000000 in
theorem c_X3_isValve (l : Launch) (w : hz_C) {N : Nat} (hN : 178 ≤ N) (a1 : Int32) {M : hz_M} {rE : Int32} {ME : hz_M} (h : f_X3_isValve a1 M = some (rE, ME)) : hz_Ct l yX3_isValve cX3_isValve 2 (some .boolean) 0 w N [.ref (hz_ad w 1), .int a1] M (hz_Qi w N rE ME) := by
  refine hz_ofW (by decide) rfl (Nat.le_of_ble_eq_true rfl) tw_3_183 ?_
  intro p e s m args below meth c hO
  show hz_G p l e 0 hz_z0 s m args below meth c w N 2 _ M 0 [(0, .ref (hz_ad w 1)), (1, .int a1)] []
  unfold f_X3_isValve at h
  refine hz_iload_n hO dX3_isValve_0 rfl 1 rfl ?_
  refine hz_if_lt (tgt := 16) hO dX3_isValve_1 (by decide) (fun hc1 => ?_) (fun hc1 => ?_)
  · rw [if_pos hc1] at h
    refine hz_iconst (v := (0 : Int32)) hO dX3_isValve_16 (by decide) ?_
    exact hz_nameM (hz_some_e h).2.symm (hz_name (hz_some_e h).1.symm (hz_zret hO (by rw [← (hz_some_e h).1]; decide) dX3_isValve_17))
  · rw [if_neg hc1] at h
    refine hz_iload_n hO dX3_isValve_4 rfl 1 rfl ?_
    refine hz_aload_n hO dX3_isValve_5 rfl 0 rfl ?_
    refine hz_getI (k := 7) hO hz_K_2 hz_sh_1 (hz_lt_1 hN) rfl (Nat.le_of_ble_eq_true rfl) tw_1_65 rfl dX3_isValve_6 ?_
    refine hz_icmp_ge (tgt := 16) hO dX3_isValve_9 (by decide) (fun hc2 => ?_) (fun hc2 => ?_)
    · rw [if_pos hc2] at h
      refine hz_iconst (v := (0 : Int32)) hO dX3_isValve_16 (by decide) ?_
      exact hz_nameM (hz_some_e h).2.symm (hz_name (hz_some_e h).1.symm (hz_zret hO (by rw [← (hz_some_e h).1]; decide) dX3_isValve_17))
    · rw [if_neg hc2] at h
      refine hz_iconst (v := (1 : Int32)) hO dX3_isValve_12 (by decide) ?_
      refine hz_goto (tgt := 17) hO dX3_isValve_13 (by decide) ?_
      exact hz_nameM (hz_some_e h).2.symm (hz_name (hz_some_e h).1.symm (hz_zret hO (by rw [← (hz_some_e h).1]; decide) dX3_isValve_17))
def f_X3_isStep (a1 : Int32) (M : hz_M) : hz_O :=
  if a1 < (1 : Int32) then
    some ((0 : Int32), M)
  else
    if (M 1 8) < a1 then
      some ((0 : Int32), M)
    else
      some ((1 : Int32), M)
set_option maxRecDepth 100000 in
set_option maxHeartbeats 4000000 in
theorem c_X3_isStep (l : Launch) (w : hz_C) {N : Nat} (hN : 178 ≤ N) (a1 : Int32) {M : hz_M} {rE : Int32} {ME : hz_M} (h : f_X3_isStep a1 M = some (rE, ME)) : hz_Ct l yX3_isStep cX3_isStep 2 (some .boolean) 0 w N [.ref (hz_ad w 1), .int a1] M (hz_Qi w N rE ME) := by
  refine hz_ofW (by decide) rfl (Nat.le_of_ble_eq_true rfl) tw_3_193 ?_
  intro p e s m args below meth c hO
  show hz_G p l e 0 hz_z0 s m args below meth c w N 2 _ M 0 [(0, .ref (hz_ad w 1)), (1, .int a1)] []
  unfold f_X3_isStep at h
  refine hz_iload_n hO dX3_isStep_0 rfl 1 rfl ?_
  refine hz_iconst (v := (1 : Int32)) hO dX3_isStep_1 (by decide) ?_
  refine hz_icmp_lt (tgt := 17) hO dX3_isStep_2 (by decide) (fun hc1 => ?_) (fun hc1 => ?_)
  · rw [if_pos hc1] at h
    refine hz_iconst (v := (0 : Int32)) hO dX3_isStep_17 (by decide) ?_
    exact hz_nameM (hz_some_e h).2.symm (hz_name (hz_some_e h).1.symm (hz_zret hO (by rw [← (hz_some_e h).1]; decide) dX3_isStep_18))
  · rw [if_neg hc1] at h
    refine hz_iload_n hO dX3_isStep_5 rfl 1 rfl ?_
    refine hz_aload_n hO dX3_isStep_6 rfl 0 rfl ?_
    refine hz_getI (k := 8) hO hz_K_2 hz_sh_1 (hz_lt_1 hN) rfl (Nat.le_of_ble_eq_true rfl) tw_1_69 rfl dX3_isStep_7 ?_
    refine hz_icmp_gt (tgt := 17) hO dX3_isStep_10 (by decide) (fun hc2 => ?_) (fun hc2 => ?_)
    · rw [if_pos hc2] at h
      refine hz_iconst (v := (0 : Int32)) hO dX3_isStep_17 (by decide) ?_
      exact hz_nameM (hz_some_e h).2.symm (hz_name (hz_some_e h).1.symm (hz_zret hO (by rw [← (hz_some_e h).1]; decide) dX3_isStep_18))
    · rw [if_neg hc2] at h
      refine hz_iconst (v := (1 : Int32)) hO dX3_isStep_13 (by decide) ?_
      refine hz_goto (tgt := 18) hO dX3_isStep_14 (by decide) ?_
      exact hz_nameM (hz_some_e h).2.symm (hz_name (hz_some_e h).1.symm (hz_zret hO (by rw [← (hz_some_e h).1]; decide) dX3_isStep_18))
def f_X3_bears (a1 : Int32) (M : hz_M) : hz_O :=
  hz_gd (hz_in a1 16) <|
  some (((60 : Int32) + ((M 2 (Int32.toNatClampNeg a1)) / (4 : Int32))), M)
set_option maxRecDepth 100000 in
set_option maxHeartbeats 4000000 in
theorem c_X3_bears (l : Launch) (w : hz_C) {N : Nat} (hN : 178 ≤ N) (a1 : Int32) {M : hz_M} {rE : Int32} {ME : hz_M} (h : f_X3_bears a1 M = some (rE, ME)) : hz_Ct l yX3_bears cX3_bears 2 (some .int) 0 w N [.ref (hz_ad w 1), .int a1] M (hz_Qi w N rE ME) := by
  refine hz_ofW (by decide) rfl (Nat.le_of_ble_eq_true rfl) tw_4_125 ?_
  intro p e s m args below meth c hO
  show hz_G p l e 0 hz_z0 s m args below meth c w N 2 _ M 0 [(0, .ref (hz_ad w 1)), (1, .int a1)] []
  unfold f_X3_bears at h
  refine hz_bipush (v := (60 : Int32)) hO dX3_bears_0 (by decide) ?_
  refine hz_aload_n hO dX3_bears_2 rfl 0 rfl ?_
  refine hz_getR (k := 0) hO 2 hz_K_2 hz_sh_1 (hz_lt_1 hN) rfl (Nat.le_of_ble_eq_true rfl) tw_1_42 rfl dX3_bears_3 ?_
  refine hz_iload_n hO dX3_bears_6 rfl 1 rfl ?_
  obtain ⟨hg1, h⟩ := hz_gd_e h
  refine hz_iald hO hz_sh_2 (hz_lt_2 hN) hg1 dX3_bears_7 ?_
  refine hz_iconst (v := (4 : Int32)) hO dX3_bears_8 (by decide) ?_
  refine hz_idiv hO dX3_bears_9 (by decide) ?_
  refine hz_iadd hO dX3_bears_10 ?_
  exact hz_nameM (hz_some_e h).2.symm (hz_name (hz_some_e h).1.symm (hz_iret hO dX3_bears_11))
def f_X3_ageFor (a0 : Int32) (M : hz_M) : hz_O :=
  some (((5 : Int32) * (a0 - (1 : Int32))), M)
set_option maxRecDepth 100000 in
set_option maxHeartbeats 4000000 in
theorem c_X3_ageFor (l : Launch) (w : hz_C) {N : Nat} (hN : 178 ≤ N) (a0 : Int32) {M : hz_M} {rE : Int32} {ME : hz_M} (h : f_X3_ageFor a0 M = some (rE, ME)) : hz_Ct l yX3_ageFor cX3_ageFor 1 (some .int) 0 w N [.int a0] M (hz_Qi w N rE ME) := by
  refine hz_ofW (by decide) rfl (Nat.le_of_ble_eq_true rfl) tw_4_4 ?_
  intro p e s m args below meth c hO
  show hz_G p l e 0 hz_z0 s m args below meth c w N 1 _ M 0 [(0, .int a0)] []
  unfold f_X3_ageFor at h
  refine hz_iconst (v := (5 : Int32)) hO dX3_ageFor_0 (by decide) ?_
  refine hz_iload_n hO dX3_ageFor_1 rfl 0 rfl ?_
  refine hz_iconst (v := (1 : Int32)) hO dX3_ageFor_2 (by decide) ?_
  refine hz_isub hO dX3_ageFor_3 ?_
  refine hz_imul hO dX3_ageFor_4 ?_
  exact hz_nameM (hz_some_e h).2.symm (hz_name (hz_some_e h).1.symm (hz_iret hO dX3_ageFor_5))
def f_X3_highestByAge (a1 : Int32) (M : hz_M) : hz_O :=
  hz_gd (hz_in a1 16) <|
  some ((if (M 1 8) < (((M 2 (Int32.toNatClampNeg a1)) / (5 : Int32)) + (1 : Int32)) then (M 1 8) else (((M 2 (Int32.toNatClampNeg a1)) / (5 : Int32)) + (1 : Int32))), M)
set_option maxRecDepth 100000 in
set_option maxHeartbeats 4000000 in
theorem c_X3_highestByAge (l : Launch) (w : hz_C) {N : Nat} (hN : 178 ≤ N) (a1 : Int32) {M : hz_M} {rE : Int32} {ME : hz_M} (h : f_X3_highestByAge a1 M = some (rE, ME)) : hz_Ct l yX3_highestByAge cX3_highestByAge 2 (some .int) 1 w N [.ref (hz_ad w 1), .int a1] M (hz_Qi w N rE ME) := by
  refine hz_ofW (by decide) rfl (Nat.le_of_ble_eq_true rfl) tw_5_119 ?_
  intro p e s m args below meth c hO
  show hz_G p l e 1 hz_z0 s m args below meth c w N 2 _ M 0 [(0, .ref (hz_ad w 1)), (1, .int a1)] []
  unfold f_X3_highestByAge at h
  refine hz_aload_n hO dX3_highestByAge_0 rfl 0 rfl ?_
  refine hz_getR (k := 0) hO 2 hz_K_2 hz_sh_1 (hz_lt_1 hN) rfl (Nat.le_of_ble_eq_true rfl) tw_1_42 rfl dX3_highestByAge_1 ?_
  refine hz_iload_n hO dX3_highestByAge_4 rfl 1 rfl ?_
  obtain ⟨hg1, h⟩ := hz_gd_e h
  refine hz_iald hO hz_sh_2 (hz_lt_2 hN) hg1 dX3_highestByAge_5 ?_
  refine hz_iconst (v := (5 : Int32)) hO dX3_highestByAge_6 (by decide) ?_
  refine hz_idiv hO dX3_highestByAge_7 (by decide) ?_
  refine hz_iconst (v := (1 : Int32)) hO dX3_highestByAge_8 (by decide) ?_
  refine hz_iadd hO dX3_highestByAge_9 ?_
  refine hz_aload_n hO dX3_highestByAge_10 rfl 0 rfl ?_
  refine hz_getI (k := 8) hO hz_K_2 hz_sh_1 (hz_lt_1 hN) rfl (Nat.le_of_ble_eq_true rfl) tw_1_69 rfl dX3_highestByAge_11 ?_
  refine hz_mmin hO tw_3_22 (Nat.le_of_ble_eq_true rfl) (Nat.le_of_ble_eq_true rfl) dX3_highestByAge_14 ?_
  exact hz_nameM (hz_some_e h).2.symm (hz_name (hz_some_e h).1.symm (hz_iret hO dX3_highestByAge_17))
def f_X8_clear (M : hz_M) : hz_O :=
  hz_lm (hz_set M 9 1 (0 : Int32)) fun M1 =>
  some (0, M1)
set_option maxRecDepth 100000 in
set_option maxHeartbeats 4000000 in
theorem c_X8_clear (l : Launch) (w : hz_C) {N : Nat} (hN : 178 ≤ N) {M : hz_M} {rE : Int32} {ME : hz_M} (h : f_X8_clear M = some (rE, ME)) : hz_Ct l yX8_clear cX8_clear 1 none 0 w N [.ref (hz_ad w 9)] M (hz_Qv w N ME) := by
  refine hz_ofW (by decide) rfl (Nat.le_of_ble_eq_true rfl) tw_3_31 ?_
  intro p e s m args below meth c hO
  show hz_G p l e 0 hz_z0 s m args below meth c w N 1 _ M 0 [(0, .ref (hz_ad w 9))] []
  unfold f_X8_clear at h
  refine hz_aload_n hO dX8_clear_0 rfl 0 rfl ?_
  refine hz_iconst (v := (0 : Int32)) hO dX8_clear_1 (by decide) ?_
  obtain ⟨M1, h_M1, h⟩ := hz_lm_e h
  refine hz_putI (k := 1) (ty := .int) hO hz_K_6 tyX8_ok nmX8 hz_sh_9 (hz_lt_9 hN) rfl (Nat.le_of_ble_eq_true rfl) tw_1_110 rfl rfl rfl rfl rfl dX8_clear_2 ?_
  refine hz_nameM h_M1 ?_
  exact hz_nameM (hz_some_e h).2.symm (hz_vret hO dX8_clear_5)
def f_X8_bytesIn_L5 : Nat → Int32 → Int32 → Int32 → hz_M → hz_O
  | 0, _, _, _, _ => none
  | n + 1, v0_1, v1_2, v2_3, M4 =>
    if v2_3 < 0 then
      some (v1_2, M4)
    else
      hz_jn (fun (v0_6 : Int32) (v1_7 : Int32) (v2_8 : Int32) (M9 : hz_M) =>
        hz_lt (v2_8 + (-8 : Int32)) fun x10 =>
        f_X8_bytesIn_L5 n v0_6 v1_7 x10 M9
        ) fun k11 =>
      if (((v0_1).toUInt32 >>> ((v2_3).toUInt32 &&& Int32.toUInt32 31)).toInt32 &&& (255 : Int32)) = 0 then
        k11 v0_1 v1_2 v2_3 M4
      else
        hz_lt (v1_2 + (1 : Int32)) fun x13 =>
        k11 v0_1 x13 v2_3 M4
def f_X8_bytesIn (a0 : Int32) (M : hz_M) : hz_O :=
  f_X8_bytesIn_L5 hz_FU a0 (0 : Int32) (24 : Int32) M
set_option maxRecDepth 100000 in
set_option maxHeartbeats 4000000 in
theorem g_X8_bytesIn_L5 {p : Program} {l : Launch} {e : Env} {s : State} {m : MethodId} {args : Array Value} {below : List Frame} {meth : Method} {c : Code} {w : hz_C} {N : Nat} (hN : 178 ≤ N) {rE : Int32} {ME : hz_M} (hO : hz_Ok p s m args meth c w cX8_bytesIn 3 RX8 (some .int)) : ∀ (n : Nat) (v0_1 : Int32) (v1_2 : Int32) (v2_3 : Int32) (M4 : hz_M), f_X8_bytesIn_L5 n v0_1 v1_2 v2_3 M4 = some (rE, ME) → hz_G p l e 0 hz_z0 s m args below meth c w N 3 (MQ below (hz_Qi w N rE ME) args s 0 0 (hz_A w)) M4 5 [(0, .int v0_1), (1, .int v1_2), (2, .int v2_3)] [] := by
  intro n
  induction n with
  | zero =>
    intro v0_1 v1_2 v2_3 M4 h
    rw [f_X8_bytesIn_L5] at h
    cases h
  | succ n ih =>
    intro v0_1 v1_2 v2_3 M4 h
    rw [f_X8_bytesIn_L5] at h
    refine hz_iload_n hO dX8_bytesIn_5 rfl 2 rfl ?_
    refine hz_if_lt (tgt := 28) hO dX8_bytesIn_6 (by decide) (fun hc5 => ?_) (fun hc5 => ?_)
    · rw [if_pos hc5] at h
      refine hz_iload_n hO dX8_bytesIn_28 rfl 1 rfl ?_
      exact hz_nameM (hz_some_e h).2.symm (hz_name (hz_some_e h).1.symm (hz_iret hO dX8_bytesIn_29))
    · rw [if_neg hc5] at h
      refine hz_iload_n hO dX8_bytesIn_9 rfl 0 rfl ?_
      refine hz_iload_n hO dX8_bytesIn_10 rfl 2 rfl ?_
      refine hz_iushr hO dX8_bytesIn_11 ?_
      refine hz_sipush (v := (255 : Int32)) hO dX8_bytesIn_12 (by decide) ?_
      refine hz_iand hO dX8_bytesIn_15 ?_
      obtain ⟨k11, hk11, h⟩ := hz_jn_e h
      have gk11 : ∀ (v0_6 : Int32) (v1_7 : Int32) (v2_8 : Int32) (M9 : hz_M), k11 v0_6 v1_7 v2_8 M9 = some (rE, ME) → hz_G p l e 0 hz_z0 s m args below meth c w N 3 (MQ below (hz_Qi w N rE ME) args s 0 0 (hz_A w)) M9 22 [(0, .int v0_6), (1, .int v1_7), (2, .int v2_8)] [] := by
        intro v0_6 v1_7 v2_8 M9 h
        rw [hk11] at h
        dsimp only at h
        obtain ⟨x10, h_x10, h⟩ := hz_lt_e h
        refine hz_iinc (k := 2) (v := x10) (ls1 := [(2, .int x10), (0, .int v0_6), (1, .int v1_7)]) hO dX8_bytesIn_22 rfl (by rw [h_x10]; rfl) (Nat.le_of_ble_eq_true rfl) rfl ?_
        refine hz_goto (tgt := 5) hO dX8_bytesIn_25 (by decide) ?_
        exact hz_ls [1, 2, 0] rfl (ih v0_6 v1_7 x10 M9 h)
      clear hk11
      refine hz_if_eq (tgt := 22) hO dX8_bytesIn_16 (by decide) (fun hc12 => ?_) (fun hc12 => ?_)
      · rw [if_pos hc12] at h
        exact hz_ls [0, 1, 2] rfl (gk11 v0_1 v1_2 v2_3 M4 h)
      · rw [if_neg hc12] at h
        obtain ⟨x13, h_x13, h⟩ := hz_lt_e h
        refine hz_iinc (k := 1) (v := x13) (ls1 := [(1, .int x13), (0, .int v0_1), (2, .int v2_3)]) hO dX8_bytesIn_19 rfl (by rw [h_x13]; rfl) (Nat.le_of_ble_eq_true rfl) rfl ?_
        exact hz_ls [1, 0, 2] rfl (gk11 v0_1 x13 v2_3 M4 h)
set_option maxRecDepth 100000 in
set_option maxHeartbeats 4000000 in
theorem c_X8_bytesIn (l : Launch) (w : hz_C) {N : Nat} (hN : 178 ≤ N) (a0 : Int32) {M : hz_M} {rE : Int32} {ME : hz_M} (h : f_X8_bytesIn a0 M = some (rE, ME)) : hz_Ct l yX8_bytesIn cX8_bytesIn 3 (some .int) 0 w N [.int a0] M (hz_Qi w N rE ME) := by
  refine hz_ofW (by decide) rfl (Nat.le_of_ble_eq_true rfl) tw_3_81 ?_
  intro p e s m args below meth c hO
  show hz_G p l e 0 hz_z0 s m args below meth c w N 3 _ M 0 [(0, .int a0)] []
  unfold f_X8_bytesIn at h
  refine hz_iconst (v := (0 : Int32)) hO dX8_bytesIn_0 (by decide) ?_
  refine hz_istore_n (ls1 := [(1, .int (0 : Int32)), (0, .int a0)]) hO dX8_bytesIn_1 rfl (Nat.le_of_ble_eq_true rfl) rfl ?_
  refine hz_bipush (v := (24 : Int32)) hO dX8_bytesIn_2 (by decide) ?_
  refine hz_istore_n (ls1 := [(2, .int (24 : Int32)), (1, .int (0 : Int32)), (0, .int a0)]) hO dX8_bytesIn_4 rfl (Nat.le_of_ble_eq_true rfl) rfl ?_
  exact hz_ls [2, 1, 0] rfl (g_X8_bytesIn_L5 hN hO _ a0 (0 : Int32) (24 : Int32) M h)
def f_X8_put (a1 : Int32) (M : hz_M) : hz_O :=
  if a1 = 0 then
    some (0, M)
  else
    if (600 : Int32) ≤ (M 9 1) then
      some (0, M)
    else
      hz_gd (hz_in (M 9 1) 600) <|
      hz_lm (hz_set M 10 (Int32.toNatClampNeg (M 9 1)) a1) fun M4 =>
      hz_lm (hz_set M4 9 1 ((M4 9 1) + (1 : Int32))) fun M5 =>
      some (0, M5)
set_option maxRecDepth 100000 in
set_option maxHeartbeats 4000000 in
theorem c_X8_put (l : Launch) (w : hz_C) {N : Nat} (hN : 178 ≤ N) (a1 : Int32) {M : hz_M} {rE : Int32} {ME : hz_M} (h : f_X8_put a1 M = some (rE, ME)) : hz_Ct l yX8_put cX8_put 2 none 0 w N [.ref (hz_ad w 9), .int a1] M (hz_Qv w N ME) := by
  refine hz_ofW (by decide) rfl (Nat.le_of_ble_eq_true rfl) tw_2_181 ?_
  intro p e s m args below meth c hO
  show hz_G p l e 0 hz_z0 s m args below meth c w N 2 _ M 0 [(0, .ref (hz_ad w 9)), (1, .int a1)] []
  unfold f_X8_put at h
  refine hz_iload_n hO dX8_put_0 rfl 1 rfl ?_
  refine hz_if_eq (tgt := 34) hO dX8_put_1 (by decide) (fun hc1 => ?_) (fun hc1 => ?_)
  · rw [if_pos hc1] at h
    exact hz_nameM (hz_some_e h).2.symm (hz_vret hO dX8_put_34)
  · rw [if_neg hc1] at h
    refine hz_aload_n hO dX8_put_4 rfl 0 rfl ?_
    refine hz_getI (k := 1) hO hz_K_6 hz_sh_9 (hz_lt_9 hN) rfl (Nat.le_of_ble_eq_true rfl) tw_1_110 rfl dX8_put_5 ?_
    refine hz_sipush (v := (600 : Int32)) hO dX8_put_8 (by decide) ?_
    refine hz_icmp_ge (tgt := 34) hO dX8_put_11 (by decide) (fun hc2 => ?_) (fun hc2 => ?_)
    · rw [if_pos hc2] at h
      exact hz_nameM (hz_some_e h).2.symm (hz_vret hO dX8_put_34)
    · rw [if_neg hc2] at h
      refine hz_aload_n hO dX8_put_14 rfl 0 rfl ?_
      refine hz_getR (k := 0) hO 10 hz_K_6 hz_sh_9 (hz_lt_9 hN) rfl (Nat.le_of_ble_eq_true rfl) tw_1_109 rfl dX8_put_15 ?_
      refine hz_aload_n hO dX8_put_18 rfl 0 rfl ?_
      refine hz_getI (k := 1) hO hz_K_6 hz_sh_9 (hz_lt_9 hN) rfl (Nat.le_of_ble_eq_true rfl) tw_1_110 rfl dX8_put_19 ?_
      refine hz_iload_n hO dX8_put_22 rfl 1 rfl ?_
      obtain ⟨hg3, h⟩ := hz_gd_e h
      obtain ⟨M4, h_M4, h⟩ := hz_lm_e h
      refine hz_iast hO hz_sh_10 (hz_lt_10 hN) hg3 dX8_put_23 ?_
      refine hz_nameM h_M4 ?_
      refine hz_aload_n hO dX8_put_24 rfl 0 rfl ?_
      refine hz_dup hO dX8_put_25 rfl ?_
      refine hz_getI (k := 1) hO hz_K_6 hz_sh_9 (hz_lt_9 hN) rfl (Nat.le_of_ble_eq_true rfl) tw_1_110 rfl dX8_put_26 ?_
      refine hz_iconst (v := (1 : Int32)) hO dX8_put_29 (by decide) ?_
      refine hz_iadd hO dX8_put_30 ?_
      obtain ⟨M5, h_M5, h⟩ := hz_lm_e h
      refine hz_putI (k := 1) (ty := .int) hO hz_K_6 tyX8_ok nmX8 hz_sh_9 (hz_lt_9 hN) rfl (Nat.le_of_ble_eq_true rfl) tw_1_110 rfl rfl rfl rfl rfl dX8_put_31 ?_
      refine hz_nameM h_M5 ?_
      exact hz_nameM (hz_some_e h).2.symm (hz_vret hO dX8_put_34)
def f_X8_byteAt (a1 : Int32) (M : hz_M) : hz_O :=
  if a1 < 0 then
    some ((-1 : Int32), M)
  else
    if (M 9 1) ≤ a1 then
      some ((-1 : Int32), M)
    else
      hz_gd (hz_in a1 600) <|
      some ((M 10 (Int32.toNatClampNeg a1)), M)
set_option maxRecDepth 100000 in
set_option maxHeartbeats 4000000 in
theorem c_X8_byteAt (l : Launch) (w : hz_C) {N : Nat} (hN : 178 ≤ N) (a1 : Int32) {M : hz_M} {rE : Int32} {ME : hz_M} (h : f_X8_byteAt a1 M = some (rE, ME)) : hz_Ct l yX8_byteAt cX8_byteAt 2 (some .int) 0 w N [.ref (hz_ad w 9), .int a1] M (hz_Qi w N rE ME) := by
  refine hz_ofW (by decide) rfl (Nat.le_of_ble_eq_true rfl) tw_2_197 ?_
  intro p e s m args below meth c hO
  show hz_G p l e 0 hz_z0 s m args below meth c w N 2 _ M 0 [(0, .ref (hz_ad w 9)), (1, .int a1)] []
  unfold f_X8_byteAt at h
  refine hz_iload_n hO dX8_byteAt_0 rfl 1 rfl ?_
  refine hz_if_lt (tgt := 21) hO dX8_byteAt_1 (by decide) (fun hc1 => ?_) (fun hc1 => ?_)
  · rw [if_pos hc1] at h
    refine hz_iconst (v := (-1 : Int32)) hO dX8_byteAt_21 (by decide) ?_
    exact hz_nameM (hz_some_e h).2.symm (hz_name (hz_some_e h).1.symm (hz_iret hO dX8_byteAt_22))
  · rw [if_neg hc1] at h
    refine hz_iload_n hO dX8_byteAt_4 rfl 1 rfl ?_
    refine hz_aload_n hO dX8_byteAt_5 rfl 0 rfl ?_
    refine hz_getI (k := 1) hO hz_K_6 hz_sh_9 (hz_lt_9 hN) rfl (Nat.le_of_ble_eq_true rfl) tw_1_110 rfl dX8_byteAt_6 ?_
    refine hz_icmp_ge (tgt := 21) hO dX8_byteAt_9 (by decide) (fun hc2 => ?_) (fun hc2 => ?_)
    · rw [if_pos hc2] at h
      refine hz_iconst (v := (-1 : Int32)) hO dX8_byteAt_21 (by decide) ?_
      exact hz_nameM (hz_some_e h).2.symm (hz_name (hz_some_e h).1.symm (hz_iret hO dX8_byteAt_22))
    · rw [if_neg hc2] at h
      refine hz_aload_n hO dX8_byteAt_12 rfl 0 rfl ?_
      refine hz_getR (k := 0) hO 10 hz_K_6 hz_sh_9 (hz_lt_9 hN) rfl (Nat.le_of_ble_eq_true rfl) tw_1_109 rfl dX8_byteAt_13 ?_
      refine hz_iload_n hO dX8_byteAt_16 rfl 1 rfl ?_
      obtain ⟨hg3, h⟩ := hz_gd_e h
      refine hz_iald hO hz_sh_10 (hz_lt_10 hN) hg3 dX8_byteAt_17 ?_
      refine hz_goto (tgt := 22) hO dX8_byteAt_18 (by decide) ?_
      exact hz_nameM (hz_some_e h).2.symm (hz_name (hz_some_e h).1.symm (hz_iret hO dX8_byteAt_22))
def f_X8_isBlank (a0 : Int32) (M : hz_M) : hz_O :=
  hz_jn (fun  (M1 : hz_M) =>
    some ((1 : Int32), M1)
    ) fun k2 =>
  if a0 = (32 : Int32) then
    k2 M
  else
    if a0 = (10 : Int32) then
      k2 M
    else
      some ((0 : Int32), M)
set_option maxRecDepth 100000 in
set_option maxHeartbeats 4000000 in
theorem c_X8_isBlank (l : Launch) (w : hz_C) {N : Nat} (hN : 178 ≤ N) (a0 : Int32) {M : hz_M} {rE : Int32} {ME : hz_M} (h : f_X8_isBlank a0 M = some (rE, ME)) : hz_Ct l yX8_isBlank cX8_isBlank 1 (some .boolean) 0 w N [.int a0] M (hz_Qi w N rE ME) := by
  refine hz_ofW (by decide) rfl (Nat.le_of_ble_eq_true rfl) tw_2_200 ?_
  intro p e s m args below meth c hO
  show hz_G p l e 0 hz_z0 s m args below meth c w N 1 _ M 0 [(0, .int a0)] []
  unfold f_X8_isBlank at h
  refine hz_iload_n hO dX8_isBlank_0 rfl 0 rfl ?_
  refine hz_bipush (v := (32 : Int32)) hO dX8_isBlank_1 (by decide) ?_
  obtain ⟨k2, hk2, h⟩ := hz_jn_e h
  have gk2 : ∀  (M1 : hz_M), k2 M1 = some (rE, ME) → hz_G p l e 0 hz_z0 s m args below meth c w N 1 (MQ below (hz_Qi w N rE ME) args s 0 0 (hz_A w)) M1 12 [] [] := by
    intro M1 h
    rw [hk2] at h
    dsimp only at h
    refine hz_iconst (v := (1 : Int32)) hO dX8_isBlank_12 (by decide) ?_
    refine hz_goto (tgt := 17) hO dX8_isBlank_13 (by decide) ?_
    exact hz_nameM (hz_some_e h).2.symm (hz_name (hz_some_e h).1.symm (hz_zret hO (by rw [← (hz_some_e h).1]; decide) dX8_isBlank_17))
  clear hk2
  refine hz_icmp_eq (tgt := 12) hO dX8_isBlank_3 (by decide) (fun hc3 => ?_) (fun hc3 => ?_)
  · rw [if_pos hc3] at h
    exact hz_ls [] rfl (gk2 M h)
  · rw [if_neg hc3] at h
    refine hz_iload_n hO dX8_isBlank_6 rfl 0 rfl ?_
    refine hz_bipush (v := (10 : Int32)) hO dX8_isBlank_7 (by decide) ?_
    refine hz_icmp_ne (tgt := 16) hO dX8_isBlank_9 (by decide) (fun hc4 => ?_) (fun hc4 => ?_)
    · rw [if_neg hc4] at h
      refine hz_iconst (v := (0 : Int32)) hO dX8_isBlank_16 (by decide) ?_
      exact hz_nameM (hz_some_e h).2.symm (hz_name (hz_some_e h).1.symm (hz_zret hO (by rw [← (hz_some_e h).1]; decide) dX8_isBlank_17))
    · rw [if_pos hc4] at h
      exact hz_ls [] rfl (gk2 M h)
def f_X8_isLetter (a0 : Int32) (M : hz_M) : hz_O :=
  if a0 < (97 : Int32) then
    some ((0 : Int32), M)
  else
    if (122 : Int32) < a0 then
      some ((0 : Int32), M)
    else
      some ((1 : Int32), M)
set_option maxRecDepth 100000 in
set_option maxHeartbeats 4000000 in
theorem c_X8_isLetter (l : Launch) (w : hz_C) {N : Nat} (hN : 178 ≤ N) (a0 : Int32) {M : hz_M} {rE : Int32} {ME : hz_M} (h : f_X8_isLetter a0 M = some (rE, ME)) : hz_Ct l yX8_isLetter cX8_isLetter 1 (some .boolean) 0 w N [.int a0] M (hz_Qi w N rE ME) := by
  refine hz_ofW (by decide) rfl (Nat.le_of_ble_eq_true rfl) tw_2_203 ?_
  intro p e s m args below meth c hO
  show hz_G p l e 0 hz_z0 s m args below meth c w N 1 _ M 0 [(0, .int a0)] []
  unfold f_X8_isLetter at h
  refine hz_iload_n hO dX8_isLetter_0 rfl 0 rfl ?_
  refine hz_bipush (v := (97 : Int32)) hO dX8_isLetter_1 (by decide) ?_
  refine hz_icmp_lt (tgt := 16) hO dX8_isLetter_3 (by decide) (fun hc1 => ?_) (fun hc1 => ?_)
  · rw [if_pos hc1] at h
    refine hz_iconst (v := (0 : Int32)) hO dX8_isLetter_16 (by decide) ?_
    exact hz_nameM (hz_some_e h).2.symm (hz_name (hz_some_e h).1.symm (hz_zret hO (by rw [← (hz_some_e h).1]; decide) dX8_isLetter_17))
  · rw [if_neg hc1] at h
    refine hz_iload_n hO dX8_isLetter_6 rfl 0 rfl ?_
    refine hz_bipush (v := (122 : Int32)) hO dX8_isLetter_7 (by decide) ?_
    refine hz_icmp_gt (tgt := 16) hO dX8_isLetter_9 (by decide) (fun hc2 => ?_) (fun hc2 => ?_)
    · rw [if_pos hc2] at h
      refine hz_iconst (v := (0 : Int32)) hO dX8_isLetter_16 (by decide) ?_
      exact hz_nameM (hz_some_e h).2.symm (hz_name (hz_some_e h).1.symm (hz_zret hO (by rw [← (hz_some_e h).1]; decide) dX8_isLetter_17))
    · rw [if_neg hc2] at h
      refine hz_iconst (v := (1 : Int32)) hO dX8_isLetter_12 (by decide) ?_
      refine hz_goto (tgt := 17) hO dX8_isLetter_13 (by decide) ?_
      exact hz_nameM (hz_some_e h).2.symm (hz_name (hz_some_e h).1.symm (hz_zret hO (by rw [← (hz_some_e h).1]; decide) dX8_isLetter_17))
def f_X8_isDigit (a0 : Int32) (M : hz_M) : hz_O :=
  if a0 < (48 : Int32) then
    some ((0 : Int32), M)
  else
    if (57 : Int32) < a0 then
      some ((0 : Int32), M)
    else
      some ((1 : Int32), M)
set_option maxRecDepth 100000 in
set_option maxHeartbeats 4000000 in
theorem c_X8_isDigit (l : Launch) (w : hz_C) {N : Nat} (hN : 178 ≤ N) (a0 : Int32) {M : hz_M} {rE : Int32} {ME : hz_M} (h : f_X8_isDigit a0 M = some (rE, ME)) : hz_Ct l yX8_isDigit cX8_isDigit 1 (some .boolean) 0 w N [.int a0] M (hz_Qi w N rE ME) := by
  refine hz_ofW (by decide) rfl (Nat.le_of_ble_eq_true rfl) tw_2_206 ?_
  intro p e s m args below meth c hO
  show hz_G p l e 0 hz_z0 s m args below meth c w N 1 _ M 0 [(0, .int a0)] []
  unfold f_X8_isDigit at h
  refine hz_iload_n hO dX8_isDigit_0 rfl 0 rfl ?_
  refine hz_bipush (v := (48 : Int32)) hO dX8_isDigit_1 (by decide) ?_
  refine hz_icmp_lt (tgt := 16) hO dX8_isDigit_3 (by decide) (fun hc1 => ?_) (fun hc1 => ?_)
  · rw [if_pos hc1] at h
    refine hz_iconst (v := (0 : Int32)) hO dX8_isDigit_16 (by decide) ?_
    exact hz_nameM (hz_some_e h).2.symm (hz_name (hz_some_e h).1.symm (hz_zret hO (by rw [← (hz_some_e h).1]; decide) dX8_isDigit_17))
  · rw [if_neg hc1] at h
    refine hz_iload_n hO dX8_isDigit_6 rfl 0 rfl ?_
    refine hz_bipush (v := (57 : Int32)) hO dX8_isDigit_7 (by decide) ?_
    refine hz_icmp_gt (tgt := 16) hO dX8_isDigit_9 (by decide) (fun hc2 => ?_) (fun hc2 => ?_)
    · rw [if_pos hc2] at h
      refine hz_iconst (v := (0 : Int32)) hO dX8_isDigit_16 (by decide) ?_
      exact hz_nameM (hz_some_e h).2.symm (hz_name (hz_some_e h).1.symm (hz_zret hO (by rw [← (hz_some_e h).1]; decide) dX8_isDigit_17))
    · rw [if_neg hc2] at h
      refine hz_iconst (v := (1 : Int32)) hO dX8_isDigit_12 (by decide) ?_
      refine hz_goto (tgt := 17) hO dX8_isDigit_13 (by decide) ?_
      exact hz_nameM (hz_some_e h).2.symm (hz_name (hz_some_e h).1.symm (hz_zret hO (by rw [← (hz_some_e h).1]; decide) dX8_isDigit_17))
def f_X8_isSign (a0 : Int32) (M : hz_M) : hz_O :=
  hz_jn (fun  (M1 : hz_M) =>
    some ((1 : Int32), M1)
    ) fun k2 =>
  if a0 = (59 : Int32) then
    k2 M
  else
    if a0 = (40 : Int32) then
      k2 M
    else
      if a0 = (41 : Int32) then
        k2 M
      else
        some ((0 : Int32), M)
set_option maxRecDepth 100000 in
set_option maxHeartbeats 4000000 in
theorem c_X8_isSign (l : Launch) (w : hz_C) {N : Nat} (hN : 178 ≤ N) (a0 : Int32) {M : hz_M} {rE : Int32} {ME : hz_M} (h : f_X8_isSign a0 M = some (rE, ME)) : hz_Ct l yX8_isSign cX8_isSign 1 (some .boolean) 0 w N [.int a0] M (hz_Qi w N rE ME) := by
  refine hz_ofW (by decide) rfl (Nat.le_of_ble_eq_true rfl) tw_2_212 ?_
  intro p e s m args below meth c hO
  show hz_G p l e 0 hz_z0 s m args below meth c w N 1 _ M 0 [(0, .int a0)] []
  unfold f_X8_isSign at h
  refine hz_iload_n hO dX8_isSign_0 rfl 0 rfl ?_
  refine hz_bipush (v := (59 : Int32)) hO dX8_isSign_1 (by decide) ?_
  obtain ⟨k2, hk2, h⟩ := hz_jn_e h
  have gk2 : ∀  (M1 : hz_M), k2 M1 = some (rE, ME) → hz_G p l e 0 hz_z0 s m args below meth c w N 1 (MQ below (hz_Qi w N rE ME) args s 0 0 (hz_A w)) M1 18 [] [] := by
    intro M1 h
    rw [hk2] at h
    dsimp only at h
    refine hz_iconst (v := (1 : Int32)) hO dX8_isSign_18 (by decide) ?_
    refine hz_goto (tgt := 23) hO dX8_isSign_19 (by decide) ?_
    exact hz_nameM (hz_some_e h).2.symm (hz_name (hz_some_e h).1.symm (hz_zret hO (by rw [← (hz_some_e h).1]; decide) dX8_isSign_23))
  clear hk2
  refine hz_icmp_eq (tgt := 18) hO dX8_isSign_3 (by decide) (fun hc3 => ?_) (fun hc3 => ?_)
  · rw [if_pos hc3] at h
    exact hz_ls [] rfl (gk2 M h)
  · rw [if_neg hc3] at h
    refine hz_iload_n hO dX8_isSign_6 rfl 0 rfl ?_
    refine hz_bipush (v := (40 : Int32)) hO dX8_isSign_7 (by decide) ?_
    refine hz_icmp_eq (tgt := 18) hO dX8_isSign_9 (by decide) (fun hc4 => ?_) (fun hc4 => ?_)
    · rw [if_pos hc4] at h
      exact hz_ls [] rfl (gk2 M h)
    · rw [if_neg hc4] at h
      refine hz_iload_n hO dX8_isSign_12 rfl 0 rfl ?_
      refine hz_bipush (v := (41 : Int32)) hO dX8_isSign_13 (by decide) ?_
      refine hz_icmp_ne (tgt := 22) hO dX8_isSign_15 (by decide) (fun hc5 => ?_) (fun hc5 => ?_)
      · rw [if_neg hc5] at h
        refine hz_iconst (v := (0 : Int32)) hO dX8_isSign_22 (by decide) ?_
        exact hz_nameM (hz_some_e h).2.symm (hz_name (hz_some_e h).1.symm (hz_zret hO (by rw [← (hz_some_e h).1]; decide) dX8_isSign_23))
      · rw [if_pos hc5] at h
        exact hz_ls [] rfl (gk2 M h)
def f_X8_fail (a1 : Int32) (M : hz_M) : hz_O :=
  if (M 9 6) = 0 then
    hz_lm (hz_set M 9 6 a1) fun M2 =>
    hz_lm (hz_set M2 9 7 (M2 9 3)) fun M3 =>
    some (0, M3)
  else
    some (0, M)
set_option maxRecDepth 100000 in
set_option maxHeartbeats 4000000 in
theorem c_X8_fail (l : Launch) (w : hz_C) {N : Nat} (hN : 178 ≤ N) (a1 : Int32) {M : hz_M} {rE : Int32} {ME : hz_M} (h : f_X8_fail a1 M = some (rE, ME)) : hz_Ct l yX8_fail cX8_fail 2 none 0 w N [.ref (hz_ad w 9), .int a1] M (hz_Qv w N ME) := by
  refine hz_ofW (by decide) rfl (Nat.le_of_ble_eq_true rfl) tw_2_229 ?_
  intro p e s m args below meth c hO
  show hz_G p l e 0 hz_z0 s m args below meth c w N 2 _ M 0 [(0, .ref (hz_ad w 9)), (1, .int a1)] []
  unfold f_X8_fail at h
  refine hz_aload_n hO dX8_fail_0 rfl 0 rfl ?_
  refine hz_getI (k := 6) hO hz_K_6 hz_sh_9 (hz_lt_9 hN) rfl (Nat.le_of_ble_eq_true rfl) tw_1_125 rfl dX8_fail_1 ?_
  refine hz_if_ne (tgt := 20) hO dX8_fail_4 (by decide) (fun hc1 => ?_) (fun hc1 => ?_)
  · rw [if_neg hc1] at h
    exact hz_nameM (hz_some_e h).2.symm (hz_vret hO dX8_fail_20)
  · rw [if_pos hc1] at h
    refine hz_aload_n hO dX8_fail_7 rfl 0 rfl ?_
    refine hz_iload_n hO dX8_fail_8 rfl 1 rfl ?_
    obtain ⟨M2, h_M2, h⟩ := hz_lm_e h
    refine hz_putI (k := 6) (ty := .int) hO hz_K_6 tyX8_ok nmX8 hz_sh_9 (hz_lt_9 hN) rfl (Nat.le_of_ble_eq_true rfl) tw_1_125 rfl rfl rfl rfl rfl dX8_fail_9 ?_
    refine hz_nameM h_M2 ?_
    refine hz_aload_n hO dX8_fail_12 rfl 0 rfl ?_
    refine hz_aload_n hO dX8_fail_13 rfl 0 rfl ?_
    refine hz_getI (k := 3) hO hz_K_6 hz_sh_9 (hz_lt_9 hN) rfl (Nat.le_of_ble_eq_true rfl) tw_1_117 rfl dX8_fail_14 ?_
    obtain ⟨M3, h_M3, h⟩ := hz_lm_e h
    refine hz_putI (k := 7) (ty := .int) hO hz_K_6 tyX8_ok nmX8 hz_sh_9 (hz_lt_9 hN) rfl (Nat.le_of_ble_eq_true rfl) tw_1_126 rfl rfl rfl rfl rfl dX8_fail_17 ?_
    refine hz_nameM h_M3 ?_
    exact hz_nameM (hz_some_e h).2.symm (hz_vret hO dX8_fail_20)
def f_X8_checkName (M : hz_M) : hz_O :=
  if (M 9 2) = (1 : Int32) then
    if ((M 9 4) - (M 9 3)) ≤ (6 : Int32) then
      some (0, M)
    else
      hz_ct (f_X8_fail (2 : Int32) M) fun r3 M4 =>
      some (0, M4)
  else
    hz_ct (f_X8_fail (1 : Int32) M) fun r6 M7 =>
    some (0, M7)
set_option maxRecDepth 100000 in
set_option maxHeartbeats 4000000 in
theorem c_X8_checkName (l : Launch) (w : hz_C) {N : Nat} (hN : 178 ≤ N) {M : hz_M} {rE : Int32} {ME : hz_M} (h : f_X8_checkName M = some (rE, ME)) : hz_Ct l yX8_checkName cX8_checkName 1 none 1 w N [.ref (hz_ad w 9)] M (hz_Qv w N ME) := by
  refine hz_ofW (by decide) rfl (Nat.le_of_ble_eq_true rfl) tw_3_8 ?_
  intro p e s m args below meth c hO
  show hz_G p l e 1 hz_z0 s m args below meth c w N 1 _ M 0 [(0, .ref (hz_ad w 9))] []
  unfold f_X8_checkName at h
  refine hz_aload_n hO dX8_checkName_0 rfl 0 rfl ?_
  refine hz_getI (k := 2) hO hz_K_6 hz_sh_9 (hz_lt_9 hN) rfl (Nat.le_of_ble_eq_true rfl) tw_1_114 rfl dX8_checkName_1 ?_
  refine hz_iconst (v := (1 : Int32)) hO dX8_checkName_4 (by decide) ?_
  refine hz_icmp_eq (tgt := 16) hO dX8_checkName_5 (by decide) (fun hc1 => ?_) (fun hc1 => ?_)
  · rw [if_pos hc1] at h
    refine hz_aload_n hO dX8_checkName_16 rfl 0 rfl ?_
    refine hz_getI (k := 4) hO hz_K_6 hz_sh_9 (hz_lt_9 hN) rfl (Nat.le_of_ble_eq_true rfl) tw_1_120 rfl dX8_checkName_17 ?_
    refine hz_aload_n hO dX8_checkName_20 rfl 0 rfl ?_
    refine hz_getI (k := 3) hO hz_K_6 hz_sh_9 (hz_lt_9 hN) rfl (Nat.le_of_ble_eq_true rfl) tw_1_117 rfl dX8_checkName_21 ?_
    refine hz_isub hO dX8_checkName_24 ?_
    refine hz_bipush (v := (6 : Int32)) hO dX8_checkName_25 (by decide) ?_
    refine hz_icmp_le (tgt := 35) hO dX8_checkName_27 (by decide) (fun hc2 => ?_) (fun hc2 => ?_)
    · rw [if_pos hc2] at h
      exact hz_nameM (hz_some_e h).2.symm (hz_vret hO dX8_checkName_35)
    · rw [if_neg hc2] at h
      refine hz_aload_n hO dX8_checkName_30 rfl 0 rfl ?_
      refine hz_iconst (v := (2 : Int32)) hO dX8_checkName_31 (by decide) ?_
      obtain ⟨r3, M4, hq5, h⟩ := hz_ct_e h
      refine hz_callVv (as := [.int (2 : Int32)]) (rest := []) hO (c_X8_fail l w hN (2 : Int32) hq5) hz_cal_X8_fail hz_K_6 hz_sh_9 (hz_lt_9 hN) tw_2_226 (Nat.le_of_ble_eq_true rfl) rfl rfl (Nat.le_of_ble_eq_true rfl) dX8_checkName_32 ?_
      exact hz_nameM (hz_some_e h).2.symm (hz_vret hO dX8_checkName_35)
  · rw [if_neg hc1] at h
    refine hz_aload_n hO dX8_checkName_8 rfl 0 rfl ?_
    refine hz_iconst (v := (1 : Int32)) hO dX8_checkName_9 (by decide) ?_
    obtain ⟨r6, M7, hq8, h⟩ := hz_ct_e h
    refine hz_callVv (as := [.int (1 : Int32)]) (rest := []) hO (c_X8_fail l w hN (1 : Int32) hq8) hz_cal_X8_fail hz_K_6 hz_sh_9 (hz_lt_9 hN) tw_2_226 (Nat.le_of_ble_eq_true rfl) rfl rfl (Nat.le_of_ble_eq_true rfl) dX8_checkName_10 ?_
    refine hz_goto (tgt := 35) hO dX8_checkName_13 (by decide) ?_
    exact hz_nameM (hz_some_e h).2.symm (hz_vret hO dX8_checkName_35)
def f_X3_keepName_L27 (th : Nat) : Nat → Int32 → Int32 → hz_M → hz_O
  | 0, _, _, _ => none
  | n + 1, v2_4, v3_5, M6 =>
    if v2_4 ≤ v3_5 then
      some (0, M6)
    else
      hz_ct (f_X8_byteAt ((M6 9 3) + v3_5) M6) fun r8 M9 =>
      hz_gd (hz_in (((M6 th 3) * (6 : Int32)) + v3_5) 96) <|
      hz_lm (hz_set M9 (th + 2) (Int32.toNatClampNeg (((M6 th 3) * (6 : Int32)) + v3_5)) r8) fun M12 =>
      hz_lt (v3_5 + (1 : Int32)) fun x13 =>
      f_X3_keepName_L27 th n v2_4 x13 M12
def f_X3_keepName (th : Nat) (M : hz_M) : hz_O :=
  hz_lt ((if (6 : Int32) < ((M 9 4) - (M 9 3)) then (6 : Int32) else ((M 9 4) - (M 9 3)))) fun x1 =>
  hz_gd (hz_in (M th 3) 16) <|
  hz_lm (hz_set M (th + 3) (Int32.toNatClampNeg (M th 3)) x1) fun M3 =>
  f_X3_keepName_L27 th hz_FU x1 (0 : Int32) M3
set_option maxRecDepth 100000 in
set_option maxHeartbeats 4000000 in
theorem g_X3_keepName_L27 {p : Program} {l : Launch} {e : Env} {s : State} {m : MethodId} {args : Array Value} {below : List Frame} {meth : Method} {c : Code} {w : hz_C} {N : Nat} (hN : 178 ≤ N) {th : Nat} (hHo : hz_Ho N th) {rE : Int32} {ME : hz_M} (hO : hz_Ok p s m args meth c w cX3_keepName 4 RX3 none) : ∀ (n : Nat) (v2_4 : Int32) (v3_5 : Int32) (M6 : hz_M), f_X3_keepName_L27 th n v2_4 v3_5 M6 = some (rE, ME) → hz_G p l e 1 hz_z0 s m args below meth c w N 4 (MQ below (hz_Qv w N ME) args s 0 0 (hz_A w)) M6 27 [(0, .ref (hz_ad w th)), (1, .ref (hz_ad w 9)), (2, .int v2_4), (3, .int v3_5)] [] := by
  intro n
  induction n with
  | zero =>
    intro v2_4 v3_5 M6 h
    rw [f_X3_keepName_L27] at h
    cases h
  | succ n ih =>
    intro v2_4 v3_5 M6 h
    rw [f_X3_keepName_L27] at h
    refine hz_iload_n hO dX3_keepName_27 rfl 3 rfl ?_
    refine hz_iload_n hO dX3_keepName_28 rfl 2 rfl ?_
    refine hz_icmp_ge (tgt := 62) hO dX3_keepName_29 (by decide) (fun hc7 => ?_) (fun hc7 => ?_)
    · rw [if_pos hc7] at h
      exact hz_nameM (hz_some_e h).2.symm (hz_vret hO dX3_keepName_62)
    · rw [if_neg hc7] at h
      refine hz_aload_n hO dX3_keepName_32 rfl 0 rfl ?_
      refine hz_getR (k := 1) hO (th + 2) hz_K_2 hHo.1 hHo.2.1 rfl (Nat.le_of_ble_eq_true rfl) tw_1_46 rfl dX3_keepName_33 ?_
      refine hz_aload_n hO dX3_keepName_36 rfl 0 rfl ?_
      refine hz_getI (k := 3) hO hz_K_2 hHo.1 hHo.2.1 rfl (Nat.le_of_ble_eq_true rfl) tw_1_49 rfl dX3_keepName_37 ?_
      refine hz_bipush (v := (6 : Int32)) hO dX3_keepName_40 (by decide) ?_
      refine hz_imul hO dX3_keepName_42 ?_
      refine hz_iload_n hO dX3_keepName_43 rfl 3 rfl ?_
      refine hz_iadd hO dX3_keepName_44 ?_
      refine hz_aload_n hO dX3_keepName_45 rfl 1 rfl ?_
      refine hz_aload_n hO dX3_keepName_46 rfl 1 rfl ?_
      refine hz_getI (k := 3) hO hz_K_6 hz_sh_9 (hz_lt_9 hN) rfl (Nat.le_of_ble_eq_true rfl) tw_1_115 rfl dX3_keepName_47 ?_
      refine hz_iload_n hO dX3_keepName_50 rfl 3 rfl ?_
      refine hz_iadd hO dX3_keepName_51 ?_
      obtain ⟨r8, M9, hq10, h⟩ := hz_ct_e h
      refine hz_callVi (as := [.int ((M6 9 3) + v3_5)]) (rest := [.int (((M6 th 3) * (6 : Int32)) + v3_5), .ref (hz_ad w (th + 2))]) hO (c_X8_byteAt l w hN ((M6 9 3) + v3_5) hq10) hz_cal_X8_byteAt hz_K_6 hz_sh_9 (hz_lt_9 hN) tw_3_17 (Nat.le_of_ble_eq_true rfl) rfl rfl (Nat.le_of_ble_eq_true rfl) dX3_keepName_52 ?_
      obtain ⟨hg11, h⟩ := hz_gd_e h
      obtain ⟨M12, h_M12, h⟩ := hz_lm_e h
      refine hz_iast hO hHo.2.2.2.2.1 hHo.2.2.2.2.2.1 hg11 dX3_keepName_55 ?_
      refine hz_nameM h_M12 ?_
      obtain ⟨x13, h_x13, h⟩ := hz_lt_e h
      refine hz_iinc (k := 3) (v := x13) (ls1 := [(3, .int x13), (0, .ref (hz_ad w th)), (1, .ref (hz_ad w 9)), (2, .int v2_4)]) hO dX3_keepName_56 rfl (by rw [h_x13]; rfl) (Nat.le_of_ble_eq_true rfl) rfl ?_
      refine hz_goto (tgt := 27) hO dX3_keepName_59 (by decide) ?_
      exact hz_ls [1, 2, 3, 0] rfl (ih v2_4 x13 M12 h)
set_option maxRecDepth 100000 in
set_option maxHeartbeats 4000000 in
theorem c_X3_keepName (l : Launch) (w : hz_C) {N : Nat} (hN : 178 ≤ N) {th : Nat} (hHo : hz_Ho N th) {M : hz_M} {rE : Int32} {ME : hz_M} (h : f_X3_keepName th M = some (rE, ME)) : hz_Ct l yX3_keepName cX3_keepName 4 none 1 w N [.ref (hz_ad w th), .ref (hz_ad w 9)] M (hz_Qv w N ME) := by
  refine hz_ofW (by decide) rfl (Nat.le_of_ble_eq_true rfl) tw_3_21 ?_
  intro p e s m args below meth c hO
  show hz_G p l e 1 hz_z0 s m args below meth c w N 4 _ M 0 [(0, .ref (hz_ad w th)), (1, .ref (hz_ad w 9))] []
  unfold f_X3_keepName at h
  refine hz_aload_n hO dX3_keepName_0 rfl 1 rfl ?_
  refine hz_getI (k := 4) hO hz_K_6 hz_sh_9 (hz_lt_9 hN) rfl (Nat.le_of_ble_eq_true rfl) tw_1_118 rfl dX3_keepName_1 ?_
  refine hz_aload_n hO dX3_keepName_4 rfl 1 rfl ?_
  refine hz_getI (k := 3) hO hz_K_6 hz_sh_9 (hz_lt_9 hN) rfl (Nat.le_of_ble_eq_true rfl) tw_1_115 rfl dX3_keepName_5 ?_
  refine hz_isub hO dX3_keepName_8 ?_
  refine hz_bipush (v := (6 : Int32)) hO dX3_keepName_9 (by decide) ?_
  refine hz_mmin hO tw_3_22 (Nat.le_of_ble_eq_true rfl) (Nat.le_of_ble_eq_true rfl) dX3_keepName_11 ?_
  obtain ⟨x1, h_x1, h⟩ := hz_lt_e h
  refine hz_name h_x1 ?_
  refine hz_istore_n (ls1 := [(2, .int x1), (0, .ref (hz_ad w th)), (1, .ref (hz_ad w 9))]) hO dX3_keepName_14 rfl (Nat.le_of_ble_eq_true rfl) rfl ?_
  refine hz_aload_n hO dX3_keepName_15 rfl 1 rfl ?_
  refine hz_getR (k := 2) hO (th + 3) hz_K_2 hHo.1 hHo.2.1 rfl (Nat.le_of_ble_eq_true rfl) tw_1_47 rfl dX3_keepName_16 ?_
  refine hz_aload_n hO dX3_keepName_19 rfl 1 rfl ?_
  refine hz_getI (k := 3) hO hz_K_2 hHo.1 hHo.2.1 rfl (Nat.le_of_ble_eq_true rfl) tw_1_49 rfl dX3_keepName_20 ?_
  refine hz_iload_n hO dX3_keepName_23 rfl 0 rfl ?_
  obtain ⟨hg2, h⟩ := hz_gd_e h
  obtain ⟨M3, h_M3, h⟩ := hz_lm_e h
  refine hz_iast hO hHo.2.2.2.2.2.2.1 hHo.2.2.2.2.2.2.2 hg2 dX3_keepName_24 ?_
  refine hz_nameM h_M3 ?_
  refine hz_iconst (v := (0 : Int32)) hO dX3_keepName_25 (by decide) ?_
  refine hz_istore_n (ls1 := [(3, .int (0 : Int32)), (2, .int x1), (0, .ref (hz_ad w th)), (1, .ref (hz_ad w 9))]) hO dX3_keepName_26 rfl (Nat.le_of_ble_eq_true rfl) rfl ?_
  exact hz_ls [2, 3, 1, 0] rfl (g_X3_keepName_L27 hN hHo hO _ x1 (0 : Int32) M3 h)
def f_X3_isNameAt_L3 (th : Nat) : Nat → Int32 → Int32 → Int32 → hz_M → hz_O
  | 0, _, _, _, _ => none
  | n + 1, v1_1, v3_2, v4_3, M4 =>
    hz_gd (hz_in v1_1 16) <|
    if (M4 (th + 3) (Int32.toNatClampNeg v1_1)) ≤ v4_3 then
      some ((1 : Int32), M4)
    else
      hz_gd (hz_in ((v1_1 * (6 : Int32)) + v4_3) 96) <|
      hz_ct (f_X8_byteAt (v3_2 + v4_3) M4) fun r8 M9 =>
      if (M4 (th + 2) (Int32.toNatClampNeg ((v1_1 * (6 : Int32)) + v4_3))) = r8 then
        hz_lt (v4_3 + (1 : Int32)) fun x12 =>
        f_X3_isNameAt_L3 th n v1_1 v3_2 x12 M9
      else
        some ((0 : Int32), M9)
def f_X3_isNameAt (th : Nat) (a1 : Int32) (a3 : Int32) (M : hz_M) : hz_O :=
  f_X3_isNameAt_L3 th hz_FU a1 a3 (0 : Int32) M
set_option maxRecDepth 100000 in
set_option maxHeartbeats 4000000 in
theorem g_X3_isNameAt_L3 {p : Program} {l : Launch} {e : Env} {s : State} {m : MethodId} {args : Array Value} {below : List Frame} {meth : Method} {c : Code} {w : hz_C} {N : Nat} (hN : 178 ≤ N) {th : Nat} (hHo : hz_Ho N th) {rE : Int32} {ME : hz_M} (hO : hz_Ok p s m args meth c w cX3_isNameAt 5 RX3 (some .boolean)) : ∀ (n : Nat) (v1_1 : Int32) (v3_2 : Int32) (v4_3 : Int32) (M4 : hz_M), f_X3_isNameAt_L3 th n v1_1 v3_2 v4_3 M4 = some (rE, ME) → hz_G p l e 1 hz_z0 s m args below meth c w N 5 (MQ below (hz_Qi w N rE ME) args s 0 0 (hz_A w)) M4 3 [(0, .ref (hz_ad w th)), (1, .int v1_1), (2, .ref (hz_ad w 9)), (3, .int v3_2), (4, .int v4_3)] [] := by
  intro n
  induction n with
  | zero =>
    intro v1_1 v3_2 v4_3 M4 h
    rw [f_X3_isNameAt_L3] at h
    cases h
  | succ n ih =>
    intro v1_1 v3_2 v4_3 M4 h
    rw [f_X3_isNameAt_L3] at h
    refine hz_iload hO dX3_isNameAt_3 4 rfl ?_
    refine hz_aload_n hO dX3_isNameAt_5 rfl 0 rfl ?_
    refine hz_getR (k := 2) hO (th + 3) hz_K_2 hHo.1 hHo.2.1 rfl (Nat.le_of_ble_eq_true rfl) tw_1_47 rfl dX3_isNameAt_6 ?_
    refine hz_iload_n hO dX3_isNameAt_9 rfl 1 rfl ?_
    obtain ⟨hg5, h⟩ := hz_gd_e h
    refine hz_iald hO hHo.2.2.2.2.2.2.1 hHo.2.2.2.2.2.2.2 hg5 dX3_isNameAt_10 ?_
    refine hz_icmp_ge (tgt := 45) hO dX3_isNameAt_11 (by decide) (fun hc6 => ?_) (fun hc6 => ?_)
    · rw [if_pos hc6] at h
      refine hz_iconst (v := (1 : Int32)) hO dX3_isNameAt_45 (by decide) ?_
      exact hz_nameM (hz_some_e h).2.symm (hz_name (hz_some_e h).1.symm (hz_zret hO (by rw [← (hz_some_e h).1]; decide) dX3_isNameAt_46))
    · rw [if_neg hc6] at h
      refine hz_aload_n hO dX3_isNameAt_14 rfl 0 rfl ?_
      refine hz_getR (k := 1) hO (th + 2) hz_K_2 hHo.1 hHo.2.1 rfl (Nat.le_of_ble_eq_true rfl) tw_1_46 rfl dX3_isNameAt_15 ?_
      refine hz_iload_n hO dX3_isNameAt_18 rfl 1 rfl ?_
      refine hz_bipush (v := (6 : Int32)) hO dX3_isNameAt_19 (by decide) ?_
      refine hz_imul hO dX3_isNameAt_21 ?_
      refine hz_iload hO dX3_isNameAt_22 4 rfl ?_
      refine hz_iadd hO dX3_isNameAt_24 ?_
      obtain ⟨hg7, h⟩ := hz_gd_e h
      refine hz_iald hO hHo.2.2.2.2.1 hHo.2.2.2.2.2.1 hg7 dX3_isNameAt_25 ?_
      refine hz_aload_n hO dX3_isNameAt_26 rfl 2 rfl ?_
      refine hz_iload_n hO dX3_isNameAt_27 rfl 3 rfl ?_
      refine hz_iload hO dX3_isNameAt_28 4 rfl ?_
      refine hz_iadd hO dX3_isNameAt_30 ?_
      obtain ⟨r8, M9, hq10, h⟩ := hz_ct_e h
      refine hz_callVi (as := [.int (v3_2 + v4_3)]) (rest := [.int (M4 (th + 2) (Int32.toNatClampNeg ((v1_1 * (6 : Int32)) + v4_3)))]) hO (c_X8_byteAt l w hN (v3_2 + v4_3) hq10) hz_cal_X8_byteAt hz_K_6 hz_sh_9 (hz_lt_9 hN) tw_3_17 (Nat.le_of_ble_eq_true rfl) rfl rfl (Nat.le_of_ble_eq_true rfl) dX3_isNameAt_31 ?_
      refine hz_icmp_eq (tgt := 39) hO dX3_isNameAt_34 (by decide) (fun hc11 => ?_) (fun hc11 => ?_)
      · rw [if_pos hc11] at h
        obtain ⟨x12, h_x12, h⟩ := hz_lt_e h
        refine hz_iinc (k := 4) (v := x12) (ls1 := [(4, .int x12), (0, .ref (hz_ad w th)), (1, .int v1_1), (2, .ref (hz_ad w 9)), (3, .int v3_2)]) hO dX3_isNameAt_39 rfl (by rw [h_x12]; rfl) (Nat.le_of_ble_eq_true rfl) rfl ?_
        refine hz_goto (tgt := 3) hO dX3_isNameAt_42 (by decide) ?_
        exact hz_ls [1, 2, 3, 4, 0] rfl (ih v1_1 v3_2 x12 M9 h)
      · rw [if_neg hc11] at h
        refine hz_iconst (v := (0 : Int32)) hO dX3_isNameAt_37 (by decide) ?_
        exact hz_nameM (hz_some_e h).2.symm (hz_name (hz_some_e h).1.symm (hz_zret hO (by rw [← (hz_some_e h).1]; decide) dX3_isNameAt_38))
set_option maxRecDepth 100000 in
set_option maxHeartbeats 4000000 in
theorem c_X3_isNameAt (l : Launch) (w : hz_C) {N : Nat} (hN : 178 ≤ N) {th : Nat} (hHo : hz_Ho N th) (a1 : Int32) (a3 : Int32) {M : hz_M} {rE : Int32} {ME : hz_M} (h : f_X3_isNameAt th a1 a3 M = some (rE, ME)) : hz_Ct l yX3_isNameAt cX3_isNameAt 5 (some .boolean) 1 w N [.ref (hz_ad w th), .int a1, .ref (hz_ad w 9), .int a3] M (hz_Qi w N rE ME) := by
  refine hz_ofW (by decide) rfl (Nat.le_of_ble_eq_true rfl) tw_3_16 ?_
  intro p e s m args below meth c hO
  show hz_G p l e 1 hz_z0 s m args below meth c w N 5 _ M 0 [(0, .ref (hz_ad w th)), (1, .int a1), (2, .ref (hz_ad w 9)), (3, .int a3)] []
  unfold f_X3_isNameAt at h
  refine hz_iconst (v := (0 : Int32)) hO dX3_isNameAt_0 (by decide) ?_
  refine hz_istore (ls1 := [(4, .int (0 : Int32)), (0, .ref (hz_ad w th)), (1, .int a1), (2, .ref (hz_ad w 9)), (3, .int a3)]) hO dX3_isNameAt_1 (Nat.le_of_ble_eq_true rfl) rfl ?_
  exact hz_ls [1, 2, 3, 4, 0] rfl (g_X3_isNameAt_L3 hN hHo hO _ a1 a3 (0 : Int32) M h)
def f_X3_letterOf (a1 : Int32) (a2 : Int32) (M : hz_M) : hz_O :=
  hz_ct (f_X3_isGuest a1 M) fun r1 M2 =>
  if r1 = 0 then
    some ((-1 : Int32), M2)
  else
    if a2 < 0 then
      some ((-1 : Int32), M2)
    else
      hz_gd (hz_in a1 16) <|
      if a2 < (M2 4 (Int32.toNatClampNeg a1)) then
        hz_gd (hz_in ((a1 * (6 : Int32)) + a2) 96) <|
        some ((M2 3 (Int32.toNatClampNeg ((a1 * (6 : Int32)) + a2))), M2)
      else
        some ((-1 : Int32), M2)
set_option maxRecDepth 100000 in
set_option maxHeartbeats 4000000 in
theorem c_X3_letterOf (l : Launch) (w : hz_C) {N : Nat} (hN : 178 ≤ N) (a1 : Int32) (a2 : Int32) {M : hz_M} {rE : Int32} {ME : hz_M} (h : f_X3_letterOf a1 a2 M = some (rE, ME)) : hz_Ct l yX3_letterOf cX3_letterOf 3 (some .int) 1 w N [.ref (hz_ad w 1), .int a1, .int a2] M (hz_Qi w N rE ME) := by
  refine hz_ofW (by decide) rfl (Nat.le_of_ble_eq_true rfl) tw_5_6 ?_
  intro p e s m args below meth c hO
  show hz_G p l e 1 hz_z0 s m args below meth c w N 3 _ M 0 [(0, .ref (hz_ad w 1)), (1, .int a1), (2, .int a2)] []
  unfold f_X3_letterOf at h
  refine hz_aload_n hO dX3_letterOf_0 rfl 0 rfl ?_
  refine hz_iload_n hO dX3_letterOf_1 rfl 1 rfl ?_
  obtain ⟨r1, M2, hq3, h⟩ := hz_ct_e h
  refine hz_callVi (as := [.int a1]) (rest := []) hO (c_X3_isGuest l w hN a1 hq3) hz_cal_X3_isGuest hz_K_2 hz_sh_1 (hz_lt_1 hN) tw_5_7 (Nat.le_of_ble_eq_true rfl) rfl rfl (Nat.le_of_ble_eq_true rfl) dX3_letterOf_2 ?_
  refine hz_if_eq (tgt := 22) hO dX3_letterOf_5 (by decide) (fun hc4 => ?_) (fun hc4 => ?_)
  · rw [if_pos hc4] at h
    refine hz_iconst (v := (-1 : Int32)) hO dX3_letterOf_22 (by decide) ?_
    exact hz_nameM (hz_some_e h).2.symm (hz_name (hz_some_e h).1.symm (hz_iret hO dX3_letterOf_23))
  · rw [if_neg hc4] at h
    refine hz_iload_n hO dX3_letterOf_8 rfl 2 rfl ?_
    refine hz_if_lt (tgt := 22) hO dX3_letterOf_9 (by decide) (fun hc5 => ?_) (fun hc5 => ?_)
    · rw [if_pos hc5] at h
      refine hz_iconst (v := (-1 : Int32)) hO dX3_letterOf_22 (by decide) ?_
      exact hz_nameM (hz_some_e h).2.symm (hz_name (hz_some_e h).1.symm (hz_iret hO dX3_letterOf_23))
    · rw [if_neg hc5] at h
      refine hz_iload_n hO dX3_letterOf_12 rfl 2 rfl ?_
      refine hz_aload_n hO dX3_letterOf_13 rfl 0 rfl ?_
      refine hz_getR (k := 2) hO 4 hz_K_2 hz_sh_1 (hz_lt_1 hN) rfl (Nat.le_of_ble_eq_true rfl) tw_1_47 rfl dX3_letterOf_14 ?_
      refine hz_iload_n hO dX3_letterOf_17 rfl 1 rfl ?_
      obtain ⟨hg6, h⟩ := hz_gd_e h
      refine hz_iald hO hz_sh_4 (hz_lt_4 hN) hg6 dX3_letterOf_18 ?_
      refine hz_icmp_lt (tgt := 24) hO dX3_letterOf_19 (by decide) (fun hc7 => ?_) (fun hc7 => ?_)
      · rw [if_pos hc7] at h
        refine hz_aload_n hO dX3_letterOf_24 rfl 0 rfl ?_
        refine hz_getR (k := 1) hO 3 hz_K_2 hz_sh_1 (hz_lt_1 hN) rfl (Nat.le_of_ble_eq_true rfl) tw_1_46 rfl dX3_letterOf_25 ?_
        refine hz_iload_n hO dX3_letterOf_28 rfl 1 rfl ?_
        refine hz_bipush (v := (6 : Int32)) hO dX3_letterOf_29 (by decide) ?_
        refine hz_imul hO dX3_letterOf_31 ?_
        refine hz_iload_n hO dX3_letterOf_32 rfl 2 rfl ?_
        refine hz_iadd hO dX3_letterOf_33 ?_
        obtain ⟨hg8, h⟩ := hz_gd_e h
        refine hz_iald hO hz_sh_3 (hz_lt_3 hN) hg8 dX3_letterOf_34 ?_
        exact hz_nameM (hz_some_e h).2.symm (hz_name (hz_some_e h).1.symm (hz_iret hO dX3_letterOf_35))
      · rw [if_neg hc7] at h
        refine hz_iconst (v := (-1 : Int32)) hO dX3_letterOf_22 (by decide) ?_
        exact hz_nameM (hz_some_e h).2.symm (hz_name (hz_some_e h).1.symm (hz_iret hO dX3_letterOf_23))
def f_X8_append_L3 : Nat → Int32 → Int32 → hz_M → hz_O
  | 0, _, _, _ => none
  | n + 1, v1_1, v2_2, M3 =>
    if v2_2 < 0 then
      some (0, M3)
    else
      hz_ct (f_X8_put (((v1_1).toUInt32 >>> ((v2_2).toUInt32 &&& Int32.toUInt32 31)).toInt32 &&& (255 : Int32)) M3) fun r5 M6 =>
      hz_lt (v2_2 + (-8 : Int32)) fun x8 =>
      f_X8_append_L3 n v1_1 x8 M6
def f_X8_append (a1 : Int32) (M : hz_M) : hz_O :=
  f_X8_append_L3 hz_FU a1 (24 : Int32) M
set_option maxRecDepth 100000 in
set_option maxHeartbeats 4000000 in
theorem g_X8_append_L3 {p : Program} {l : Launch} {e : Env} {s : State} {m : MethodId} {args : Array Value} {below : List Frame} {meth : Method} {c : Code} {w : hz_C} {N : Nat} (hN : 178 ≤ N) {rE : Int32} {ME : hz_M} (hO : hz_Ok p s m args meth c w cX8_append 3 RX8 none) : ∀ (n : Nat) (v1_1 : Int32) (v2_2 : Int32) (M3 : hz_M), f_X8_append_L3 n v1_1 v2_2 M3 = some (rE, ME) → hz_G p l e 1 hz_z0 s m args below meth c w N 3 (MQ below (hz_Qv w N ME) args s 0 0 (hz_A w)) M3 3 [(0, .ref (hz_ad w 9)), (1, .int v1_1), (2, .int v2_2)] [] := by
  intro n
  induction n with
  | zero =>
    intro v1_1 v2_2 M3 h
    rw [f_X8_append_L3] at h
    cases h
  | succ n ih =>
    intro v1_1 v2_2 M3 h
    rw [f_X8_append_L3] at h
    refine hz_iload_n hO dX8_append_3 rfl 2 rfl ?_
    refine hz_if_lt (tgt := 24) hO dX8_append_4 (by decide) (fun hc4 => ?_) (fun hc4 => ?_)
    · rw [if_pos hc4] at h
      exact hz_nameM (hz_some_e h).2.symm (hz_vret hO dX8_append_24)
    · rw [if_neg hc4] at h
      refine hz_aload_n hO dX8_append_7 rfl 0 rfl ?_
      refine hz_iload_n hO dX8_append_8 rfl 1 rfl ?_
      refine hz_iload_n hO dX8_append_9 rfl 2 rfl ?_
      refine hz_iushr hO dX8_append_10 ?_
      refine hz_sipush (v := (255 : Int32)) hO dX8_append_11 (by decide) ?_
      refine hz_iand hO dX8_append_14 ?_
      obtain ⟨r5, M6, hq7, h⟩ := hz_ct_e h
      refine hz_callVv (as := [.int (((v1_1).toUInt32 >>> ((v2_2).toUInt32 &&& Int32.toUInt32 31)).toInt32 &&& (255 : Int32))]) (rest := []) hO (c_X8_put l w hN (((v1_1).toUInt32 >>> ((v2_2).toUInt32 &&& Int32.toUInt32 31)).toInt32 &&& (255 : Int32)) hq7) hz_cal_X8_put hz_K_6 hz_sh_9 (hz_lt_9 hN) tw_2_178 (Nat.le_of_ble_eq_true rfl) rfl rfl (Nat.le_of_ble_eq_true rfl) dX8_append_15 ?_
      obtain ⟨x8, h_x8, h⟩ := hz_lt_e h
      refine hz_iinc (k := 2) (v := x8) (ls1 := [(2, .int x8), (0, .ref (hz_ad w 9)), (1, .int v1_1)]) hO dX8_append_18 rfl (by rw [h_x8]; rfl) (Nat.le_of_ble_eq_true rfl) rfl ?_
      refine hz_goto (tgt := 3) hO dX8_append_21 (by decide) ?_
      exact hz_ls [1, 2, 0] rfl (ih v1_1 x8 M6 h)
set_option maxRecDepth 100000 in
set_option maxHeartbeats 4000000 in
theorem c_X8_append (l : Launch) (w : hz_C) {N : Nat} (hN : 178 ≤ N) (a1 : Int32) {M : hz_M} {rE : Int32} {ME : hz_M} (h : f_X8_append a1 M = some (rE, ME)) : hz_Ct l yX8_append cX8_append 3 none 1 w N [.ref (hz_ad w 9), .int a1] M (hz_Qv w N ME) := by
  refine hz_ofW (by decide) rfl (Nat.le_of_ble_eq_true rfl) tw_3_85 ?_
  intro p e s m args below meth c hO
  show hz_G p l e 1 hz_z0 s m args below meth c w N 3 _ M 0 [(0, .ref (hz_ad w 9)), (1, .int a1)] []
  unfold f_X8_append at h
  refine hz_bipush (v := (24 : Int32)) hO dX8_append_0 (by decide) ?_
  refine hz_istore_n (ls1 := [(2, .int (24 : Int32)), (0, .ref (hz_ad w 9)), (1, .int a1)]) hO dX8_append_2 rfl (Nat.le_of_ble_eq_true rfl) rfl ?_
  exact hz_ls [1, 2, 0] rfl (g_X8_append_L3 hN hO _ a1 (24 : Int32) M h)
def f_X8_advance_L143 : Nat → hz_M → hz_O
  | 0, _ => none
  | n + 1, M27 =>
    if (M27 9 1) ≤ (M27 9 4) then
      some (0, M27)
    else
      hz_ct (f_X8_byteAt (M27 9 4) M27) fun r29 M30 =>
      hz_ct (f_X8_isDigit r29 M30) fun r32 M33 =>
      if r32 = 0 then
        some (0, M33)
      else
        hz_ct (f_X8_byteAt (M33 9 4) M33) fun r36 M37 =>
        hz_lm (hz_set M37 9 5 (if ((((M33 9 5) * (10 : Int32)) + r36) - (48 : Int32)) < (10000 : Int32) then ((((M33 9 5) * (10 : Int32)) + r36) - (48 : Int32)) else (10000 : Int32))) fun M39 =>
        hz_lm (hz_set M39 9 4 ((M39 9 4) + (1 : Int32))) fun M40 =>
        f_X8_advance_L143 n M40
def f_X8_advance_L88 : Nat → hz_M → hz_O
  | 0, _ => none
  | n + 1, M42 =>
    if (M42 9 1) ≤ (M42 9 4) then
      some (0, M42)
    else
      hz_ct (f_X8_byteAt (M42 9 4) M42) fun r44 M45 =>
      hz_ct (f_X8_isLetter r44 M45) fun r47 M48 =>
      if r47 = 0 then
        some (0, M48)
      else
        hz_lm (hz_set M48 9 4 ((M48 9 4) + (1 : Int32))) fun M51 =>
        f_X8_advance_L88 n M51
def f_X8_advance_L8 (kk46 : hz_M → hz_O) : Nat → hz_M → hz_O
  | 0, _ => none
  | n + 1, M54 =>
    if (M54 9 1) ≤ (M54 9 3) then
      kk46 M54
    else
      hz_ct (f_X8_byteAt (M54 9 3) M54) fun r56 M57 =>
      hz_ct (f_X8_isBlank r56 M57) fun r59 M60 =>
      if r59 = 0 then
        kk46 M60
      else
        hz_lm (hz_set M60 9 3 ((M60 9 3) + (1 : Int32))) fun M63 =>
        f_X8_advance_L8 kk46 n M63
def f_X8_advance (M : hz_M) : hz_O :=
  hz_lm (hz_set M 9 3 (M 9 4)) fun M1 =>
  hz_jn (fun  (M2 : hz_M) =>
    hz_ct (f_X8_byteAt (M2 9 3) M2) fun r3 M4 =>
    hz_lm (hz_set M4 9 4 (M4 9 3)) fun M6 =>
    if r3 = (-1 : Int32) then
      hz_lm (hz_set M6 9 2 (0 : Int32)) fun M52 =>
      some (0, M52)
    else
      hz_ct (f_X8_isLetter r3 M6) fun r8 M9 =>
      if r8 = 0 then
        hz_ct (f_X8_isDigit r3 M9) fun r12 M13 =>
        if r12 = 0 then
          hz_ct (f_X8_isSign r3 M13) fun r16 M17 =>
          hz_jn (fun (q19 : Int32) (M20 : hz_M) =>
            hz_lm (hz_set M20 9 2 q19) fun M21 =>
            hz_lm (hz_set M21 9 4 ((M21 9 4) + (1 : Int32))) fun M22 =>
            some (0, M22)
            ) fun k23 =>
          if r16 = 0 then
            k23 (3 : Int32) M17
          else
            k23 r3 M17
        else
          hz_lm (hz_set M13 9 2 (2 : Int32)) fun M25 =>
          hz_lm (hz_set M25 9 5 (0 : Int32)) fun M26 =>
          f_X8_advance_L143 hz_FU M26
      else
        hz_lm (hz_set M9 9 2 (1 : Int32)) fun M41 =>
        f_X8_advance_L88 hz_FU M41
    ) fun k53 =>
  f_X8_advance_L8 k53 hz_FU M1
set_option maxRecDepth 100000 in
set_option maxHeartbeats 4000000 in
theorem g_X8_advance_L143 {p : Program} {l : Launch} {e : Env} {s : State} {m : MethodId} {args : Array Value} {below : List Frame} {meth : Method} {c : Code} {w : hz_C} {N : Nat} (hN : 178 ≤ N) {rE : Int32} {ME : hz_M} (hO : hz_Ok p s m args meth c w cX8_advance 2 RX8 none) : ∀ (n : Nat)  (M27 : hz_M), f_X8_advance_L143 n M27 = some (rE, ME) → hz_G p l e 1 hz_z0 s m args below meth c w N 2 (MQ below (hz_Qv w N ME) args s 0 0 (hz_A w)) M27 143 [(0, .ref (hz_ad w 9))] [] := by
  intro n
  induction n with
  | zero =>
    intro M27 h
    rw [f_X8_advance_L143] at h
    cases h
  | succ n ih =>
    intro M27 h
    rw [f_X8_advance_L143] at h
    refine hz_aload_n hO dX8_advance_143 rfl 0 rfl ?_
    refine hz_getI (k := 4) hO hz_K_6 hz_sh_9 (hz_lt_9 hN) rfl (Nat.le_of_ble_eq_true rfl) tw_1_120 rfl dX8_advance_144 ?_
    refine hz_aload_n hO dX8_advance_147 rfl 0 rfl ?_
    refine hz_getI (k := 1) hO hz_K_6 hz_sh_9 (hz_lt_9 hN) rfl (Nat.le_of_ble_eq_true rfl) tw_1_110 rfl dX8_advance_148 ?_
    refine hz_icmp_ge (tgt := 236) hO dX8_advance_151 (by decide) (fun hc28 => ?_) (fun hc28 => ?_)
    · rw [if_pos hc28] at h
      exact hz_nameM (hz_some_e h).2.symm (hz_vret hO dX8_advance_236)
    · rw [if_neg hc28] at h
      refine hz_aload_n hO dX8_advance_154 rfl 0 rfl ?_
      refine hz_aload_n hO dX8_advance_155 rfl 0 rfl ?_
      refine hz_getI (k := 4) hO hz_K_6 hz_sh_9 (hz_lt_9 hN) rfl (Nat.le_of_ble_eq_true rfl) tw_1_120 rfl dX8_advance_156 ?_
      obtain ⟨r29, M30, hq31, h⟩ := hz_ct_e h
      refine hz_callVi (as := [.int (M27 9 4)]) (rest := []) hO (c_X8_byteAt l w hN (M27 9 4) hq31) hz_cal_X8_byteAt hz_K_6 hz_sh_9 (hz_lt_9 hN) tw_2_194 (Nat.le_of_ble_eq_true rfl) rfl rfl (Nat.le_of_ble_eq_true rfl) dX8_advance_159 ?_
      obtain ⟨r32, M33, hq34, h⟩ := hz_ct_e h
      refine hz_callSi (as := [.int r29]) (rest := []) hO (c_X8_isDigit l w hN r29 hq34) hz_cal_X8_isDigit tw_2_204 (Nat.le_of_ble_eq_true rfl) rfl rfl (Nat.le_of_ble_eq_true rfl) dX8_advance_162 ?_
      refine hz_if_eq (tgt := 236) hO dX8_advance_165 (by decide) (fun hc35 => ?_) (fun hc35 => ?_)
      · rw [if_pos hc35] at h
        exact hz_nameM (hz_some_e h).2.symm (hz_vret hO dX8_advance_236)
      · rw [if_neg hc35] at h
        refine hz_aload_n hO dX8_advance_168 rfl 0 rfl ?_
        refine hz_sipush (v := (10000 : Int32)) hO dX8_advance_169 (by decide) ?_
        refine hz_aload_n hO dX8_advance_172 rfl 0 rfl ?_
        refine hz_getI (k := 5) hO hz_K_6 hz_sh_9 (hz_lt_9 hN) rfl (Nat.le_of_ble_eq_true rfl) tw_1_121 rfl dX8_advance_173 ?_
        refine hz_bipush (v := (10 : Int32)) hO dX8_advance_176 (by decide) ?_
        refine hz_imul hO dX8_advance_178 ?_
        refine hz_aload_n hO dX8_advance_179 rfl 0 rfl ?_
        refine hz_aload_n hO dX8_advance_180 rfl 0 rfl ?_
        refine hz_getI (k := 4) hO hz_K_6 hz_sh_9 (hz_lt_9 hN) rfl (Nat.le_of_ble_eq_true rfl) tw_1_120 rfl dX8_advance_181 ?_
        obtain ⟨r36, M37, hq38, h⟩ := hz_ct_e h
        refine hz_callVi (as := [.int (M33 9 4)]) (rest := [.int ((M33 9 5) * (10 : Int32)), .int (10000 : Int32), .ref (hz_ad w 9)]) hO (c_X8_byteAt l w hN (M33 9 4) hq38) hz_cal_X8_byteAt hz_K_6 hz_sh_9 (hz_lt_9 hN) tw_2_194 (Nat.le_of_ble_eq_true rfl) rfl rfl (Nat.le_of_ble_eq_true rfl) dX8_advance_184 ?_
        refine hz_iadd hO dX8_advance_187 ?_
        refine hz_bipush (v := (48 : Int32)) hO dX8_advance_188 (by decide) ?_
        refine hz_isub hO dX8_advance_190 ?_
        refine hz_mmin hO tw_2_207 (Nat.le_of_ble_eq_true rfl) (Nat.le_of_ble_eq_true rfl) dX8_advance_191 ?_
        obtain ⟨M39, h_M39, h⟩ := hz_lm_e h
        refine hz_putI (k := 5) (ty := .int) hO hz_K_6 tyX8_ok nmX8 hz_sh_9 (hz_lt_9 hN) rfl (Nat.le_of_ble_eq_true rfl) tw_1_121 rfl rfl rfl rfl rfl dX8_advance_194 ?_
        refine hz_nameM h_M39 ?_
        refine hz_aload_n hO dX8_advance_197 rfl 0 rfl ?_
        refine hz_dup hO dX8_advance_198 rfl ?_
        refine hz_getI (k := 4) hO hz_K_6 hz_sh_9 (hz_lt_9 hN) rfl (Nat.le_of_ble_eq_true rfl) tw_1_120 rfl dX8_advance_199 ?_
        refine hz_iconst (v := (1 : Int32)) hO dX8_advance_202 (by decide) ?_
        refine hz_iadd hO dX8_advance_203 ?_
        obtain ⟨M40, h_M40, h⟩ := hz_lm_e h
        refine hz_putI (k := 4) (ty := .int) hO hz_K_6 tyX8_ok nmX8 hz_sh_9 (hz_lt_9 hN) rfl (Nat.le_of_ble_eq_true rfl) tw_1_120 rfl rfl rfl rfl rfl dX8_advance_204 ?_
        refine hz_nameM h_M40 ?_
        refine hz_goto (tgt := 143) hO dX8_advance_207 (by decide) ?_
        exact hz_ls [0] rfl (ih M40 h)
set_option maxRecDepth 100000 in
set_option maxHeartbeats 4000000 in
theorem g_X8_advance_L88 {p : Program} {l : Launch} {e : Env} {s : State} {m : MethodId} {args : Array Value} {below : List Frame} {meth : Method} {c : Code} {w : hz_C} {N : Nat} (hN : 178 ≤ N) {rE : Int32} {ME : hz_M} (hO : hz_Ok p s m args meth c w cX8_advance 2 RX8 none) : ∀ (n : Nat)  (M42 : hz_M), f_X8_advance_L88 n M42 = some (rE, ME) → hz_G p l e 1 hz_z0 s m args below meth c w N 2 (MQ below (hz_Qv w N ME) args s 0 0 (hz_A w)) M42 88 [(0, .ref (hz_ad w 9))] [] := by
  intro n
  induction n with
  | zero =>
    intro M42 h
    rw [f_X8_advance_L88] at h
    cases h
  | succ n ih =>
    intro M42 h
    rw [f_X8_advance_L88] at h
    refine hz_aload_n hO dX8_advance_88 rfl 0 rfl ?_
    refine hz_getI (k := 4) hO hz_K_6 hz_sh_9 (hz_lt_9 hN) rfl (Nat.le_of_ble_eq_true rfl) tw_1_120 rfl dX8_advance_89 ?_
    refine hz_aload_n hO dX8_advance_92 rfl 0 rfl ?_
    refine hz_getI (k := 1) hO hz_K_6 hz_sh_9 (hz_lt_9 hN) rfl (Nat.le_of_ble_eq_true rfl) tw_1_110 rfl dX8_advance_93 ?_
    refine hz_icmp_ge (tgt := 236) hO dX8_advance_96 (by decide) (fun hc43 => ?_) (fun hc43 => ?_)
    · rw [if_pos hc43] at h
      exact hz_nameM (hz_some_e h).2.symm (hz_vret hO dX8_advance_236)
    · rw [if_neg hc43] at h
      refine hz_aload_n hO dX8_advance_99 rfl 0 rfl ?_
      refine hz_aload_n hO dX8_advance_100 rfl 0 rfl ?_
      refine hz_getI (k := 4) hO hz_K_6 hz_sh_9 (hz_lt_9 hN) rfl (Nat.le_of_ble_eq_true rfl) tw_1_120 rfl dX8_advance_101 ?_
      obtain ⟨r44, M45, hq46, h⟩ := hz_ct_e h
      refine hz_callVi (as := [.int (M42 9 4)]) (rest := []) hO (c_X8_byteAt l w hN (M42 9 4) hq46) hz_cal_X8_byteAt hz_K_6 hz_sh_9 (hz_lt_9 hN) tw_2_194 (Nat.le_of_ble_eq_true rfl) rfl rfl (Nat.le_of_ble_eq_true rfl) dX8_advance_104 ?_
      obtain ⟨r47, M48, hq49, h⟩ := hz_ct_e h
      refine hz_callSi (as := [.int r44]) (rest := []) hO (c_X8_isLetter l w hN r44 hq49) hz_cal_X8_isLetter tw_2_201 (Nat.le_of_ble_eq_true rfl) rfl rfl (Nat.le_of_ble_eq_true rfl) dX8_advance_107 ?_
      refine hz_if_eq (tgt := 236) hO dX8_advance_110 (by decide) (fun hc50 => ?_) (fun hc50 => ?_)
      · rw [if_pos hc50] at h
        exact hz_nameM (hz_some_e h).2.symm (hz_vret hO dX8_advance_236)
      · rw [if_neg hc50] at h
        refine hz_aload_n hO dX8_advance_113 rfl 0 rfl ?_
        refine hz_dup hO dX8_advance_114 rfl ?_
        refine hz_getI (k := 4) hO hz_K_6 hz_sh_9 (hz_lt_9 hN) rfl (Nat.le_of_ble_eq_true rfl) tw_1_120 rfl dX8_advance_115 ?_
        refine hz_iconst (v := (1 : Int32)) hO dX8_advance_118 (by decide) ?_
        refine hz_iadd hO dX8_advance_119 ?_
        obtain ⟨M51, h_M51, h⟩ := hz_lm_e h
        refine hz_putI (k := 4) (ty := .int) hO hz_K_6 tyX8_ok nmX8 hz_sh_9 (hz_lt_9 hN) rfl (Nat.le_of_ble_eq_true rfl) tw_1_120 rfl rfl rfl rfl rfl dX8_advance_120 ?_
        refine hz_nameM h_M51 ?_
        refine hz_goto (tgt := 88) hO dX8_advance_123 (by decide) ?_
        exact hz_ls [0] rfl (ih M51 h)
set_option maxRecDepth 100000 in
set_option maxHeartbeats 4000000 in
theorem g_X8_advance_L8 {p : Program} {l : Launch} {e : Env} {s : State} {m : MethodId} {args : Array Value} {below : List Frame} {meth : Method} {c : Code} {w : hz_C} {N : Nat} (hN : 178 ≤ N) {rE : Int32} {ME : hz_M} (hO : hz_Ok p s m args meth c w cX8_advance 2 RX8 none) (kk46 : hz_M → hz_O) (gkk46 : ∀  (M : hz_M), kk46 M = some (rE, ME) → hz_G p l e 1 hz_z0 s m args below meth c w N 2 (MQ below (hz_Qv w N ME) args s 0 0 (hz_A w)) M 46 [(0, .ref (hz_ad w 9))] []) : ∀ (n : Nat)  (M54 : hz_M), f_X8_advance_L8 kk46 n M54 = some (rE, ME) → hz_G p l e 1 hz_z0 s m args below meth c w N 2 (MQ below (hz_Qv w N ME) args s 0 0 (hz_A w)) M54 8 [(0, .ref (hz_ad w 9))] [] := by
  intro n
  induction n with
  | zero =>
    intro M54 h
    rw [f_X8_advance_L8] at h
    cases h
  | succ n ih =>
    intro M54 h
    rw [f_X8_advance_L8] at h
    refine hz_aload_n hO dX8_advance_8 rfl 0 rfl ?_
    refine hz_getI (k := 3) hO hz_K_6 hz_sh_9 (hz_lt_9 hN) rfl (Nat.le_of_ble_eq_true rfl) tw_1_117 rfl dX8_advance_9 ?_
    refine hz_aload_n hO dX8_advance_12 rfl 0 rfl ?_
    refine hz_getI (k := 1) hO hz_K_6 hz_sh_9 (hz_lt_9 hN) rfl (Nat.le_of_ble_eq_true rfl) tw_1_110 rfl dX8_advance_13 ?_
    refine hz_icmp_ge (tgt := 46) hO dX8_advance_16 (by decide) (fun hc55 => ?_) (fun hc55 => ?_)
    · rw [if_pos hc55] at h
      exact hz_ls [0] rfl (gkk46 M54 h)
    · rw [if_neg hc55] at h
      refine hz_aload_n hO dX8_advance_19 rfl 0 rfl ?_
      refine hz_aload_n hO dX8_advance_20 rfl 0 rfl ?_
      refine hz_getI (k := 3) hO hz_K_6 hz_sh_9 (hz_lt_9 hN) rfl (Nat.le_of_ble_eq_true rfl) tw_1_117 rfl dX8_advance_21 ?_
      obtain ⟨r56, M57, hq58, h⟩ := hz_ct_e h
      refine hz_callVi (as := [.int (M54 9 3)]) (rest := []) hO (c_X8_byteAt l w hN (M54 9 3) hq58) hz_cal_X8_byteAt hz_K_6 hz_sh_9 (hz_lt_9 hN) tw_2_194 (Nat.le_of_ble_eq_true rfl) rfl rfl (Nat.le_of_ble_eq_true rfl) dX8_advance_24 ?_
      obtain ⟨r59, M60, hq61, h⟩ := hz_ct_e h
      refine hz_callSi (as := [.int r56]) (rest := []) hO (c_X8_isBlank l w hN r56 hq61) hz_cal_X8_isBlank tw_2_198 (Nat.le_of_ble_eq_true rfl) rfl rfl (Nat.le_of_ble_eq_true rfl) dX8_advance_27 ?_
      refine hz_if_eq (tgt := 46) hO dX8_advance_30 (by decide) (fun hc62 => ?_) (fun hc62 => ?_)
      · rw [if_pos hc62] at h
        exact hz_ls [0] rfl (gkk46 M60 h)
      · rw [if_neg hc62] at h
        refine hz_aload_n hO dX8_advance_33 rfl 0 rfl ?_
        refine hz_dup hO dX8_advance_34 rfl ?_
        refine hz_getI (k := 3) hO hz_K_6 hz_sh_9 (hz_lt_9 hN) rfl (Nat.le_of_ble_eq_true rfl) tw_1_117 rfl dX8_advance_35 ?_
        refine hz_iconst (v := (1 : Int32)) hO dX8_advance_38 (by decide) ?_
        refine hz_iadd hO dX8_advance_39 ?_
        obtain ⟨M63, h_M63, h⟩ := hz_lm_e h
        refine hz_putI (k := 3) (ty := .int) hO hz_K_6 tyX8_ok nmX8 hz_sh_9 (hz_lt_9 hN) rfl (Nat.le_of_ble_eq_true rfl) tw_1_117 rfl rfl rfl rfl rfl dX8_advance_40 ?_
        refine hz_nameM h_M63 ?_
        refine hz_goto (tgt := 8) hO dX8_advance_43 (by decide) ?_
        exact hz_ls [0] rfl (ih M63 h)
set_option maxRecDepth 100000 in
set_option maxHeartbeats 4000000 in
theorem c_X8_advance (l : Launch) (w : hz_C) {N : Nat} (hN : 178 ≤ N) {M : hz_M} {rE : Int32} {ME : hz_M} (h : f_X8_advance M = some (rE, ME)) : hz_Ct l yX8_advance cX8_advance 2 none 1 w N [.ref (hz_ad w 9)] M (hz_Qv w N ME) := by
  refine hz_ofW (by decide) rfl (Nat.le_of_ble_eq_true rfl) tw_2_193 ?_
  intro p e s m args below meth c hO
  show hz_G p l e 1 hz_z0 s m args below meth c w N 2 _ M 0 [(0, .ref (hz_ad w 9))] []
  unfold f_X8_advance at h
  refine hz_aload_n hO dX8_advance_0 rfl 0 rfl ?_
  refine hz_aload_n hO dX8_advance_1 rfl 0 rfl ?_
  refine hz_getI (k := 4) hO hz_K_6 hz_sh_9 (hz_lt_9 hN) rfl (Nat.le_of_ble_eq_true rfl) tw_1_120 rfl dX8_advance_2 ?_
  obtain ⟨M1, h_M1, h⟩ := hz_lm_e h
  refine hz_putI (k := 3) (ty := .int) hO hz_K_6 tyX8_ok nmX8 hz_sh_9 (hz_lt_9 hN) rfl (Nat.le_of_ble_eq_true rfl) tw_1_117 rfl rfl rfl rfl rfl dX8_advance_5 ?_
  refine hz_nameM h_M1 ?_
  obtain ⟨k53, hk53, h⟩ := hz_jn_e h
  have gk53 : ∀  (M2 : hz_M), k53 M2 = some (rE, ME) → hz_G p l e 1 hz_z0 s m args below meth c w N 2 (MQ below (hz_Qv w N ME) args s 0 0 (hz_A w)) M2 46 [(0, .ref (hz_ad w 9))] [] := by
    intro M2 h
    rw [hk53] at h
    dsimp only at h
    refine hz_aload_n hO dX8_advance_46 rfl 0 rfl ?_
    refine hz_aload_n hO dX8_advance_47 rfl 0 rfl ?_
    refine hz_getI (k := 3) hO hz_K_6 hz_sh_9 (hz_lt_9 hN) rfl (Nat.le_of_ble_eq_true rfl) tw_1_117 rfl dX8_advance_48 ?_
    obtain ⟨r3, M4, hq5, h⟩ := hz_ct_e h
    refine hz_callVi (as := [.int (M2 9 3)]) (rest := []) hO (c_X8_byteAt l w hN (M2 9 3) hq5) hz_cal_X8_byteAt hz_K_6 hz_sh_9 (hz_lt_9 hN) tw_2_194 (Nat.le_of_ble_eq_true rfl) rfl rfl (Nat.le_of_ble_eq_true rfl) dX8_advance_51 ?_
    refine hz_istore_n (ls1 := [(1, .int r3), (0, .ref (hz_ad w 9))]) hO dX8_advance_54 rfl (Nat.le_of_ble_eq_true rfl) rfl ?_
    refine hz_aload_n hO dX8_advance_55 rfl 1 rfl ?_
    refine hz_aload_n hO dX8_advance_56 rfl 1 rfl ?_
    refine hz_getI (k := 3) hO hz_K_6 hz_sh_9 (hz_lt_9 hN) rfl (Nat.le_of_ble_eq_true rfl) tw_1_117 rfl dX8_advance_57 ?_
    obtain ⟨M6, h_M6, h⟩ := hz_lm_e h
    refine hz_putI (k := 4) (ty := .int) hO hz_K_6 tyX8_ok nmX8 hz_sh_9 (hz_lt_9 hN) rfl (Nat.le_of_ble_eq_true rfl) tw_1_120 rfl rfl rfl rfl rfl dX8_advance_60 ?_
    refine hz_nameM h_M6 ?_
    refine hz_iload_n hO dX8_advance_63 rfl 0 rfl ?_
    refine hz_iconst (v := (-1 : Int32)) hO dX8_advance_64 (by decide) ?_
    refine hz_icmp_ne (tgt := 76) hO dX8_advance_65 (by decide) (fun hc7 => ?_) (fun hc7 => ?_)
    · rw [if_neg hc7] at h
      refine hz_iload_n hO dX8_advance_76 rfl 0 rfl ?_
      obtain ⟨r8, M9, hq10, h⟩ := hz_ct_e h
      refine hz_callSi (as := [.int r3]) (rest := []) hO (c_X8_isLetter l w hN r3 hq10) hz_cal_X8_isLetter tw_2_201 (Nat.le_of_ble_eq_true rfl) rfl rfl (Nat.le_of_ble_eq_true rfl) dX8_advance_77 ?_
      refine hz_if_eq (tgt := 126) hO dX8_advance_80 (by decide) (fun hc11 => ?_) (fun hc11 => ?_)
      · rw [if_pos hc11] at h
        refine hz_iload_n hO dX8_advance_126 rfl 0 rfl ?_
        obtain ⟨r12, M13, hq14, h⟩ := hz_ct_e h
        refine hz_callSi (as := [.int r3]) (rest := []) hO (c_X8_isDigit l w hN r3 hq14) hz_cal_X8_isDigit tw_2_204 (Nat.le_of_ble_eq_true rfl) rfl rfl (Nat.le_of_ble_eq_true rfl) dX8_advance_127 ?_
        refine hz_if_eq (tgt := 210) hO dX8_advance_130 (by decide) (fun hc15 => ?_) (fun hc15 => ?_)
        · rw [if_pos hc15] at h
          refine hz_aload_n hO dX8_advance_210 rfl 1 rfl ?_
          refine hz_iload_n hO dX8_advance_211 rfl 0 rfl ?_
          obtain ⟨r16, M17, hq18, h⟩ := hz_ct_e h
          refine hz_callSi (as := [.int r3]) (rest := [.ref (hz_ad w 9)]) hO (c_X8_isSign l w hN r3 hq18) hz_cal_X8_isSign tw_2_210 (Nat.le_of_ble_eq_true rfl) rfl rfl (Nat.le_of_ble_eq_true rfl) dX8_advance_212 ?_
          obtain ⟨k23, hk23, h⟩ := hz_jn_e h
          have gk23 : ∀ (q19 : Int32) (M20 : hz_M), k23 q19 M20 = some (rE, ME) → hz_G p l e 1 hz_z0 s m args below meth c w N 2 (MQ below (hz_Qv w N ME) args s 0 0 (hz_A w)) M20 223 [(0, .ref (hz_ad w 9))] [.int q19, .ref (hz_ad w 9)] := by
            intro q19 M20 h
            rw [hk23] at h
            dsimp only at h
            obtain ⟨M21, h_M21, h⟩ := hz_lm_e h
            refine hz_putI (k := 2) (ty := .int) hO hz_K_6 tyX8_ok nmX8 hz_sh_9 (hz_lt_9 hN) rfl (Nat.le_of_ble_eq_true rfl) tw_1_114 rfl rfl rfl rfl rfl dX8_advance_223 ?_
            refine hz_nameM h_M21 ?_
            refine hz_aload_n hO dX8_advance_226 rfl 0 rfl ?_
            refine hz_dup hO dX8_advance_227 rfl ?_
            refine hz_getI (k := 4) hO hz_K_6 hz_sh_9 (hz_lt_9 hN) rfl (Nat.le_of_ble_eq_true rfl) tw_1_120 rfl dX8_advance_228 ?_
            refine hz_iconst (v := (1 : Int32)) hO dX8_advance_231 (by decide) ?_
            refine hz_iadd hO dX8_advance_232 ?_
            obtain ⟨M22, h_M22, h⟩ := hz_lm_e h
            refine hz_putI (k := 4) (ty := .int) hO hz_K_6 tyX8_ok nmX8 hz_sh_9 (hz_lt_9 hN) rfl (Nat.le_of_ble_eq_true rfl) tw_1_120 rfl rfl rfl rfl rfl dX8_advance_233 ?_
            refine hz_nameM h_M22 ?_
            exact hz_nameM (hz_some_e h).2.symm (hz_vret hO dX8_advance_236)
          clear hk23
          refine hz_if_eq (tgt := 222) hO dX8_advance_215 (by decide) (fun hc24 => ?_) (fun hc24 => ?_)
          · rw [if_pos hc24] at h
            refine hz_iconst (v := (3 : Int32)) hO dX8_advance_222 (by decide) ?_
            exact hz_ls [1] rfl (gk23 (3 : Int32) M17 h)
          · rw [if_neg hc24] at h
            refine hz_iload_n hO dX8_advance_218 rfl 0 rfl ?_
            refine hz_goto (tgt := 223) hO dX8_advance_219 (by decide) ?_
            exact hz_ls [1] rfl (gk23 r3 M17 h)
        · rw [if_neg hc15] at h
          refine hz_aload_n hO dX8_advance_133 rfl 1 rfl ?_
          refine hz_iconst (v := (2 : Int32)) hO dX8_advance_134 (by decide) ?_
          obtain ⟨M25, h_M25, h⟩ := hz_lm_e h
          refine hz_putI (k := 2) (ty := .int) hO hz_K_6 tyX8_ok nmX8 hz_sh_9 (hz_lt_9 hN) rfl (Nat.le_of_ble_eq_true rfl) tw_1_114 rfl rfl rfl rfl rfl dX8_advance_135 ?_
          refine hz_nameM h_M25 ?_
          refine hz_aload_n hO dX8_advance_138 rfl 1 rfl ?_
          refine hz_iconst (v := (0 : Int32)) hO dX8_advance_139 (by decide) ?_
          obtain ⟨M26, h_M26, h⟩ := hz_lm_e h
          refine hz_putI (k := 5) (ty := .int) hO hz_K_6 tyX8_ok nmX8 hz_sh_9 (hz_lt_9 hN) rfl (Nat.le_of_ble_eq_true rfl) tw_1_121 rfl rfl rfl rfl rfl dX8_advance_140 ?_
          refine hz_nameM h_M26 ?_
          exact hz_ls [1] rfl (g_X8_advance_L143 hN hO _ M26 h)
      · rw [if_neg hc11] at h
        refine hz_aload_n hO dX8_advance_83 rfl 1 rfl ?_
        refine hz_iconst (v := (1 : Int32)) hO dX8_advance_84 (by decide) ?_
        obtain ⟨M41, h_M41, h⟩ := hz_lm_e h
        refine hz_putI (k := 2) (ty := .int) hO hz_K_6 tyX8_ok nmX8 hz_sh_9 (hz_lt_9 hN) rfl (Nat.le_of_ble_eq_true rfl) tw_1_114 rfl rfl rfl rfl rfl dX8_advance_85 ?_
        refine hz_nameM h_M41 ?_
        exact hz_ls [1] rfl (g_X8_advance_L88 hN hO _ M41 h)
    · rw [if_pos hc7] at h
      refine hz_aload_n hO dX8_advance_68 rfl 1 rfl ?_
      refine hz_iconst (v := (0 : Int32)) hO dX8_advance_69 (by decide) ?_
      obtain ⟨M52, h_M52, h⟩ := hz_lm_e h
      refine hz_putI (k := 2) (ty := .int) hO hz_K_6 tyX8_ok nmX8 hz_sh_9 (hz_lt_9 hN) rfl (Nat.le_of_ble_eq_true rfl) tw_1_114 rfl rfl rfl rfl rfl dX8_advance_70 ?_
      refine hz_nameM h_M52 ?_
      refine hz_goto (tgt := 236) hO dX8_advance_73 (by decide) ?_
      exact hz_nameM (hz_some_e h).2.symm (hz_vret hO dX8_advance_236)
  clear hk53
  exact hz_ls [0] rfl (g_X8_advance_L8 hN hO _ gk53 _ M1 h)
def f_X8_goOnIf (a1 : Int32) (M : hz_M) : hz_O :=
  if a1 = 0 then
    hz_ct (f_X8_fail (1 : Int32) M) fun r6 M7 =>
    some (0, M7)
  else
    if (M 9 6) = 0 then
      hz_ct (f_X8_advance M) fun r3 M4 =>
      some (0, M4)
    else
      some (0, M)
set_option maxRecDepth 100000 in
set_option maxHeartbeats 4000000 in
theorem c_X8_goOnIf (l : Launch) (w : hz_C) {N : Nat} (hN : 178 ≤ N) (a1 : Int32) {M : hz_M} {rE : Int32} {ME : hz_M} (h : f_X8_goOnIf a1 M = some (rE, ME)) : hz_Ct l yX8_goOnIf cX8_goOnIf 2 none 2 w N [.ref (hz_ad w 9), .int a1] M (hz_Qv w N ME) := by
  refine hz_ofW (by decide) rfl (Nat.le_of_ble_eq_true rfl) tw_2_225 ?_
  intro p e s m args below meth c hO
  show hz_G p l e 2 hz_z0 s m args below meth c w N 2 _ M 0 [(0, .ref (hz_ad w 9)), (1, .int a1)] []
  unfold f_X8_goOnIf at h
  refine hz_iload_n hO dX8_goOnIf_0 rfl 1 rfl ?_
  refine hz_if_ne (tgt := 12) hO dX8_goOnIf_1 (by decide) (fun hc1 => ?_) (fun hc1 => ?_)
  · rw [if_neg hc1] at h
    refine hz_aload_n hO dX8_goOnIf_12 rfl 0 rfl ?_
    refine hz_getI (k := 6) hO hz_K_6 hz_sh_9 (hz_lt_9 hN) rfl (Nat.le_of_ble_eq_true rfl) tw_1_125 rfl dX8_goOnIf_13 ?_
    refine hz_if_ne (tgt := 23) hO dX8_goOnIf_16 (by decide) (fun hc2 => ?_) (fun hc2 => ?_)
    · rw [if_neg hc2] at h
      exact hz_nameM (hz_some_e h).2.symm (hz_vret hO dX8_goOnIf_23)
    · rw [if_pos hc2] at h
      refine hz_aload_n hO dX8_goOnIf_19 rfl 0 rfl ?_
      obtain ⟨r3, M4, hq5, h⟩ := hz_ct_e h
      refine hz_callVv (as := []) (rest := []) hO (c_X8_advance l w hN hq5) hz_cal_X8_advance hz_K_6 hz_sh_9 (hz_lt_9 hN) tw_2_190 (Nat.le_of_ble_eq_true rfl) rfl rfl (Nat.le_of_ble_eq_true rfl) dX8_goOnIf_20 ?_
      exact hz_nameM (hz_some_e h).2.symm (hz_vret hO dX8_goOnIf_23)
  · rw [if_pos hc1] at h
    refine hz_aload_n hO dX8_goOnIf_4 rfl 0 rfl ?_
    refine hz_iconst (v := (1 : Int32)) hO dX8_goOnIf_5 (by decide) ?_
    obtain ⟨r6, M7, hq8, h⟩ := hz_ct_e h
    refine hz_callVv (as := [.int (1 : Int32)]) (rest := []) hO (c_X8_fail l w hN (1 : Int32) hq8) hz_cal_X8_fail hz_K_6 hz_sh_9 (hz_lt_9 hN) tw_2_226 (Nat.le_of_ble_eq_true rfl) rfl rfl (Nat.le_of_ble_eq_true rfl) dX8_goOnIf_6 ?_
    refine hz_goto (tgt := 23) hO dX8_goOnIf_9 (by decide) ?_
    exact hz_nameM (hz_some_e h).2.symm (hz_vret hO dX8_goOnIf_23)
def f_X8_needNumber (a1 : Int32) (a2 : Int32) (M : hz_M) : hz_O :=
  hz_lt ((M 9 5)) fun x1 =>
  hz_jn (fun (v1_2 : Int32) (v3_3 : Int32) (M4 : hz_M) =>
    if (M4 9 6) = 0 then
      hz_ct (f_X8_advance M4) fun r6 M7 =>
      some (v3_3, M7)
    else
      some (v1_2, M4)
    ) fun k9 =>
  if (M 9 2) = (2 : Int32) then
    hz_jn (fun (v1_11 : Int32) (v3_12 : Int32) (M13 : hz_M) =>
      hz_ct (f_X8_fail (2 : Int32) M13) fun r14 M15 =>
      k9 v1_11 v3_12 M15
      ) fun k17 =>
    if x1 < a1 then
      k17 a1 x1 M
    else
      if x1 ≤ a2 then
        k9 a1 x1 M
      else
        k17 a1 x1 M
  else
    hz_ct (f_X8_fail (1 : Int32) M) fun r20 M21 =>
    k9 a1 x1 M21
set_option maxRecDepth 100000 in
set_option maxHeartbeats 4000000 in
theorem c_X8_needNumber (l : Launch) (w : hz_C) {N : Nat} (hN : 178 ≤ N) (a1 : Int32) (a2 : Int32) {M : hz_M} {rE : Int32} {ME : hz_M} (h : f_X8_needNumber a1 a2 M = some (rE, ME)) : hz_Ct l yX8_needNumber cX8_needNumber 4 (some .int) 2 w N [.ref (hz_ad w 9), .int a1, .int a2] M (hz_Qi w N rE ME) := by
  refine hz_ofW (by decide) rfl (Nat.le_of_ble_eq_true rfl) tw_2_233 ?_
  intro p e s m args below meth c hO
  show hz_G p l e 2 hz_z0 s m args below meth c w N 4 _ M 0 [(0, .ref (hz_ad w 9)), (1, .int a1), (2, .int a2)] []
  unfold f_X8_needNumber at h
  refine hz_aload_n hO dX8_needNumber_0 rfl 0 rfl ?_
  refine hz_getI (k := 5) hO hz_K_6 hz_sh_9 (hz_lt_9 hN) rfl (Nat.le_of_ble_eq_true rfl) tw_1_121 rfl dX8_needNumber_1 ?_
  obtain ⟨x1, h_x1, h⟩ := hz_lt_e h
  refine hz_name h_x1 ?_
  refine hz_istore_n (ls1 := [(3, .int x1), (0, .ref (hz_ad w 9)), (1, .int a1), (2, .int a2)]) hO dX8_needNumber_4 rfl (Nat.le_of_ble_eq_true rfl) rfl ?_
  refine hz_aload_n hO dX8_needNumber_5 rfl 1 rfl ?_
  refine hz_getI (k := 2) hO hz_K_6 hz_sh_9 (hz_lt_9 hN) rfl (Nat.le_of_ble_eq_true rfl) tw_1_114 rfl dX8_needNumber_6 ?_
  refine hz_iconst (v := (2 : Int32)) hO dX8_needNumber_9 (by decide) ?_
  obtain ⟨k9, hk9, h⟩ := hz_jn_e h
  have gk9 : ∀ (v1_2 : Int32) (v3_3 : Int32) (M4 : hz_M), k9 v1_2 v3_3 M4 = some (rE, ME) → hz_G p l e 2 hz_z0 s m args below meth c w N 4 (MQ below (hz_Qi w N rE ME) args s 0 0 (hz_A w)) M4 36 [(0, .ref (hz_ad w 9)), (1, .int v1_2), (3, .int v3_3)] [] := by
    intro v1_2 v3_3 M4 h
    rw [hk9] at h
    dsimp only at h
    refine hz_aload_n hO dX8_needNumber_36 rfl 0 rfl ?_
    refine hz_getI (k := 6) hO hz_K_6 hz_sh_9 (hz_lt_9 hN) rfl (Nat.le_of_ble_eq_true rfl) tw_1_125 rfl dX8_needNumber_37 ?_
    refine hz_if_eq (tgt := 45) hO dX8_needNumber_40 (by decide) (fun hc5 => ?_) (fun hc5 => ?_)
    · rw [if_pos hc5] at h
      refine hz_aload_n hO dX8_needNumber_45 rfl 0 rfl ?_
      obtain ⟨r6, M7, hq8, h⟩ := hz_ct_e h
      refine hz_callVv (as := []) (rest := []) hO (c_X8_advance l w hN hq8) hz_cal_X8_advance hz_K_6 hz_sh_9 (hz_lt_9 hN) tw_2_190 (Nat.le_of_ble_eq_true rfl) rfl rfl (Nat.le_of_ble_eq_true rfl) dX8_needNumber_46 ?_
      refine hz_iload_n hO dX8_needNumber_49 rfl 2 rfl ?_
      exact hz_nameM (hz_some_e h).2.symm (hz_name (hz_some_e h).1.symm (hz_iret hO dX8_needNumber_50))
    · rw [if_neg hc5] at h
      refine hz_iload_n hO dX8_needNumber_43 rfl 1 rfl ?_
      exact hz_nameM (hz_some_e h).2.symm (hz_name (hz_some_e h).1.symm (hz_iret hO dX8_needNumber_44))
  clear hk9
  refine hz_icmp_eq (tgt := 21) hO dX8_needNumber_10 (by decide) (fun hc10 => ?_) (fun hc10 => ?_)
  · rw [if_pos hc10] at h
    refine hz_iload_n hO dX8_needNumber_21 rfl 0 rfl ?_
    refine hz_iload_n hO dX8_needNumber_22 rfl 2 rfl ?_
    obtain ⟨k17, hk17, h⟩ := hz_jn_e h
    have gk17 : ∀ (v1_11 : Int32) (v3_12 : Int32) (M13 : hz_M), k17 v1_11 v3_12 M13 = some (rE, ME) → hz_G p l e 2 hz_z0 s m args below meth c w N 4 (MQ below (hz_Qi w N rE ME) args s 0 0 (hz_A w)) M13 31 [(0, .ref (hz_ad w 9)), (1, .int v1_11), (3, .int v3_12)] [] := by
      intro v1_11 v3_12 M13 h
      rw [hk17] at h
      dsimp only at h
      refine hz_aload_n hO dX8_needNumber_31 rfl 0 rfl ?_
      refine hz_iconst (v := (2 : Int32)) hO dX8_needNumber_32 (by decide) ?_
      obtain ⟨r14, M15, hq16, h⟩ := hz_ct_e h
      refine hz_callVv (as := [.int (2 : Int32)]) (rest := []) hO (c_X8_fail l w hN (2 : Int32) hq16) hz_cal_X8_fail hz_K_6 hz_sh_9 (hz_lt_9 hN) tw_2_226 (Nat.le_of_ble_eq_true rfl) rfl rfl (Nat.le_of_ble_eq_true rfl) dX8_needNumber_33 ?_
      exact hz_ls [0, 1, 2] rfl (gk9 v1_11 v3_12 M15 h)
    clear hk17
    refine hz_icmp_lt (tgt := 31) hO dX8_needNumber_23 (by decide) (fun hc18 => ?_) (fun hc18 => ?_)
    · rw [if_pos hc18] at h
      exact hz_ls [1, 2, 0] rfl (gk17 a1 x1 M h)
    · rw [if_neg hc18] at h
      refine hz_iload_n hO dX8_needNumber_26 rfl 0 rfl ?_
      refine hz_iload_n hO dX8_needNumber_27 rfl 3 rfl ?_
      refine hz_icmp_le (tgt := 36) hO dX8_needNumber_28 (by decide) (fun hc19 => ?_) (fun hc19 => ?_)
      · rw [if_pos hc19] at h
        exact hz_ls [1, 2, 0] rfl (gk9 a1 x1 M h)
      · rw [if_neg hc19] at h
        exact hz_ls [1, 2, 0] rfl (gk17 a1 x1 M h)
  · rw [if_neg hc10] at h
    refine hz_aload_n hO dX8_needNumber_13 rfl 1 rfl ?_
    refine hz_iconst (v := (1 : Int32)) hO dX8_needNumber_14 (by decide) ?_
    obtain ⟨r20, M21, hq22, h⟩ := hz_ct_e h
    refine hz_callVv (as := [.int (1 : Int32)]) (rest := []) hO (c_X8_fail l w hN (1 : Int32) hq22) hz_cal_X8_fail hz_K_6 hz_sh_9 (hz_lt_9 hN) tw_2_226 (Nat.le_of_ble_eq_true rfl) rfl rfl (Nat.le_of_ble_eq_true rfl) dX8_needNumber_15 ?_
    refine hz_goto (tgt := 36) hO dX8_needNumber_18 (by decide) ?_
    exact hz_ls [1, 2, 0] rfl (gk9 a1 x1 M21 h)
def f_X3_guestNamed_L3 (th : Nat) : Nat → Int32 → Int32 → Int32 → hz_M → hz_O
  | 0, _, _, _, _ => none
  | n + 1, v2_1, v3_2, v4_3, M4 =>
    if (M4 th 3) ≤ v4_3 then
      some ((-1 : Int32), M4)
    else
      hz_gd (hz_in v4_3 16) <|
      hz_jn (fun (v2_7 : Int32) (v3_8 : Int32) (v4_9 : Int32) (M10 : hz_M) =>
        hz_lt (v4_9 + (1 : Int32)) fun x11 =>
        f_X3_guestNamed_L3 th n v2_7 v3_8 x11 M10
        ) fun k12 =>
      if (M4 (th + 3) (Int32.toNatClampNeg v4_3)) = (v3_2 - v2_1) then
        hz_ct (f_X3_isNameAt th v4_3 v2_1 M4) fun r14 M15 =>
        if r14 = 0 then
          k12 v2_1 v3_2 v4_3 M15
        else
          some (v4_3, M15)
      else
        k12 v2_1 v3_2 v4_3 M4
def f_X3_guestNamed (th : Nat) (a2 : Int32) (a3 : Int32) (M : hz_M) : hz_O :=
  f_X3_guestNamed_L3 th hz_FU a2 a3 (0 : Int32) M
set_option maxRecDepth 100000 in
set_option maxHeartbeats 4000000 in
theorem g_X3_guestNamed_L3 {p : Program} {l : Launch} {e : Env} {s : State} {m : MethodId} {args : Array Value} {below : List Frame} {meth : Method} {c : Code} {w : hz_C} {N : Nat} (hN : 178 ≤ N) {th : Nat} (hHo : hz_Ho N th) {rE : Int32} {ME : hz_M} (hO : hz_Ok p s m args meth c w cX3_guestNamed 5 RX3 (some .int)) : ∀ (n : Nat) (v2_1 : Int32) (v3_2 : Int32) (v4_3 : Int32) (M4 : hz_M), f_X3_guestNamed_L3 th n v2_1 v3_2 v4_3 M4 = some (rE, ME) → hz_G p l e 2 hz_z0 s m args below meth c w N 5 (MQ below (hz_Qi w N rE ME) args s 0 0 (hz_A w)) M4 3 [(0, .ref (hz_ad w th)), (1, .ref (hz_ad w 9)), (2, .int v2_1), (3, .int v3_2), (4, .int v4_3)] [] := by
  intro n
  induction n with
  | zero =>
    intro v2_1 v3_2 v4_3 M4 h
    rw [f_X3_guestNamed_L3] at h
    cases h
  | succ n ih =>
    intro v2_1 v3_2 v4_3 M4 h
    rw [f_X3_guestNamed_L3] at h
    refine hz_iload hO dX3_guestNamed_3 4 rfl ?_
    refine hz_aload_n hO dX3_guestNamed_5 rfl 0 rfl ?_
    refine hz_getI (k := 3) hO hz_K_2 hHo.1 hHo.2.1 rfl (Nat.le_of_ble_eq_true rfl) tw_1_49 rfl dX3_guestNamed_6 ?_
    refine hz_icmp_ge (tgt := 45) hO dX3_guestNamed_9 (by decide) (fun hc5 => ?_) (fun hc5 => ?_)
    · rw [if_pos hc5] at h
      refine hz_iconst (v := (-1 : Int32)) hO dX3_guestNamed_45 (by decide) ?_
      exact hz_nameM (hz_some_e h).2.symm (hz_name (hz_some_e h).1.symm (hz_iret hO dX3_guestNamed_46))
    · rw [if_neg hc5] at h
      refine hz_aload_n hO dX3_guestNamed_12 rfl 0 rfl ?_
      refine hz_getR (k := 2) hO (th + 3) hz_K_2 hHo.1 hHo.2.1 rfl (Nat.le_of_ble_eq_true rfl) tw_1_47 rfl dX3_guestNamed_13 ?_
      refine hz_iload hO dX3_guestNamed_16 4 rfl ?_
      obtain ⟨hg6, h⟩ := hz_gd_e h
      refine hz_iald hO hHo.2.2.2.2.2.2.1 hHo.2.2.2.2.2.2.2 hg6 dX3_guestNamed_18 ?_
      refine hz_iload_n hO dX3_guestNamed_19 rfl 3 rfl ?_
      refine hz_iload_n hO dX3_guestNamed_20 rfl 2 rfl ?_
      refine hz_isub hO dX3_guestNamed_21 ?_
      obtain ⟨k12, hk12, h⟩ := hz_jn_e h
      have gk12 : ∀ (v2_7 : Int32) (v3_8 : Int32) (v4_9 : Int32) (M10 : hz_M), k12 v2_7 v3_8 v4_9 M10 = some (rE, ME) → hz_G p l e 2 hz_z0 s m args below meth c w N 5 (MQ below (hz_Qi w N rE ME) args s 0 0 (hz_A w)) M10 39 [(0, .ref (hz_ad w th)), (1, .ref (hz_ad w 9)), (2, .int v2_7), (3, .int v3_8), (4, .int v4_9)] [] := by
        intro v2_7 v3_8 v4_9 M10 h
        rw [hk12] at h
        dsimp only at h
        obtain ⟨x11, h_x11, h⟩ := hz_lt_e h
        refine hz_iinc (k := 4) (v := x11) (ls1 := [(4, .int x11), (0, .ref (hz_ad w th)), (1, .ref (hz_ad w 9)), (2, .int v2_7), (3, .int v3_8)]) hO dX3_guestNamed_39 rfl (by rw [h_x11]; rfl) (Nat.le_of_ble_eq_true rfl) rfl ?_
        refine hz_goto (tgt := 3) hO dX3_guestNamed_42 (by decide) ?_
        exact hz_ls [1, 2, 3, 4, 0] rfl (ih v2_7 v3_8 x11 M10 h)
      clear hk12
      refine hz_icmp_ne (tgt := 39) hO dX3_guestNamed_22 (by decide) (fun hc13 => ?_) (fun hc13 => ?_)
      · rw [if_neg hc13] at h
        exact hz_ls [0, 1, 2, 3, 4] rfl (gk12 v2_1 v3_2 v4_3 M4 h)
      · rw [if_pos hc13] at h
        refine hz_aload_n hO dX3_guestNamed_25 rfl 0 rfl ?_
        refine hz_iload hO dX3_guestNamed_26 4 rfl ?_
        refine hz_aload_n hO dX3_guestNamed_28 rfl 1 rfl ?_
        refine hz_iload_n hO dX3_guestNamed_29 rfl 2 rfl ?_
        obtain ⟨r14, M15, hq16, h⟩ := hz_ct_e h
        refine hz_callVi (as := [.int v4_3, .ref (hz_ad w 9), .int v2_1]) (rest := []) hO (c_X3_isNameAt l w hN hHo v4_3 v2_1 hq16) hz_cal_X3_isNameAt hz_K_2 hHo.1 hHo.2.1 tw_3_13 (Nat.le_of_ble_eq_true rfl) rfl rfl (Nat.le_of_ble_eq_true rfl) dX3_guestNamed_30 ?_
        refine hz_if_eq (tgt := 39) hO dX3_guestNamed_33 (by decide) (fun hc17 => ?_) (fun hc17 => ?_)
        · rw [if_pos hc17] at h
          exact hz_ls [0, 1, 2, 3, 4] rfl (gk12 v2_1 v3_2 v4_3 M15 h)
        · rw [if_neg hc17] at h
          refine hz_iload hO dX3_guestNamed_36 4 rfl ?_
          exact hz_nameM (hz_some_e h).2.symm (hz_name (hz_some_e h).1.symm (hz_iret hO dX3_guestNamed_38))
set_option maxRecDepth 100000 in
set_option maxHeartbeats 4000000 in
theorem c_X3_guestNamed (l : Launch) (w : hz_C) {N : Nat} (hN : 178 ≤ N) {th : Nat} (hHo : hz_Ho N th) (a2 : Int32) (a3 : Int32) {M : hz_M} {rE : Int32} {ME : hz_M} (h : f_X3_guestNamed th a2 a3 M = some (rE, ME)) : hz_Ct l yX3_guestNamed cX3_guestNamed 5 (some .int) 2 w N [.ref (hz_ad w th), .ref (hz_ad w 9), .int a2, .int a3] M (hz_Qi w N rE ME) := by
  refine hz_ofW (by decide) rfl (Nat.le_of_ble_eq_true rfl) tw_3_12 ?_
  intro p e s m args below meth c hO
  show hz_G p l e 2 hz_z0 s m args below meth c w N 5 _ M 0 [(0, .ref (hz_ad w th)), (1, .ref (hz_ad w 9)), (2, .int a2), (3, .int a3)] []
  unfold f_X3_guestNamed at h
  refine hz_iconst (v := (0 : Int32)) hO dX3_guestNamed_0 (by decide) ?_
  refine hz_istore (ls1 := [(4, .int (0 : Int32)), (0, .ref (hz_ad w th)), (1, .ref (hz_ad w 9)), (2, .int a2), (3, .int a3)]) hO dX3_guestNamed_1 (Nat.le_of_ble_eq_true rfl) rfl ?_
  exact hz_ls [1, 2, 3, 4, 0] rfl (g_X3_guestNamed_L3 hN hHo hO _ a2 a3 (0 : Int32) M h)
def f_X8_rewind (M : hz_M) : hz_O :=
  hz_lm (hz_set M 9 6 (0 : Int32)) fun M1 =>
  hz_lm (hz_set M1 9 7 (-1 : Int32)) fun M2 =>
  hz_lm (hz_set M2 9 4 (0 : Int32)) fun M3 =>
  hz_ct (f_X8_advance M3) fun r4 M5 =>
  some (0, M5)
set_option maxRecDepth 100000 in
set_option maxHeartbeats 4000000 in
theorem c_X8_rewind (l : Launch) (w : hz_C) {N : Nat} (hN : 178 ≤ N) {M : hz_M} {rE : Int32} {ME : hz_M} (h : f_X8_rewind M = some (rE, ME)) : hz_Ct l yX8_rewind cX8_rewind 1 none 2 w N [.ref (hz_ad w 9)] M (hz_Qv w N ME) := by
  refine hz_ofW (by decide) rfl (Nat.le_of_ble_eq_true rfl) tw_2_189 ?_
  intro p e s m args below meth c hO
  show hz_G p l e 2 hz_z0 s m args below meth c w N 1 _ M 0 [(0, .ref (hz_ad w 9))] []
  unfold f_X8_rewind at h
  refine hz_aload_n hO dX8_rewind_0 rfl 0 rfl ?_
  refine hz_iconst (v := (0 : Int32)) hO dX8_rewind_1 (by decide) ?_
  obtain ⟨M1, h_M1, h⟩ := hz_lm_e h
  refine hz_putI (k := 6) (ty := .int) hO hz_K_6 tyX8_ok nmX8 hz_sh_9 (hz_lt_9 hN) rfl (Nat.le_of_ble_eq_true rfl) tw_1_125 rfl rfl rfl rfl rfl dX8_rewind_2 ?_
  refine hz_nameM h_M1 ?_
  refine hz_aload_n hO dX8_rewind_5 rfl 0 rfl ?_
  refine hz_iconst (v := (-1 : Int32)) hO dX8_rewind_6 (by decide) ?_
  obtain ⟨M2, h_M2, h⟩ := hz_lm_e h
  refine hz_putI (k := 7) (ty := .int) hO hz_K_6 tyX8_ok nmX8 hz_sh_9 (hz_lt_9 hN) rfl (Nat.le_of_ble_eq_true rfl) tw_1_126 rfl rfl rfl rfl rfl dX8_rewind_7 ?_
  refine hz_nameM h_M2 ?_
  refine hz_aload_n hO dX8_rewind_10 rfl 0 rfl ?_
  refine hz_iconst (v := (0 : Int32)) hO dX8_rewind_11 (by decide) ?_
  obtain ⟨M3, h_M3, h⟩ := hz_lm_e h
  refine hz_putI (k := 4) (ty := .int) hO hz_K_6 tyX8_ok nmX8 hz_sh_9 (hz_lt_9 hN) rfl (Nat.le_of_ble_eq_true rfl) tw_1_120 rfl rfl rfl rfl rfl dX8_rewind_12 ?_
  refine hz_nameM h_M3 ?_
  refine hz_aload_n hO dX8_rewind_15 rfl 0 rfl ?_
  obtain ⟨r4, M5, hq6, h⟩ := hz_ct_e h
  refine hz_callVv (as := []) (rest := []) hO (c_X8_advance l w hN hq6) hz_cal_X8_advance hz_K_6 hz_sh_9 (hz_lt_9 hN) tw_2_190 (Nat.le_of_ble_eq_true rfl) rfl rfl (Nat.le_of_ble_eq_true rfl) dX8_rewind_16 ?_
  exact hz_nameM (hz_some_e h).2.symm (hz_vret hO dX8_rewind_19)
def f_X8_needSign (a1 : Int32) (M : hz_M) : hz_O :=
  hz_jn (fun (q1 : Int32) (M2 : hz_M) =>
    hz_ct (f_X8_goOnIf q1 M2) fun r3 M4 =>
    some (0, M4)
    ) fun k6 =>
  if (M 9 2) = a1 then
    k6 (1 : Int32) M
  else
    k6 (0 : Int32) M
set_option maxRecDepth 100000 in
set_option maxHeartbeats 4000000 in
theorem c_X8_needSign (l : Launch) (w : hz_C) {N : Nat} (hN : 178 ≤ N) (a1 : Int32) {M : hz_M} {rE : Int32} {ME : hz_M} (h : f_X8_needSign a1 M = some (rE, ME)) : hz_Ct l yX8_needSign cX8_needSign 2 none 3 w N [.ref (hz_ad w 9), .int a1] M (hz_Qv w N ME) := by
  refine hz_ofW (by decide) rfl (Nat.le_of_ble_eq_true rfl) tw_2_237 ?_
  intro p e s m args below meth c hO
  show hz_G p l e 3 hz_z0 s m args below meth c w N 2 _ M 0 [(0, .ref (hz_ad w 9)), (1, .int a1)] []
  unfold f_X8_needSign at h
  refine hz_aload_n hO dX8_needSign_0 rfl 0 rfl ?_
  refine hz_aload_n hO dX8_needSign_1 rfl 0 rfl ?_
  refine hz_getI (k := 2) hO hz_K_6 hz_sh_9 (hz_lt_9 hN) rfl (Nat.le_of_ble_eq_true rfl) tw_1_114 rfl dX8_needSign_2 ?_
  refine hz_iload_n hO dX8_needSign_5 rfl 1 rfl ?_
  obtain ⟨k6, hk6, h⟩ := hz_jn_e h
  have gk6 : ∀ (q1 : Int32) (M2 : hz_M), k6 q1 M2 = some (rE, ME) → hz_G p l e 3 hz_z0 s m args below meth c w N 2 (MQ below (hz_Qv w N ME) args s 0 0 (hz_A w)) M2 14 [] [.int q1, .ref (hz_ad w 9)] := by
    intro q1 M2 h
    rw [hk6] at h
    dsimp only at h
    obtain ⟨r3, M4, hq5, h⟩ := hz_ct_e h
    refine hz_callVv (as := [.int q1]) (rest := []) hO (c_X8_goOnIf l w hN q1 hq5) hz_cal_X8_goOnIf hz_K_6 hz_sh_9 (hz_lt_9 hN) tw_2_222 (Nat.le_of_ble_eq_true rfl) rfl rfl (Nat.le_of_ble_eq_true rfl) dX8_needSign_14 ?_
    exact hz_nameM (hz_some_e h).2.symm (hz_vret hO dX8_needSign_17)
  clear hk6
  refine hz_icmp_ne (tgt := 13) hO dX8_needSign_6 (by decide) (fun hc7 => ?_) (fun hc7 => ?_)
  · rw [if_neg hc7] at h
    refine hz_iconst (v := (0 : Int32)) hO dX8_needSign_13 (by decide) ?_
    exact hz_ls [] rfl (gk6 (0 : Int32) M h)
  · rw [if_pos hc7] at h
    refine hz_iconst (v := (1 : Int32)) hO dX8_needSign_9 (by decide) ?_
    refine hz_goto (tgt := 14) hO dX8_needSign_10 (by decide) ?_
    exact hz_ls [] rfl (gk6 (1 : Int32) M h)
def f_X8_needEnd (M : hz_M) : hz_O :=
  hz_jn (fun (q1 : Int32) (M2 : hz_M) =>
    hz_ct (f_X8_goOnIf q1 M2) fun r3 M4 =>
    some (0, M4)
    ) fun k6 =>
  if (M 9 2) = 0 then
    k6 (1 : Int32) M
  else
    k6 (0 : Int32) M
set_option maxRecDepth 100000 in
set_option maxHeartbeats 4000000 in
theorem c_X8_needEnd (l : Launch) (w : hz_C) {N : Nat} (hN : 178 ≤ N) {M : hz_M} {rE : Int32} {ME : hz_M} (h : f_X8_needEnd M = some (rE, ME)) : hz_Ct l yX8_needEnd cX8_needEnd 1 none 3 w N [.ref (hz_ad w 9)] M (hz_Qv w N ME) := by
  refine hz_ofW (by decide) rfl (Nat.le_of_ble_eq_true rfl) tw_3_27 ?_
  intro p e s m args below meth c hO
  show hz_G p l e 3 hz_z0 s m args below meth c w N 1 _ M 0 [(0, .ref (hz_ad w 9))] []
  unfold f_X8_needEnd at h
  refine hz_aload_n hO dX8_needEnd_0 rfl 0 rfl ?_
  refine hz_aload_n hO dX8_needEnd_1 rfl 0 rfl ?_
  refine hz_getI (k := 2) hO hz_K_6 hz_sh_9 (hz_lt_9 hN) rfl (Nat.le_of_ble_eq_true rfl) tw_1_114 rfl dX8_needEnd_2 ?_
  obtain ⟨k6, hk6, h⟩ := hz_jn_e h
  have gk6 : ∀ (q1 : Int32) (M2 : hz_M), k6 q1 M2 = some (rE, ME) → hz_G p l e 3 hz_z0 s m args below meth c w N 1 (MQ below (hz_Qv w N ME) args s 0 0 (hz_A w)) M2 13 [] [.int q1, .ref (hz_ad w 9)] := by
    intro q1 M2 h
    rw [hk6] at h
    dsimp only at h
    obtain ⟨r3, M4, hq5, h⟩ := hz_ct_e h
    refine hz_callVv (as := [.int q1]) (rest := []) hO (c_X8_goOnIf l w hN q1 hq5) hz_cal_X8_goOnIf hz_K_6 hz_sh_9 (hz_lt_9 hN) tw_2_222 (Nat.le_of_ble_eq_true rfl) rfl rfl (Nat.le_of_ble_eq_true rfl) dX8_needEnd_13 ?_
    exact hz_nameM (hz_some_e h).2.symm (hz_vret hO dX8_needEnd_16)
  clear hk6
  refine hz_if_ne (tgt := 12) hO dX8_needEnd_5 (by decide) (fun hc7 => ?_) (fun hc7 => ?_)
  · rw [if_neg hc7] at h
    refine hz_iconst (v := (0 : Int32)) hO dX8_needEnd_12 (by decide) ?_
    exact hz_ls [] rfl (gk6 (0 : Int32) M h)
  · rw [if_pos hc7] at h
    refine hz_iconst (v := (1 : Int32)) hO dX8_needEnd_8 (by decide) ?_
    refine hz_goto (tgt := 13) hO dX8_needEnd_9 (by decide) ?_
    exact hz_ls [] rfl (gk6 (1 : Int32) M h)
