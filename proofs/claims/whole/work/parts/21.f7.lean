-- X5_put X5_byteAt X7_guestsInside X7_guestsAt X7_lowestBeside X7_eldestAt X7_temperature X7_lockersInUse X7_freeLocker X7_isInBasket X7_towelsInBasket X7_towelsOnPegs X7_towelsWithGuests X7_pegsUntold X7_allWet X7_driestOnPegs X7_freePeg X7_putOnPeg X7_giveToGuest X7_day X7_minutesLeftToday X7_isSilence X7_minutesToGong X7_steam X7_heatBehind X7_wetOnPegBehind X7_strainBehind X7_soundGong X7_changeTowels X7_strainGuest X7_comeDown X5_putName X5_putNumber X7_strainedAt X7_pass X5_putGuestsAt X5_putPegs X5_write
def f_X5_put (a1 : Int32) (M : hz_M) : hz_O :=
  if (256 : Int32) ≤ (M 176 2) then
    some (0, M)
  else
    hz_gd (hz_in (M 176 2) 256) <|
    hz_lm (hz_set M 177 (Int32.toNatClampNeg (M 176 2)) a1) fun M3 =>
    hz_lm (hz_set M3 176 2 ((M3 176 2) + (1 : Int32))) fun M4 =>
    some (0, M4)
set_option maxRecDepth 100000 in
set_option maxHeartbeats 4000000 in
theorem c_X5_put (l : Launch) (w : hz_C) {N : Nat} (hN : 178 ≤ N) (a1 : Int32) {M : hz_M} {rE : Int32} {ME : hz_M} (h : f_X5_put a1 M = some (rE, ME)) : hz_Ct l yX5_put cX5_put 2 none 0 w N [.ref (hz_ad w 176), .int a1] M (hz_Qv w N ME) := by
  refine hz_ofW (by decide) rfl (Nat.le_of_ble_eq_true rfl) tw_4_234 ?_
  intro p e s m args below meth c hO
  show hz_G p l e 0 hz_z0 s m args below meth c w N 2 _ M 0 [(0, .ref (hz_ad w 176)), (1, .int a1)] []
  unfold f_X5_put at h
  refine hz_aload_n hO dX5_put_0 rfl 0 rfl ?_
  refine hz_getI (k := 2) hO hz_K_3 hz_sh_176 (hz_lt_176 hN) rfl (Nat.le_of_ble_eq_true rfl) tw_2_116 rfl dX5_put_1 ?_
  refine hz_sipush (v := (256 : Int32)) hO dX5_put_4 (by decide) ?_
  refine hz_icmp_ge (tgt := 30) hO dX5_put_7 (by decide) (fun hc1 => ?_) (fun hc1 => ?_)
  · rw [if_pos hc1] at h
    exact hz_nameM (hz_some_e h).2.symm (hz_vret hO dX5_put_30)
  · rw [if_neg hc1] at h
    refine hz_aload_n hO dX5_put_10 rfl 0 rfl ?_
    refine hz_getR (k := 1) hO 177 hz_K_3 hz_sh_176 (hz_lt_176 hN) rfl (Nat.le_of_ble_eq_true rfl) tw_2_115 rfl dX5_put_11 ?_
    refine hz_aload_n hO dX5_put_14 rfl 0 rfl ?_
    refine hz_getI (k := 2) hO hz_K_3 hz_sh_176 (hz_lt_176 hN) rfl (Nat.le_of_ble_eq_true rfl) tw_2_116 rfl dX5_put_15 ?_
    refine hz_iload_n hO dX5_put_18 rfl 1 rfl ?_
    obtain ⟨hg2, h⟩ := hz_gd_e h
    obtain ⟨M3, h_M3, h⟩ := hz_lm_e h
    refine hz_iast hO hz_sh_177 (hz_lt_177 hN) hg2 dX5_put_19 ?_
    refine hz_nameM h_M3 ?_
    refine hz_aload_n hO dX5_put_20 rfl 0 rfl ?_
    refine hz_dup hO dX5_put_21 rfl ?_
    refine hz_getI (k := 2) hO hz_K_3 hz_sh_176 (hz_lt_176 hN) rfl (Nat.le_of_ble_eq_true rfl) tw_2_116 rfl dX5_put_22 ?_
    refine hz_iconst (v := (1 : Int32)) hO dX5_put_25 (by decide) ?_
    refine hz_iadd hO dX5_put_26 ?_
    obtain ⟨M4, h_M4, h⟩ := hz_lm_e h
    refine hz_putI (k := 2) (ty := .int) hO hz_K_3 tyX5_ok nmX5 hz_sh_176 (hz_lt_176 hN) rfl (Nat.le_of_ble_eq_true rfl) tw_2_116 rfl rfl rfl rfl rfl dX5_put_27 ?_
    refine hz_nameM h_M4 ?_
    exact hz_nameM (hz_some_e h).2.symm (hz_vret hO dX5_put_30)
def f_X5_byteAt (a1 : Int32) (M : hz_M) : hz_O :=
  if a1 < 0 then
    some ((-1 : Int32), M)
  else
    if (M 176 2) ≤ a1 then
      some ((-1 : Int32), M)
    else
      hz_gd (hz_in a1 256) <|
      some ((M 177 (Int32.toNatClampNeg a1)), M)
set_option maxRecDepth 100000 in
set_option maxHeartbeats 4000000 in
theorem c_X5_byteAt (l : Launch) (w : hz_C) {N : Nat} (hN : 178 ≤ N) (a1 : Int32) {M : hz_M} {rE : Int32} {ME : hz_M} (h : f_X5_byteAt a1 M = some (rE, ME)) : hz_Ct l yX5_byteAt cX5_byteAt 2 (some .int) 0 w N [.ref (hz_ad w 176), .int a1] M (hz_Qi w N rE ME) := by
  refine hz_ofW (by decide) rfl (Nat.le_of_ble_eq_true rfl) tw_5_19 ?_
  intro p e s m args below meth c hO
  show hz_G p l e 0 hz_z0 s m args below meth c w N 2 _ M 0 [(0, .ref (hz_ad w 176)), (1, .int a1)] []
  unfold f_X5_byteAt at h
  refine hz_iload_n hO dX5_byteAt_0 rfl 1 rfl ?_
  refine hz_if_lt (tgt := 21) hO dX5_byteAt_1 (by decide) (fun hc1 => ?_) (fun hc1 => ?_)
  · rw [if_pos hc1] at h
    refine hz_iconst (v := (-1 : Int32)) hO dX5_byteAt_21 (by decide) ?_
    exact hz_nameM (hz_some_e h).2.symm (hz_name (hz_some_e h).1.symm (hz_iret hO dX5_byteAt_22))
  · rw [if_neg hc1] at h
    refine hz_iload_n hO dX5_byteAt_4 rfl 1 rfl ?_
    refine hz_aload_n hO dX5_byteAt_5 rfl 0 rfl ?_
    refine hz_getI (k := 2) hO hz_K_3 hz_sh_176 (hz_lt_176 hN) rfl (Nat.le_of_ble_eq_true rfl) tw_2_116 rfl dX5_byteAt_6 ?_
    refine hz_icmp_ge (tgt := 21) hO dX5_byteAt_9 (by decide) (fun hc2 => ?_) (fun hc2 => ?_)
    · rw [if_pos hc2] at h
      refine hz_iconst (v := (-1 : Int32)) hO dX5_byteAt_21 (by decide) ?_
      exact hz_nameM (hz_some_e h).2.symm (hz_name (hz_some_e h).1.symm (hz_iret hO dX5_byteAt_22))
    · rw [if_neg hc2] at h
      refine hz_aload_n hO dX5_byteAt_12 rfl 0 rfl ?_
      refine hz_getR (k := 1) hO 177 hz_K_3 hz_sh_176 (hz_lt_176 hN) rfl (Nat.le_of_ble_eq_true rfl) tw_2_115 rfl dX5_byteAt_13 ?_
      refine hz_iload_n hO dX5_byteAt_16 rfl 1 rfl ?_
      obtain ⟨hg3, h⟩ := hz_gd_e h
      refine hz_iald hO hz_sh_177 (hz_lt_177 hN) hg3 dX5_byteAt_17 ?_
      refine hz_goto (tgt := 22) hO dX5_byteAt_18 (by decide) ?_
      exact hz_nameM (hz_some_e h).2.symm (hz_name (hz_some_e h).1.symm (hz_iret hO dX5_byteAt_22))
def f_X7_guestsInside_L4 : Nat → Int32 → Int32 → hz_M → hz_O
  | 0, _, _, _ => none
  | n + 1, v1_1, v2_2, M3 =>
    if (M3 1 3) ≤ v2_2 then
      some (v1_1, M3)
    else
      hz_gd (hz_in v2_2 16) <|
      hz_jn (fun (v1_6 : Int32) (v2_7 : Int32) (M8 : hz_M) =>
        hz_lt (v2_7 + (1 : Int32)) fun x9 =>
        f_X7_guestsInside_L4 n v1_6 x9 M8
        ) fun k10 =>
      if (M3 13 (Int32.toNatClampNeg v2_2)) = (-1 : Int32) then
        k10 v1_1 v2_2 M3
      else
        hz_lt (v1_1 + (1 : Int32)) fun x12 =>
        k10 x12 v2_2 M3
def f_X7_guestsInside (M : hz_M) : hz_O :=
  f_X7_guestsInside_L4 hz_FU (0 : Int32) (0 : Int32) M
set_option maxRecDepth 100000 in
set_option maxHeartbeats 4000000 in
theorem g_X7_guestsInside_L4 {p : Program} {l : Launch} {e : Env} {s : State} {m : MethodId} {args : Array Value} {below : List Frame} {meth : Method} {c : Code} {w : hz_C} {N : Nat} (hN : 178 ≤ N) {rE : Int32} {ME : hz_M} (hO : hz_Ok p s m args meth c w cX7_guestsInside 3 RX7 (some .int)) : ∀ (n : Nat) (v1_1 : Int32) (v2_2 : Int32) (M3 : hz_M), f_X7_guestsInside_L4 n v1_1 v2_2 M3 = some (rE, ME) → hz_G p l e 0 hz_z0 s m args below meth c w N 3 (MQ below (hz_Qi w N rE ME) args s 0 0 (hz_A w)) M3 4 [(0, .ref (hz_ad w 11)), (1, .int v1_1), (2, .int v2_2)] [] := by
  intro n
  induction n with
  | zero =>
    intro v1_1 v2_2 M3 h
    rw [f_X7_guestsInside_L4] at h
    cases h
  | succ n ih =>
    intro v1_1 v2_2 M3 h
    rw [f_X7_guestsInside_L4] at h
    refine hz_iload_n hO dX7_guestsInside_4 rfl 2 rfl ?_
    refine hz_aload_n hO dX7_guestsInside_5 rfl 0 rfl ?_
    refine hz_getR (k := 0) hO 1 hz_K_5 hz_sh_11 (hz_lt_11 hN) rfl (Nat.le_of_ble_eq_true rfl) tw_1_151 rfl dX7_guestsInside_6 ?_
    refine hz_getI (k := 3) hO hz_K_2 hz_sh_1 (hz_lt_1 hN) rfl (Nat.le_of_ble_eq_true rfl) tw_1_52 rfl dX7_guestsInside_9 ?_
    refine hz_icmp_ge (tgt := 34) hO dX7_guestsInside_12 (by decide) (fun hc4 => ?_) (fun hc4 => ?_)
    · rw [if_pos hc4] at h
      refine hz_iload_n hO dX7_guestsInside_34 rfl 1 rfl ?_
      exact hz_nameM (hz_some_e h).2.symm (hz_name (hz_some_e h).1.symm (hz_iret hO dX7_guestsInside_35))
    · rw [if_neg hc4] at h
      refine hz_aload_n hO dX7_guestsInside_15 rfl 0 rfl ?_
      refine hz_getR (k := 2) hO 13 hz_K_5 hz_sh_11 (hz_lt_11 hN) rfl (Nat.le_of_ble_eq_true rfl) tw_1_155 rfl dX7_guestsInside_16 ?_
      refine hz_iload_n hO dX7_guestsInside_19 rfl 2 rfl ?_
      obtain ⟨hg5, h⟩ := hz_gd_e h
      refine hz_iald hO hz_sh_13 (hz_lt_13 hN) hg5 dX7_guestsInside_20 ?_
      refine hz_iconst (v := (-1 : Int32)) hO dX7_guestsInside_21 (by decide) ?_
      obtain ⟨k10, hk10, h⟩ := hz_jn_e h
      have gk10 : ∀ (v1_6 : Int32) (v2_7 : Int32) (M8 : hz_M), k10 v1_6 v2_7 M8 = some (rE, ME) → hz_G p l e 0 hz_z0 s m args below meth c w N 3 (MQ below (hz_Qi w N rE ME) args s 0 0 (hz_A w)) M8 28 [(0, .ref (hz_ad w 11)), (1, .int v1_6), (2, .int v2_7)] [] := by
        intro v1_6 v2_7 M8 h
        rw [hk10] at h
        dsimp only at h
        obtain ⟨x9, h_x9, h⟩ := hz_lt_e h
        refine hz_iinc (k := 2) (v := x9) (ls1 := [(2, .int x9), (0, .ref (hz_ad w 11)), (1, .int v1_6)]) hO dX7_guestsInside_28 rfl (by rw [h_x9]; rfl) (Nat.le_of_ble_eq_true rfl) rfl ?_
        refine hz_goto (tgt := 4) hO dX7_guestsInside_31 (by decide) ?_
        exact hz_ls [1, 2, 0] rfl (ih v1_6 x9 M8 h)
      clear hk10
      refine hz_icmp_eq (tgt := 28) hO dX7_guestsInside_22 (by decide) (fun hc11 => ?_) (fun hc11 => ?_)
      · rw [if_pos hc11] at h
        exact hz_ls [0, 1, 2] rfl (gk10 v1_1 v2_2 M3 h)
      · rw [if_neg hc11] at h
        obtain ⟨x12, h_x12, h⟩ := hz_lt_e h
        refine hz_iinc (k := 1) (v := x12) (ls1 := [(1, .int x12), (0, .ref (hz_ad w 11)), (2, .int v2_2)]) hO dX7_guestsInside_25 rfl (by rw [h_x12]; rfl) (Nat.le_of_ble_eq_true rfl) rfl ?_
        exact hz_ls [1, 0, 2] rfl (gk10 x12 v2_2 M3 h)
set_option maxRecDepth 100000 in
set_option maxHeartbeats 4000000 in
theorem c_X7_guestsInside (l : Launch) (w : hz_C) {N : Nat} (hN : 178 ≤ N) {M : hz_M} {rE : Int32} {ME : hz_M} (h : f_X7_guestsInside M = some (rE, ME)) : hz_Ct l yX7_guestsInside cX7_guestsInside 3 (some .int) 0 w N [.ref (hz_ad w 11)] M (hz_Qi w N rE ME) := by
  refine hz_ofW (by decide) rfl (Nat.le_of_ble_eq_true rfl) tw_4_155 ?_
  intro p e s m args below meth c hO
  show hz_G p l e 0 hz_z0 s m args below meth c w N 3 _ M 0 [(0, .ref (hz_ad w 11))] []
  unfold f_X7_guestsInside at h
  refine hz_iconst (v := (0 : Int32)) hO dX7_guestsInside_0 (by decide) ?_
  refine hz_istore_n (ls1 := [(1, .int (0 : Int32)), (0, .ref (hz_ad w 11))]) hO dX7_guestsInside_1 rfl (Nat.le_of_ble_eq_true rfl) rfl ?_
  refine hz_iconst (v := (0 : Int32)) hO dX7_guestsInside_2 (by decide) ?_
  refine hz_istore_n (ls1 := [(2, .int (0 : Int32)), (1, .int (0 : Int32)), (0, .ref (hz_ad w 11))]) hO dX7_guestsInside_3 rfl (Nat.le_of_ble_eq_true rfl) rfl ?_
  exact hz_ls [2, 1, 0] rfl (g_X7_guestsInside_L4 hN hO _ (0 : Int32) (0 : Int32) M h)
def f_X7_guestsAt_L4 : Nat → Int32 → Int32 → Int32 → hz_M → hz_O
  | 0, _, _, _, _ => none
  | n + 1, v1_1, v2_2, v3_3, M4 =>
    if (M4 1 3) ≤ v3_3 then
      some (v2_2, M4)
    else
      hz_gd (hz_in v3_3 16) <|
      hz_jn (fun (v1_7 : Int32) (v2_8 : Int32) (v3_9 : Int32) (M10 : hz_M) =>
        hz_lt (v3_9 + (1 : Int32)) fun x11 =>
        f_X7_guestsAt_L4 n v1_7 v2_8 x11 M10
        ) fun k12 =>
      if (M4 13 (Int32.toNatClampNeg v3_3)) = v1_1 then
        hz_lt (v2_2 + (1 : Int32)) fun x14 =>
        k12 v1_1 x14 v3_3 M4
      else
        k12 v1_1 v2_2 v3_3 M4
def f_X7_guestsAt (a1 : Int32) (M : hz_M) : hz_O :=
  f_X7_guestsAt_L4 hz_FU a1 (0 : Int32) (0 : Int32) M
set_option maxRecDepth 100000 in
set_option maxHeartbeats 4000000 in
theorem g_X7_guestsAt_L4 {p : Program} {l : Launch} {e : Env} {s : State} {m : MethodId} {args : Array Value} {below : List Frame} {meth : Method} {c : Code} {w : hz_C} {N : Nat} (hN : 178 ≤ N) {rE : Int32} {ME : hz_M} (hO : hz_Ok p s m args meth c w cX7_guestsAt 4 RX7 (some .int)) : ∀ (n : Nat) (v1_1 : Int32) (v2_2 : Int32) (v3_3 : Int32) (M4 : hz_M), f_X7_guestsAt_L4 n v1_1 v2_2 v3_3 M4 = some (rE, ME) → hz_G p l e 0 hz_z0 s m args below meth c w N 4 (MQ below (hz_Qi w N rE ME) args s 0 0 (hz_A w)) M4 4 [(0, .ref (hz_ad w 11)), (1, .int v1_1), (2, .int v2_2), (3, .int v3_3)] [] := by
  intro n
  induction n with
  | zero =>
    intro v1_1 v2_2 v3_3 M4 h
    rw [f_X7_guestsAt_L4] at h
    cases h
  | succ n ih =>
    intro v1_1 v2_2 v3_3 M4 h
    rw [f_X7_guestsAt_L4] at h
    refine hz_iload_n hO dX7_guestsAt_4 rfl 3 rfl ?_
    refine hz_aload_n hO dX7_guestsAt_5 rfl 0 rfl ?_
    refine hz_getR (k := 0) hO 1 hz_K_5 hz_sh_11 (hz_lt_11 hN) rfl (Nat.le_of_ble_eq_true rfl) tw_1_151 rfl dX7_guestsAt_6 ?_
    refine hz_getI (k := 3) hO hz_K_2 hz_sh_1 (hz_lt_1 hN) rfl (Nat.le_of_ble_eq_true rfl) tw_1_52 rfl dX7_guestsAt_9 ?_
    refine hz_icmp_ge (tgt := 34) hO dX7_guestsAt_12 (by decide) (fun hc5 => ?_) (fun hc5 => ?_)
    · rw [if_pos hc5] at h
      refine hz_iload_n hO dX7_guestsAt_34 rfl 2 rfl ?_
      exact hz_nameM (hz_some_e h).2.symm (hz_name (hz_some_e h).1.symm (hz_iret hO dX7_guestsAt_35))
    · rw [if_neg hc5] at h
      refine hz_aload_n hO dX7_guestsAt_15 rfl 0 rfl ?_
      refine hz_getR (k := 2) hO 13 hz_K_5 hz_sh_11 (hz_lt_11 hN) rfl (Nat.le_of_ble_eq_true rfl) tw_1_155 rfl dX7_guestsAt_16 ?_
      refine hz_iload_n hO dX7_guestsAt_19 rfl 3 rfl ?_
      obtain ⟨hg6, h⟩ := hz_gd_e h
      refine hz_iald hO hz_sh_13 (hz_lt_13 hN) hg6 dX7_guestsAt_20 ?_
      refine hz_iload_n hO dX7_guestsAt_21 rfl 1 rfl ?_
      obtain ⟨k12, hk12, h⟩ := hz_jn_e h
      have gk12 : ∀ (v1_7 : Int32) (v2_8 : Int32) (v3_9 : Int32) (M10 : hz_M), k12 v1_7 v2_8 v3_9 M10 = some (rE, ME) → hz_G p l e 0 hz_z0 s m args below meth c w N 4 (MQ below (hz_Qi w N rE ME) args s 0 0 (hz_A w)) M10 28 [(0, .ref (hz_ad w 11)), (1, .int v1_7), (2, .int v2_8), (3, .int v3_9)] [] := by
        intro v1_7 v2_8 v3_9 M10 h
        rw [hk12] at h
        dsimp only at h
        obtain ⟨x11, h_x11, h⟩ := hz_lt_e h
        refine hz_iinc (k := 3) (v := x11) (ls1 := [(3, .int x11), (0, .ref (hz_ad w 11)), (1, .int v1_7), (2, .int v2_8)]) hO dX7_guestsAt_28 rfl (by rw [h_x11]; rfl) (Nat.le_of_ble_eq_true rfl) rfl ?_
        refine hz_goto (tgt := 4) hO dX7_guestsAt_31 (by decide) ?_
        exact hz_ls [1, 2, 3, 0] rfl (ih v1_7 v2_8 x11 M10 h)
      clear hk12
      refine hz_icmp_ne (tgt := 28) hO dX7_guestsAt_22 (by decide) (fun hc13 => ?_) (fun hc13 => ?_)
      · rw [if_neg hc13] at h
        exact hz_ls [0, 1, 2, 3] rfl (gk12 v1_1 v2_2 v3_3 M4 h)
      · rw [if_pos hc13] at h
        obtain ⟨x14, h_x14, h⟩ := hz_lt_e h
        refine hz_iinc (k := 2) (v := x14) (ls1 := [(2, .int x14), (0, .ref (hz_ad w 11)), (1, .int v1_1), (3, .int v3_3)]) hO dX7_guestsAt_25 rfl (by rw [h_x14]; rfl) (Nat.le_of_ble_eq_true rfl) rfl ?_
        exact hz_ls [1, 2, 0, 3] rfl (gk12 v1_1 x14 v3_3 M4 h)
set_option maxRecDepth 100000 in
set_option maxHeartbeats 4000000 in
theorem c_X7_guestsAt (l : Launch) (w : hz_C) {N : Nat} (hN : 178 ≤ N) (a1 : Int32) {M : hz_M} {rE : Int32} {ME : hz_M} (h : f_X7_guestsAt a1 M = some (rE, ME)) : hz_Ct l yX7_guestsAt cX7_guestsAt 4 (some .int) 0 w N [.ref (hz_ad w 11), .int a1] M (hz_Qi w N rE ME) := by
  refine hz_ofW (by decide) rfl (Nat.le_of_ble_eq_true rfl) tw_4_8 ?_
  intro p e s m args below meth c hO
  show hz_G p l e 0 hz_z0 s m args below meth c w N 4 _ M 0 [(0, .ref (hz_ad w 11)), (1, .int a1)] []
  unfold f_X7_guestsAt at h
  refine hz_iconst (v := (0 : Int32)) hO dX7_guestsAt_0 (by decide) ?_
  refine hz_istore_n (ls1 := [(2, .int (0 : Int32)), (0, .ref (hz_ad w 11)), (1, .int a1)]) hO dX7_guestsAt_1 rfl (Nat.le_of_ble_eq_true rfl) rfl ?_
  refine hz_iconst (v := (0 : Int32)) hO dX7_guestsAt_2 (by decide) ?_
  refine hz_istore_n (ls1 := [(3, .int (0 : Int32)), (2, .int (0 : Int32)), (0, .ref (hz_ad w 11)), (1, .int a1)]) hO dX7_guestsAt_3 rfl (Nat.le_of_ble_eq_true rfl) rfl ?_
  exact hz_ls [2, 3, 1, 0] rfl (g_X7_guestsAt_L4 hN hO _ a1 (0 : Int32) (0 : Int32) M h)
def f_X7_lowestBeside_L2 : Nat → Int32 → Int32 → Int32 → hz_M → hz_O
  | 0, _, _, _, _ => none
  | n + 1, v1_1, v2_2, v3_3, M4 =>
    if (M4 1 3) ≤ v3_3 then
      some ((-1 : Int32), M4)
    else
      hz_jn (fun (v1_6 : Int32) (v2_7 : Int32) (v3_8 : Int32) (M9 : hz_M) =>
        hz_lt (v3_8 + (1 : Int32)) fun x10 =>
        f_X7_lowestBeside_L2 n v1_6 v2_7 x10 M9
        ) fun k11 =>
      if v3_3 = v1_1 then
        k11 v1_1 v2_2 v3_3 M4
      else
        hz_gd (hz_in v3_3 16) <|
        if (M4 13 (Int32.toNatClampNeg v3_3)) = v2_2 then
          some (v3_3, M4)
        else
          k11 v1_1 v2_2 v3_3 M4
def f_X7_lowestBeside (a1 : Int32) (a2 : Int32) (M : hz_M) : hz_O :=
  f_X7_lowestBeside_L2 hz_FU a1 a2 (0 : Int32) M
set_option maxRecDepth 100000 in
set_option maxHeartbeats 4000000 in
theorem g_X7_lowestBeside_L2 {p : Program} {l : Launch} {e : Env} {s : State} {m : MethodId} {args : Array Value} {below : List Frame} {meth : Method} {c : Code} {w : hz_C} {N : Nat} (hN : 178 ≤ N) {rE : Int32} {ME : hz_M} (hO : hz_Ok p s m args meth c w cX7_lowestBeside 4 RX7 (some .int)) : ∀ (n : Nat) (v1_1 : Int32) (v2_2 : Int32) (v3_3 : Int32) (M4 : hz_M), f_X7_lowestBeside_L2 n v1_1 v2_2 v3_3 M4 = some (rE, ME) → hz_G p l e 0 hz_z0 s m args below meth c w N 4 (MQ below (hz_Qi w N rE ME) args s 0 0 (hz_A w)) M4 2 [(0, .ref (hz_ad w 11)), (1, .int v1_1), (2, .int v2_2), (3, .int v3_3)] [] := by
  intro n
  induction n with
  | zero =>
    intro v1_1 v2_2 v3_3 M4 h
    rw [f_X7_lowestBeside_L2] at h
    cases h
  | succ n ih =>
    intro v1_1 v2_2 v3_3 M4 h
    rw [f_X7_lowestBeside_L2] at h
    refine hz_iload_n hO dX7_lowestBeside_2 rfl 3 rfl ?_
    refine hz_aload_n hO dX7_lowestBeside_3 rfl 0 rfl ?_
    refine hz_getR (k := 0) hO 1 hz_K_5 hz_sh_11 (hz_lt_11 hN) rfl (Nat.le_of_ble_eq_true rfl) tw_1_151 rfl dX7_lowestBeside_4 ?_
    refine hz_getI (k := 3) hO hz_K_2 hz_sh_1 (hz_lt_1 hN) rfl (Nat.le_of_ble_eq_true rfl) tw_1_52 rfl dX7_lowestBeside_7 ?_
    refine hz_icmp_ge (tgt := 36) hO dX7_lowestBeside_10 (by decide) (fun hc5 => ?_) (fun hc5 => ?_)
    · rw [if_pos hc5] at h
      refine hz_iconst (v := (-1 : Int32)) hO dX7_lowestBeside_36 (by decide) ?_
      exact hz_nameM (hz_some_e h).2.symm (hz_name (hz_some_e h).1.symm (hz_iret hO dX7_lowestBeside_37))
    · rw [if_neg hc5] at h
      refine hz_iload_n hO dX7_lowestBeside_13 rfl 3 rfl ?_
      refine hz_iload_n hO dX7_lowestBeside_14 rfl 1 rfl ?_
      obtain ⟨k11, hk11, h⟩ := hz_jn_e h
      have gk11 : ∀ (v1_6 : Int32) (v2_7 : Int32) (v3_8 : Int32) (M9 : hz_M), k11 v1_6 v2_7 v3_8 M9 = some (rE, ME) → hz_G p l e 0 hz_z0 s m args below meth c w N 4 (MQ below (hz_Qi w N rE ME) args s 0 0 (hz_A w)) M9 30 [(0, .ref (hz_ad w 11)), (1, .int v1_6), (2, .int v2_7), (3, .int v3_8)] [] := by
        intro v1_6 v2_7 v3_8 M9 h
        rw [hk11] at h
        dsimp only at h
        obtain ⟨x10, h_x10, h⟩ := hz_lt_e h
        refine hz_iinc (k := 3) (v := x10) (ls1 := [(3, .int x10), (0, .ref (hz_ad w 11)), (1, .int v1_6), (2, .int v2_7)]) hO dX7_lowestBeside_30 rfl (by rw [h_x10]; rfl) (Nat.le_of_ble_eq_true rfl) rfl ?_
        refine hz_goto (tgt := 2) hO dX7_lowestBeside_33 (by decide) ?_
        exact hz_ls [1, 2, 3, 0] rfl (ih v1_6 v2_7 x10 M9 h)
      clear hk11
      refine hz_icmp_eq (tgt := 30) hO dX7_lowestBeside_15 (by decide) (fun hc12 => ?_) (fun hc12 => ?_)
      · rw [if_pos hc12] at h
        exact hz_ls [0, 1, 2, 3] rfl (gk11 v1_1 v2_2 v3_3 M4 h)
      · rw [if_neg hc12] at h
        refine hz_aload_n hO dX7_lowestBeside_18 rfl 0 rfl ?_
        refine hz_getR (k := 2) hO 13 hz_K_5 hz_sh_11 (hz_lt_11 hN) rfl (Nat.le_of_ble_eq_true rfl) tw_1_155 rfl dX7_lowestBeside_19 ?_
        refine hz_iload_n hO dX7_lowestBeside_22 rfl 3 rfl ?_
        obtain ⟨hg13, h⟩ := hz_gd_e h
        refine hz_iald hO hz_sh_13 (hz_lt_13 hN) hg13 dX7_lowestBeside_23 ?_
        refine hz_iload_n hO dX7_lowestBeside_24 rfl 2 rfl ?_
        refine hz_icmp_ne (tgt := 30) hO dX7_lowestBeside_25 (by decide) (fun hc14 => ?_) (fun hc14 => ?_)
        · rw [if_neg hc14] at h
          exact hz_ls [0, 1, 2, 3] rfl (gk11 v1_1 v2_2 v3_3 M4 h)
        · rw [if_pos hc14] at h
          refine hz_iload_n hO dX7_lowestBeside_28 rfl 3 rfl ?_
          exact hz_nameM (hz_some_e h).2.symm (hz_name (hz_some_e h).1.symm (hz_iret hO dX7_lowestBeside_29))
set_option maxRecDepth 100000 in
set_option maxHeartbeats 4000000 in
theorem c_X7_lowestBeside (l : Launch) (w : hz_C) {N : Nat} (hN : 178 ≤ N) (a1 : Int32) (a2 : Int32) {M : hz_M} {rE : Int32} {ME : hz_M} (h : f_X7_lowestBeside a1 a2 M = some (rE, ME)) : hz_Ct l yX7_lowestBeside cX7_lowestBeside 4 (some .int) 0 w N [.ref (hz_ad w 11), .int a1, .int a2] M (hz_Qi w N rE ME) := by
  refine hz_ofW (by decide) rfl (Nat.le_of_ble_eq_true rfl) tw_5_206 ?_
  intro p e s m args below meth c hO
  show hz_G p l e 0 hz_z0 s m args below meth c w N 4 _ M 0 [(0, .ref (hz_ad w 11)), (1, .int a1), (2, .int a2)] []
  unfold f_X7_lowestBeside at h
  refine hz_iconst (v := (0 : Int32)) hO dX7_lowestBeside_0 (by decide) ?_
  refine hz_istore_n (ls1 := [(3, .int (0 : Int32)), (0, .ref (hz_ad w 11)), (1, .int a1), (2, .int a2)]) hO dX7_lowestBeside_1 rfl (Nat.le_of_ble_eq_true rfl) rfl ?_
  exact hz_ls [1, 2, 3, 0] rfl (g_X7_lowestBeside_L2 hN hO _ a1 a2 (0 : Int32) M h)
def f_X7_eldestAt_L4 : Nat → Int32 → Int32 → Int32 → hz_M → hz_O
  | 0, _, _, _, _ => none
  | n + 1, v1_1, v2_2, v3_3, M4 =>
    if (M4 1 3) ≤ v3_3 then
      some (v2_2, M4)
    else
      hz_gd (hz_in v3_3 16) <|
      hz_jn (fun (v1_7 : Int32) (v2_8 : Int32) (v3_9 : Int32) (M10 : hz_M) =>
        hz_lt (v3_9 + (1 : Int32)) fun x11 =>
        f_X7_eldestAt_L4 n v1_7 v2_8 x11 M10
        ) fun k12 =>
      if (M4 13 (Int32.toNatClampNeg v3_3)) = v1_1 then
        hz_ct (f_X3_isGuest v2_2 M4) fun r14 M15 =>
        hz_jn (fun (v1_17 : Int32) (v3_18 : Int32) (M19 : hz_M) =>
          k12 v1_17 v3_18 v3_18 M19
          ) fun k20 =>
        if r14 = 0 then
          k20 v1_1 v3_3 M15
        else
          hz_gd (hz_in v3_3 16) <|
          hz_gd (hz_in v2_2 16) <|
          if (M15 2 (Int32.toNatClampNeg v3_3)) ≤ (M15 2 (Int32.toNatClampNeg v2_2)) then
            k12 v1_1 v2_2 v3_3 M15
          else
            k20 v1_1 v3_3 M15
      else
        k12 v1_1 v2_2 v3_3 M4
def f_X7_eldestAt (a1 : Int32) (M : hz_M) : hz_O :=
  f_X7_eldestAt_L4 hz_FU a1 (-1 : Int32) (0 : Int32) M
set_option maxRecDepth 100000 in
set_option maxHeartbeats 4000000 in
theorem g_X7_eldestAt_L4 {p : Program} {l : Launch} {e : Env} {s : State} {m : MethodId} {args : Array Value} {below : List Frame} {meth : Method} {c : Code} {w : hz_C} {N : Nat} (hN : 178 ≤ N) {rE : Int32} {ME : hz_M} (hO : hz_Ok p s m args meth c w cX7_eldestAt 4 RX7 (some .int)) : ∀ (n : Nat) (v1_1 : Int32) (v2_2 : Int32) (v3_3 : Int32) (M4 : hz_M), f_X7_eldestAt_L4 n v1_1 v2_2 v3_3 M4 = some (rE, ME) → hz_G p l e 1 hz_z0 s m args below meth c w N 4 (MQ below (hz_Qi w N rE ME) args s 0 0 (hz_A w)) M4 4 [(0, .ref (hz_ad w 11)), (1, .int v1_1), (2, .int v2_2), (3, .int v3_3)] [] := by
  intro n
  induction n with
  | zero =>
    intro v1_1 v2_2 v3_3 M4 h
    rw [f_X7_eldestAt_L4] at h
    cases h
  | succ n ih =>
    intro v1_1 v2_2 v3_3 M4 h
    rw [f_X7_eldestAt_L4] at h
    refine hz_iload_n hO dX7_eldestAt_4 rfl 3 rfl ?_
    refine hz_aload_n hO dX7_eldestAt_5 rfl 0 rfl ?_
    refine hz_getR (k := 0) hO 1 hz_K_5 hz_sh_11 (hz_lt_11 hN) rfl (Nat.le_of_ble_eq_true rfl) tw_1_151 rfl dX7_eldestAt_6 ?_
    refine hz_getI (k := 3) hO hz_K_2 hz_sh_1 (hz_lt_1 hN) rfl (Nat.le_of_ble_eq_true rfl) tw_1_52 rfl dX7_eldestAt_9 ?_
    refine hz_icmp_ge (tgt := 65) hO dX7_eldestAt_12 (by decide) (fun hc5 => ?_) (fun hc5 => ?_)
    · rw [if_pos hc5] at h
      refine hz_iload_n hO dX7_eldestAt_65 rfl 2 rfl ?_
      exact hz_nameM (hz_some_e h).2.symm (hz_name (hz_some_e h).1.symm (hz_iret hO dX7_eldestAt_66))
    · rw [if_neg hc5] at h
      refine hz_aload_n hO dX7_eldestAt_15 rfl 0 rfl ?_
      refine hz_getR (k := 2) hO 13 hz_K_5 hz_sh_11 (hz_lt_11 hN) rfl (Nat.le_of_ble_eq_true rfl) tw_1_155 rfl dX7_eldestAt_16 ?_
      refine hz_iload_n hO dX7_eldestAt_19 rfl 3 rfl ?_
      obtain ⟨hg6, h⟩ := hz_gd_e h
      refine hz_iald hO hz_sh_13 (hz_lt_13 hN) hg6 dX7_eldestAt_20 ?_
      refine hz_iload_n hO dX7_eldestAt_21 rfl 1 rfl ?_
      obtain ⟨k12, hk12, h⟩ := hz_jn_e h
      have gk12 : ∀ (v1_7 : Int32) (v2_8 : Int32) (v3_9 : Int32) (M10 : hz_M), k12 v1_7 v2_8 v3_9 M10 = some (rE, ME) → hz_G p l e 1 hz_z0 s m args below meth c w N 4 (MQ below (hz_Qi w N rE ME) args s 0 0 (hz_A w)) M10 59 [(0, .ref (hz_ad w 11)), (1, .int v1_7), (2, .int v2_8), (3, .int v3_9)] [] := by
        intro v1_7 v2_8 v3_9 M10 h
        rw [hk12] at h
        dsimp only at h
        obtain ⟨x11, h_x11, h⟩ := hz_lt_e h
        refine hz_iinc (k := 3) (v := x11) (ls1 := [(3, .int x11), (0, .ref (hz_ad w 11)), (1, .int v1_7), (2, .int v2_8)]) hO dX7_eldestAt_59 rfl (by rw [h_x11]; rfl) (Nat.le_of_ble_eq_true rfl) rfl ?_
        refine hz_goto (tgt := 4) hO dX7_eldestAt_62 (by decide) ?_
        exact hz_ls [1, 2, 3, 0] rfl (ih v1_7 v2_8 x11 M10 h)
      clear hk12
      refine hz_icmp_ne (tgt := 59) hO dX7_eldestAt_22 (by decide) (fun hc13 => ?_) (fun hc13 => ?_)
      · rw [if_neg hc13] at h
        exact hz_ls [0, 1, 2, 3] rfl (gk12 v1_1 v2_2 v3_3 M4 h)
      · rw [if_pos hc13] at h
        refine hz_aload_n hO dX7_eldestAt_25 rfl 0 rfl ?_
        refine hz_getR (k := 0) hO 1 hz_K_5 hz_sh_11 (hz_lt_11 hN) rfl (Nat.le_of_ble_eq_true rfl) tw_1_151 rfl dX7_eldestAt_26 ?_
        refine hz_iload_n hO dX7_eldestAt_29 rfl 2 rfl ?_
        obtain ⟨r14, M15, hq16, h⟩ := hz_ct_e h
        refine hz_callVi (as := [.int v2_2]) (rest := []) hO (c_X3_isGuest l w hN v2_2 hq16) hz_cal_X3_isGuest hz_K_2 hz_sh_1 (hz_lt_1 hN) tw_4_113 (Nat.le_of_ble_eq_true rfl) rfl rfl (Nat.le_of_ble_eq_true rfl) dX7_eldestAt_30 ?_
        obtain ⟨k20, hk20, h⟩ := hz_jn_e h
        have gk20 : ∀ (v1_17 : Int32) (v3_18 : Int32) (M19 : hz_M), k20 v1_17 v3_18 M19 = some (rE, ME) → hz_G p l e 1 hz_z0 s m args below meth c w N 4 (MQ below (hz_Qi w N rE ME) args s 0 0 (hz_A w)) M19 57 [(0, .ref (hz_ad w 11)), (1, .int v1_17), (3, .int v3_18)] [] := by
          intro v1_17 v3_18 M19 h
          rw [hk20] at h
          dsimp only at h
          refine hz_iload_n hO dX7_eldestAt_57 rfl 2 rfl ?_
          refine hz_istore_n (ls1 := [(2, .int v3_18), (0, .ref (hz_ad w 11)), (1, .int v1_17), (3, .int v3_18)]) hO dX7_eldestAt_58 rfl (Nat.le_of_ble_eq_true rfl) rfl ?_
          exact hz_ls [1, 2, 0, 3] rfl (gk12 v1_17 v3_18 v3_18 M19 h)
        clear hk20
        refine hz_if_eq (tgt := 57) hO dX7_eldestAt_33 (by decide) (fun hc21 => ?_) (fun hc21 => ?_)
        · rw [if_pos hc21] at h
          exact hz_ls [0, 1, 3] rfl (gk20 v1_1 v3_3 M15 h)
        · rw [if_neg hc21] at h
          refine hz_aload_n hO dX7_eldestAt_36 rfl 0 rfl ?_
          refine hz_getR (k := 0) hO 1 hz_K_5 hz_sh_11 (hz_lt_11 hN) rfl (Nat.le_of_ble_eq_true rfl) tw_1_151 rfl dX7_eldestAt_37 ?_
          refine hz_getR (k := 0) hO 2 hz_K_2 hz_sh_1 (hz_lt_1 hN) rfl (Nat.le_of_ble_eq_true rfl) tw_1_45 rfl dX7_eldestAt_40 ?_
          refine hz_iload_n hO dX7_eldestAt_43 rfl 3 rfl ?_
          obtain ⟨hg22, h⟩ := hz_gd_e h
          refine hz_iald hO hz_sh_2 (hz_lt_2 hN) hg22 dX7_eldestAt_44 ?_
          refine hz_aload_n hO dX7_eldestAt_45 rfl 0 rfl ?_
          refine hz_getR (k := 0) hO 1 hz_K_5 hz_sh_11 (hz_lt_11 hN) rfl (Nat.le_of_ble_eq_true rfl) tw_1_151 rfl dX7_eldestAt_46 ?_
          refine hz_getR (k := 0) hO 2 hz_K_2 hz_sh_1 (hz_lt_1 hN) rfl (Nat.le_of_ble_eq_true rfl) tw_1_45 rfl dX7_eldestAt_49 ?_
          refine hz_iload_n hO dX7_eldestAt_52 rfl 2 rfl ?_
          obtain ⟨hg23, h⟩ := hz_gd_e h
          refine hz_iald hO hz_sh_2 (hz_lt_2 hN) hg23 dX7_eldestAt_53 ?_
          refine hz_icmp_le (tgt := 59) hO dX7_eldestAt_54 (by decide) (fun hc24 => ?_) (fun hc24 => ?_)
          · rw [if_pos hc24] at h
            exact hz_ls [0, 1, 2, 3] rfl (gk12 v1_1 v2_2 v3_3 M15 h)
          · rw [if_neg hc24] at h
            exact hz_ls [0, 1, 3] rfl (gk20 v1_1 v3_3 M15 h)
set_option maxRecDepth 100000 in
set_option maxHeartbeats 4000000 in
theorem c_X7_eldestAt (l : Launch) (w : hz_C) {N : Nat} (hN : 178 ≤ N) (a1 : Int32) {M : hz_M} {rE : Int32} {ME : hz_M} (h : f_X7_eldestAt a1 M = some (rE, ME)) : hz_Ct l yX7_eldestAt cX7_eldestAt 4 (some .int) 1 w N [.ref (hz_ad w 11), .int a1] M (hz_Qi w N rE ME) := by
  refine hz_ofW (by decide) rfl (Nat.le_of_ble_eq_true rfl) tw_5_168 ?_
  intro p e s m args below meth c hO
  show hz_G p l e 1 hz_z0 s m args below meth c w N 4 _ M 0 [(0, .ref (hz_ad w 11)), (1, .int a1)] []
  unfold f_X7_eldestAt at h
  refine hz_iconst (v := (-1 : Int32)) hO dX7_eldestAt_0 (by decide) ?_
  refine hz_istore_n (ls1 := [(2, .int (-1 : Int32)), (0, .ref (hz_ad w 11)), (1, .int a1)]) hO dX7_eldestAt_1 rfl (Nat.le_of_ble_eq_true rfl) rfl ?_
  refine hz_iconst (v := (0 : Int32)) hO dX7_eldestAt_2 (by decide) ?_
  refine hz_istore_n (ls1 := [(3, .int (0 : Int32)), (2, .int (-1 : Int32)), (0, .ref (hz_ad w 11)), (1, .int a1)]) hO dX7_eldestAt_3 rfl (Nat.le_of_ble_eq_true rfl) rfl ?_
  exact hz_ls [2, 3, 1, 0] rfl (g_X7_eldestAt_L4 hN hO _ a1 (-1 : Int32) (0 : Int32) M h)
def f_X7_temperature (a1 : Int32) (M : hz_M) : hz_O :=
  some (((M 11 15) + ((6 : Int32) * a1)), M)
set_option maxRecDepth 100000 in
set_option maxHeartbeats 4000000 in
theorem c_X7_temperature (l : Launch) (w : hz_C) {N : Nat} (hN : 178 ≤ N) (a1 : Int32) {M : hz_M} {rE : Int32} {ME : hz_M} (h : f_X7_temperature a1 M = some (rE, ME)) : hz_Ct l yX7_temperature cX7_temperature 2 (some .int) 0 w N [.ref (hz_ad w 11), .int a1] M (hz_Qi w N rE ME) := by
  refine hz_ofW (by decide) rfl (Nat.le_of_ble_eq_true rfl) tw_4_48 ?_
  intro p e s m args below meth c hO
  show hz_G p l e 0 hz_z0 s m args below meth c w N 2 _ M 0 [(0, .ref (hz_ad w 11)), (1, .int a1)] []
  unfold f_X7_temperature at h
  refine hz_aload_n hO dX7_temperature_0 rfl 0 rfl ?_
  refine hz_getI (k := 15) hO hz_K_5 hz_sh_11 (hz_lt_11 hN) rfl (Nat.le_of_ble_eq_true rfl) tw_1_199 rfl dX7_temperature_1 ?_
  refine hz_bipush (v := (6 : Int32)) hO dX7_temperature_4 (by decide) ?_
  refine hz_iload_n hO dX7_temperature_6 rfl 1 rfl ?_
  refine hz_imul hO dX7_temperature_7 ?_
  refine hz_iadd hO dX7_temperature_8 ?_
  exact hz_nameM (hz_some_e h).2.symm (hz_name (hz_some_e h).1.symm (hz_iret hO dX7_temperature_9))
def f_X7_lockersInUse_L4 : Nat → Int32 → Int32 → hz_M → hz_O
  | 0, _, _, _ => none
  | n + 1, v1_1, v2_2, M3 =>
    if (M3 1 4) ≤ v2_2 then
      some (v1_1, M3)
    else
      hz_gd (hz_in v2_2 12) <|
      hz_jn (fun (v1_6 : Int32) (v2_7 : Int32) (M8 : hz_M) =>
        hz_lt (v2_7 + (1 : Int32)) fun x9 =>
        f_X7_lockersInUse_L4 n v1_6 x9 M8
        ) fun k10 =>
      if (M3 19 (Int32.toNatClampNeg v2_2)) = (-1 : Int32) then
        k10 v1_1 v2_2 M3
      else
        hz_lt (v1_1 + (1 : Int32)) fun x12 =>
        k10 x12 v2_2 M3
def f_X7_lockersInUse (M : hz_M) : hz_O :=
  f_X7_lockersInUse_L4 hz_FU (0 : Int32) (0 : Int32) M
set_option maxRecDepth 100000 in
set_option maxHeartbeats 4000000 in
theorem g_X7_lockersInUse_L4 {p : Program} {l : Launch} {e : Env} {s : State} {m : MethodId} {args : Array Value} {below : List Frame} {meth : Method} {c : Code} {w : hz_C} {N : Nat} (hN : 178 ≤ N) {rE : Int32} {ME : hz_M} (hO : hz_Ok p s m args meth c w cX7_lockersInUse 3 RX7 (some .int)) : ∀ (n : Nat) (v1_1 : Int32) (v2_2 : Int32) (M3 : hz_M), f_X7_lockersInUse_L4 n v1_1 v2_2 M3 = some (rE, ME) → hz_G p l e 0 hz_z0 s m args below meth c w N 3 (MQ below (hz_Qi w N rE ME) args s 0 0 (hz_A w)) M3 4 [(0, .ref (hz_ad w 11)), (1, .int v1_1), (2, .int v2_2)] [] := by
  intro n
  induction n with
  | zero =>
    intro v1_1 v2_2 M3 h
    rw [f_X7_lockersInUse_L4] at h
    cases h
  | succ n ih =>
    intro v1_1 v2_2 M3 h
    rw [f_X7_lockersInUse_L4] at h
    refine hz_iload_n hO dX7_lockersInUse_4 rfl 2 rfl ?_
    refine hz_aload_n hO dX7_lockersInUse_5 rfl 0 rfl ?_
    refine hz_getR (k := 0) hO 1 hz_K_5 hz_sh_11 (hz_lt_11 hN) rfl (Nat.le_of_ble_eq_true rfl) tw_1_151 rfl dX7_lockersInUse_6 ?_
    refine hz_getI (k := 4) hO hz_K_2 hz_sh_1 (hz_lt_1 hN) rfl (Nat.le_of_ble_eq_true rfl) tw_1_56 rfl dX7_lockersInUse_9 ?_
    refine hz_icmp_ge (tgt := 34) hO dX7_lockersInUse_12 (by decide) (fun hc4 => ?_) (fun hc4 => ?_)
    · rw [if_pos hc4] at h
      refine hz_iload_n hO dX7_lockersInUse_34 rfl 1 rfl ?_
      exact hz_nameM (hz_some_e h).2.symm (hz_name (hz_some_e h).1.symm (hz_iret hO dX7_lockersInUse_35))
    · rw [if_neg hc4] at h
      refine hz_aload_n hO dX7_lockersInUse_15 rfl 0 rfl ?_
      refine hz_getR (k := 8) hO 19 hz_K_5 hz_sh_11 (hz_lt_11 hN) rfl (Nat.le_of_ble_eq_true rfl) tw_1_177 rfl dX7_lockersInUse_16 ?_
      refine hz_iload_n hO dX7_lockersInUse_19 rfl 2 rfl ?_
      obtain ⟨hg5, h⟩ := hz_gd_e h
      refine hz_iald hO hz_sh_19 (hz_lt_19 hN) hg5 dX7_lockersInUse_20 ?_
      refine hz_iconst (v := (-1 : Int32)) hO dX7_lockersInUse_21 (by decide) ?_
      obtain ⟨k10, hk10, h⟩ := hz_jn_e h
      have gk10 : ∀ (v1_6 : Int32) (v2_7 : Int32) (M8 : hz_M), k10 v1_6 v2_7 M8 = some (rE, ME) → hz_G p l e 0 hz_z0 s m args below meth c w N 3 (MQ below (hz_Qi w N rE ME) args s 0 0 (hz_A w)) M8 28 [(0, .ref (hz_ad w 11)), (1, .int v1_6), (2, .int v2_7)] [] := by
        intro v1_6 v2_7 M8 h
        rw [hk10] at h
        dsimp only at h
        obtain ⟨x9, h_x9, h⟩ := hz_lt_e h
        refine hz_iinc (k := 2) (v := x9) (ls1 := [(2, .int x9), (0, .ref (hz_ad w 11)), (1, .int v1_6)]) hO dX7_lockersInUse_28 rfl (by rw [h_x9]; rfl) (Nat.le_of_ble_eq_true rfl) rfl ?_
        refine hz_goto (tgt := 4) hO dX7_lockersInUse_31 (by decide) ?_
        exact hz_ls [1, 2, 0] rfl (ih v1_6 x9 M8 h)
      clear hk10
      refine hz_icmp_eq (tgt := 28) hO dX7_lockersInUse_22 (by decide) (fun hc11 => ?_) (fun hc11 => ?_)
      · rw [if_pos hc11] at h
        exact hz_ls [0, 1, 2] rfl (gk10 v1_1 v2_2 M3 h)
      · rw [if_neg hc11] at h
        obtain ⟨x12, h_x12, h⟩ := hz_lt_e h
        refine hz_iinc (k := 1) (v := x12) (ls1 := [(1, .int x12), (0, .ref (hz_ad w 11)), (2, .int v2_2)]) hO dX7_lockersInUse_25 rfl (by rw [h_x12]; rfl) (Nat.le_of_ble_eq_true rfl) rfl ?_
        exact hz_ls [1, 0, 2] rfl (gk10 x12 v2_2 M3 h)
set_option maxRecDepth 100000 in
set_option maxHeartbeats 4000000 in
theorem c_X7_lockersInUse (l : Launch) (w : hz_C) {N : Nat} (hN : 178 ≤ N) {M : hz_M} {rE : Int32} {ME : hz_M} (h : f_X7_lockersInUse M = some (rE, ME)) : hz_Ct l yX7_lockersInUse cX7_lockersInUse 3 (some .int) 0 w N [.ref (hz_ad w 11)] M (hz_Qi w N rE ME) := by
  refine hz_ofW (by decide) rfl (Nat.le_of_ble_eq_true rfl) tw_4_172 ?_
  intro p e s m args below meth c hO
  show hz_G p l e 0 hz_z0 s m args below meth c w N 3 _ M 0 [(0, .ref (hz_ad w 11))] []
  unfold f_X7_lockersInUse at h
  refine hz_iconst (v := (0 : Int32)) hO dX7_lockersInUse_0 (by decide) ?_
  refine hz_istore_n (ls1 := [(1, .int (0 : Int32)), (0, .ref (hz_ad w 11))]) hO dX7_lockersInUse_1 rfl (Nat.le_of_ble_eq_true rfl) rfl ?_
  refine hz_iconst (v := (0 : Int32)) hO dX7_lockersInUse_2 (by decide) ?_
  refine hz_istore_n (ls1 := [(2, .int (0 : Int32)), (1, .int (0 : Int32)), (0, .ref (hz_ad w 11))]) hO dX7_lockersInUse_3 rfl (Nat.le_of_ble_eq_true rfl) rfl ?_
  exact hz_ls [2, 1, 0] rfl (g_X7_lockersInUse_L4 hN hO _ (0 : Int32) (0 : Int32) M h)
def f_X7_freeLocker_L2 : Nat → Int32 → hz_M → hz_O
  | 0, _, _ => none
  | n + 1, v1_1, M2 =>
    if (M2 1 4) ≤ v1_1 then
      some ((-1 : Int32), M2)
    else
      hz_gd (hz_in v1_1 12) <|
      if (M2 19 (Int32.toNatClampNeg v1_1)) = (-1 : Int32) then
        some (v1_1, M2)
      else
        hz_lt (v1_1 + (1 : Int32)) fun x6 =>
        f_X7_freeLocker_L2 n x6 M2
def f_X7_freeLocker (M : hz_M) : hz_O :=
  f_X7_freeLocker_L2 hz_FU (0 : Int32) M
set_option maxRecDepth 100000 in
set_option maxHeartbeats 4000000 in
theorem g_X7_freeLocker_L2 {p : Program} {l : Launch} {e : Env} {s : State} {m : MethodId} {args : Array Value} {below : List Frame} {meth : Method} {c : Code} {w : hz_C} {N : Nat} (hN : 178 ≤ N) {rE : Int32} {ME : hz_M} (hO : hz_Ok p s m args meth c w cX7_freeLocker 2 RX7 (some .int)) : ∀ (n : Nat) (v1_1 : Int32) (M2 : hz_M), f_X7_freeLocker_L2 n v1_1 M2 = some (rE, ME) → hz_G p l e 0 hz_z0 s m args below meth c w N 2 (MQ below (hz_Qi w N rE ME) args s 0 0 (hz_A w)) M2 2 [(0, .ref (hz_ad w 11)), (1, .int v1_1)] [] := by
  intro n
  induction n with
  | zero =>
    intro v1_1 M2 h
    rw [f_X7_freeLocker_L2] at h
    cases h
  | succ n ih =>
    intro v1_1 M2 h
    rw [f_X7_freeLocker_L2] at h
    refine hz_iload_n hO dX7_freeLocker_2 rfl 1 rfl ?_
    refine hz_aload_n hO dX7_freeLocker_3 rfl 0 rfl ?_
    refine hz_getR (k := 0) hO 1 hz_K_5 hz_sh_11 (hz_lt_11 hN) rfl (Nat.le_of_ble_eq_true rfl) tw_1_151 rfl dX7_freeLocker_4 ?_
    refine hz_getI (k := 4) hO hz_K_2 hz_sh_1 (hz_lt_1 hN) rfl (Nat.le_of_ble_eq_true rfl) tw_1_56 rfl dX7_freeLocker_7 ?_
    refine hz_icmp_ge (tgt := 31) hO dX7_freeLocker_10 (by decide) (fun hc3 => ?_) (fun hc3 => ?_)
    · rw [if_pos hc3] at h
      refine hz_iconst (v := (-1 : Int32)) hO dX7_freeLocker_31 (by decide) ?_
      exact hz_nameM (hz_some_e h).2.symm (hz_name (hz_some_e h).1.symm (hz_iret hO dX7_freeLocker_32))
    · rw [if_neg hc3] at h
      refine hz_aload_n hO dX7_freeLocker_13 rfl 0 rfl ?_
      refine hz_getR (k := 8) hO 19 hz_K_5 hz_sh_11 (hz_lt_11 hN) rfl (Nat.le_of_ble_eq_true rfl) tw_1_177 rfl dX7_freeLocker_14 ?_
      refine hz_iload_n hO dX7_freeLocker_17 rfl 1 rfl ?_
      obtain ⟨hg4, h⟩ := hz_gd_e h
      refine hz_iald hO hz_sh_19 (hz_lt_19 hN) hg4 dX7_freeLocker_18 ?_
      refine hz_iconst (v := (-1 : Int32)) hO dX7_freeLocker_19 (by decide) ?_
      refine hz_icmp_ne (tgt := 25) hO dX7_freeLocker_20 (by decide) (fun hc5 => ?_) (fun hc5 => ?_)
      · rw [if_neg hc5] at h
        obtain ⟨x6, h_x6, h⟩ := hz_lt_e h
        refine hz_iinc (k := 1) (v := x6) (ls1 := [(1, .int x6), (0, .ref (hz_ad w 11))]) hO dX7_freeLocker_25 rfl (by rw [h_x6]; rfl) (Nat.le_of_ble_eq_true rfl) rfl ?_
        refine hz_goto (tgt := 2) hO dX7_freeLocker_28 (by decide) ?_
        exact hz_ls [1, 0] rfl (ih x6 M2 h)
      · rw [if_pos hc5] at h
        refine hz_iload_n hO dX7_freeLocker_23 rfl 1 rfl ?_
        exact hz_nameM (hz_some_e h).2.symm (hz_name (hz_some_e h).1.symm (hz_iret hO dX7_freeLocker_24))
set_option maxRecDepth 100000 in
set_option maxHeartbeats 4000000 in
theorem c_X7_freeLocker (l : Launch) (w : hz_C) {N : Nat} (hN : 178 ≤ N) {M : hz_M} {rE : Int32} {ME : hz_M} (h : f_X7_freeLocker M = some (rE, ME)) : hz_Ct l yX7_freeLocker cX7_freeLocker 2 (some .int) 0 w N [.ref (hz_ad w 11)] M (hz_Qi w N rE ME) := by
  refine hz_ofW (by decide) rfl (Nat.le_of_ble_eq_true rfl) tw_3_232 ?_
  intro p e s m args below meth c hO
  show hz_G p l e 0 hz_z0 s m args below meth c w N 2 _ M 0 [(0, .ref (hz_ad w 11))] []
  unfold f_X7_freeLocker at h
  refine hz_iconst (v := (0 : Int32)) hO dX7_freeLocker_0 (by decide) ?_
  refine hz_istore_n (ls1 := [(1, .int (0 : Int32)), (0, .ref (hz_ad w 11))]) hO dX7_freeLocker_1 rfl (Nat.le_of_ble_eq_true rfl) rfl ?_
  exact hz_ls [1, 0] rfl (g_X7_freeLocker_L2 hN hO _ (0 : Int32) M h)
def f_X7_isInBasket (a1 : Int32) (M : hz_M) : hz_O :=
  hz_gd (hz_in a1 16) <|
  if (M 21 (Int32.toNatClampNeg a1)) = (-1 : Int32) then
    hz_gd (hz_in a1 16) <|
    if (M 22 (Int32.toNatClampNeg a1)) = (-1 : Int32) then
      some ((1 : Int32), M)
    else
      some ((0 : Int32), M)
  else
    some ((0 : Int32), M)
set_option maxRecDepth 100000 in
set_option maxHeartbeats 4000000 in
theorem c_X7_isInBasket (l : Launch) (w : hz_C) {N : Nat} (hN : 178 ≤ N) (a1 : Int32) {M : hz_M} {rE : Int32} {ME : hz_M} (h : f_X7_isInBasket a1 M = some (rE, ME)) : hz_Ct l yX7_isInBasket cX7_isInBasket 2 (some .boolean) 0 w N [.ref (hz_ad w 11), .int a1] M (hz_Qi w N rE ME) := by
  refine hz_ofW (by decide) rfl (Nat.le_of_ble_eq_true rfl) tw_4_82 ?_
  intro p e s m args below meth c hO
  show hz_G p l e 0 hz_z0 s m args below meth c w N 2 _ M 0 [(0, .ref (hz_ad w 11)), (1, .int a1)] []
  unfold f_X7_isInBasket at h
  refine hz_aload_n hO dX7_isInBasket_0 rfl 0 rfl ?_
  refine hz_getR (k := 10) hO 21 hz_K_5 hz_sh_11 (hz_lt_11 hN) rfl (Nat.le_of_ble_eq_true rfl) tw_1_183 rfl dX7_isInBasket_1 ?_
  refine hz_iload_n hO dX7_isInBasket_4 rfl 1 rfl ?_
  obtain ⟨hg1, h⟩ := hz_gd_e h
  refine hz_iald hO hz_sh_21 (hz_lt_21 hN) hg1 dX7_isInBasket_5 ?_
  refine hz_iconst (v := (-1 : Int32)) hO dX7_isInBasket_6 (by decide) ?_
  refine hz_icmp_ne (tgt := 24) hO dX7_isInBasket_7 (by decide) (fun hc2 => ?_) (fun hc2 => ?_)
  · rw [if_neg hc2] at h
    refine hz_iconst (v := (0 : Int32)) hO dX7_isInBasket_24 (by decide) ?_
    exact hz_nameM (hz_some_e h).2.symm (hz_name (hz_some_e h).1.symm (hz_zret hO (by rw [← (hz_some_e h).1]; decide) dX7_isInBasket_25))
  · rw [if_pos hc2] at h
    refine hz_aload_n hO dX7_isInBasket_10 rfl 0 rfl ?_
    refine hz_getR (k := 11) hO 22 hz_K_5 hz_sh_11 (hz_lt_11 hN) rfl (Nat.le_of_ble_eq_true rfl) tw_1_185 rfl dX7_isInBasket_11 ?_
    refine hz_iload_n hO dX7_isInBasket_14 rfl 1 rfl ?_
    obtain ⟨hg3, h⟩ := hz_gd_e h
    refine hz_iald hO hz_sh_22 (hz_lt_22 hN) hg3 dX7_isInBasket_15 ?_
    refine hz_iconst (v := (-1 : Int32)) hO dX7_isInBasket_16 (by decide) ?_
    refine hz_icmp_ne (tgt := 24) hO dX7_isInBasket_17 (by decide) (fun hc4 => ?_) (fun hc4 => ?_)
    · rw [if_neg hc4] at h
      refine hz_iconst (v := (0 : Int32)) hO dX7_isInBasket_24 (by decide) ?_
      exact hz_nameM (hz_some_e h).2.symm (hz_name (hz_some_e h).1.symm (hz_zret hO (by rw [← (hz_some_e h).1]; decide) dX7_isInBasket_25))
    · rw [if_pos hc4] at h
      refine hz_iconst (v := (1 : Int32)) hO dX7_isInBasket_20 (by decide) ?_
      refine hz_goto (tgt := 25) hO dX7_isInBasket_21 (by decide) ?_
      exact hz_nameM (hz_some_e h).2.symm (hz_name (hz_some_e h).1.symm (hz_zret hO (by rw [← (hz_some_e h).1]; decide) dX7_isInBasket_25))
def f_X7_towelsInBasket_L4 : Nat → Int32 → Int32 → hz_M → hz_O
  | 0, _, _, _ => none
  | n + 1, v1_1, v2_2, M3 =>
    if (M3 1 6) ≤ v2_2 then
      some (v1_1, M3)
    else
      hz_ct (f_X7_isInBasket v2_2 M3) fun r5 M6 =>
      hz_jn (fun (v1_8 : Int32) (v2_9 : Int32) (M10 : hz_M) =>
        hz_lt (v2_9 + (1 : Int32)) fun x11 =>
        f_X7_towelsInBasket_L4 n v1_8 x11 M10
        ) fun k12 =>
      if r5 = 0 then
        k12 v1_1 v2_2 M6
      else
        hz_lt (v1_1 + (1 : Int32)) fun x14 =>
        k12 x14 v2_2 M6
def f_X7_towelsInBasket (M : hz_M) : hz_O :=
  f_X7_towelsInBasket_L4 hz_FU (0 : Int32) (0 : Int32) M
set_option maxRecDepth 100000 in
set_option maxHeartbeats 4000000 in
theorem g_X7_towelsInBasket_L4 {p : Program} {l : Launch} {e : Env} {s : State} {m : MethodId} {args : Array Value} {below : List Frame} {meth : Method} {c : Code} {w : hz_C} {N : Nat} (hN : 178 ≤ N) {rE : Int32} {ME : hz_M} (hO : hz_Ok p s m args meth c w cX7_towelsInBasket 3 RX7 (some .int)) : ∀ (n : Nat) (v1_1 : Int32) (v2_2 : Int32) (M3 : hz_M), f_X7_towelsInBasket_L4 n v1_1 v2_2 M3 = some (rE, ME) → hz_G p l e 1 hz_z0 s m args below meth c w N 3 (MQ below (hz_Qi w N rE ME) args s 0 0 (hz_A w)) M3 4 [(0, .ref (hz_ad w 11)), (1, .int v1_1), (2, .int v2_2)] [] := by
  intro n
  induction n with
  | zero =>
    intro v1_1 v2_2 M3 h
    rw [f_X7_towelsInBasket_L4] at h
    cases h
  | succ n ih =>
    intro v1_1 v2_2 M3 h
    rw [f_X7_towelsInBasket_L4] at h
    refine hz_iload_n hO dX7_towelsInBasket_4 rfl 2 rfl ?_
    refine hz_aload_n hO dX7_towelsInBasket_5 rfl 0 rfl ?_
    refine hz_getR (k := 0) hO 1 hz_K_5 hz_sh_11 (hz_lt_11 hN) rfl (Nat.le_of_ble_eq_true rfl) tw_1_151 rfl dX7_towelsInBasket_6 ?_
    refine hz_getI (k := 6) hO hz_K_2 hz_sh_1 (hz_lt_1 hN) rfl (Nat.le_of_ble_eq_true rfl) tw_1_62 rfl dX7_towelsInBasket_9 ?_
    refine hz_icmp_ge (tgt := 32) hO dX7_towelsInBasket_12 (by decide) (fun hc4 => ?_) (fun hc4 => ?_)
    · rw [if_pos hc4] at h
      refine hz_iload_n hO dX7_towelsInBasket_32 rfl 1 rfl ?_
      exact hz_nameM (hz_some_e h).2.symm (hz_name (hz_some_e h).1.symm (hz_iret hO dX7_towelsInBasket_33))
    · rw [if_neg hc4] at h
      refine hz_aload_n hO dX7_towelsInBasket_15 rfl 0 rfl ?_
      refine hz_iload_n hO dX7_towelsInBasket_16 rfl 2 rfl ?_
      obtain ⟨r5, M6, hq7, h⟩ := hz_ct_e h
      refine hz_callVi (as := [.int v2_2]) (rest := []) hO (c_X7_isInBasket l w hN v2_2 hq7) hz_cal_X7_isInBasket hz_K_5 hz_sh_11 (hz_lt_11 hN) tw_4_168 (Nat.le_of_ble_eq_true rfl) rfl rfl (Nat.le_of_ble_eq_true rfl) dX7_towelsInBasket_17 ?_
      obtain ⟨k12, hk12, h⟩ := hz_jn_e h
      have gk12 : ∀ (v1_8 : Int32) (v2_9 : Int32) (M10 : hz_M), k12 v1_8 v2_9 M10 = some (rE, ME) → hz_G p l e 1 hz_z0 s m args below meth c w N 3 (MQ below (hz_Qi w N rE ME) args s 0 0 (hz_A w)) M10 26 [(0, .ref (hz_ad w 11)), (1, .int v1_8), (2, .int v2_9)] [] := by
        intro v1_8 v2_9 M10 h
        rw [hk12] at h
        dsimp only at h
        obtain ⟨x11, h_x11, h⟩ := hz_lt_e h
        refine hz_iinc (k := 2) (v := x11) (ls1 := [(2, .int x11), (0, .ref (hz_ad w 11)), (1, .int v1_8)]) hO dX7_towelsInBasket_26 rfl (by rw [h_x11]; rfl) (Nat.le_of_ble_eq_true rfl) rfl ?_
        refine hz_goto (tgt := 4) hO dX7_towelsInBasket_29 (by decide) ?_
        exact hz_ls [1, 2, 0] rfl (ih v1_8 x11 M10 h)
      clear hk12
      refine hz_if_eq (tgt := 26) hO dX7_towelsInBasket_20 (by decide) (fun hc13 => ?_) (fun hc13 => ?_)
      · rw [if_pos hc13] at h
        exact hz_ls [0, 1, 2] rfl (gk12 v1_1 v2_2 M6 h)
      · rw [if_neg hc13] at h
        obtain ⟨x14, h_x14, h⟩ := hz_lt_e h
        refine hz_iinc (k := 1) (v := x14) (ls1 := [(1, .int x14), (0, .ref (hz_ad w 11)), (2, .int v2_2)]) hO dX7_towelsInBasket_23 rfl (by rw [h_x14]; rfl) (Nat.le_of_ble_eq_true rfl) rfl ?_
        exact hz_ls [1, 0, 2] rfl (gk12 x14 v2_2 M6 h)
set_option maxRecDepth 100000 in
set_option maxHeartbeats 4000000 in
theorem c_X7_towelsInBasket (l : Launch) (w : hz_C) {N : Nat} (hN : 178 ≤ N) {M : hz_M} {rE : Int32} {ME : hz_M} (h : f_X7_towelsInBasket M = some (rE, ME)) : hz_Ct l yX7_towelsInBasket cX7_towelsInBasket 3 (some .int) 1 w N [.ref (hz_ad w 11)] M (hz_Qi w N rE ME) := by
  refine hz_ofW (by decide) rfl (Nat.le_of_ble_eq_true rfl) tw_4_167 ?_
  intro p e s m args below meth c hO
  show hz_G p l e 1 hz_z0 s m args below meth c w N 3 _ M 0 [(0, .ref (hz_ad w 11))] []
  unfold f_X7_towelsInBasket at h
  refine hz_iconst (v := (0 : Int32)) hO dX7_towelsInBasket_0 (by decide) ?_
  refine hz_istore_n (ls1 := [(1, .int (0 : Int32)), (0, .ref (hz_ad w 11))]) hO dX7_towelsInBasket_1 rfl (Nat.le_of_ble_eq_true rfl) rfl ?_
  refine hz_iconst (v := (0 : Int32)) hO dX7_towelsInBasket_2 (by decide) ?_
  refine hz_istore_n (ls1 := [(2, .int (0 : Int32)), (1, .int (0 : Int32)), (0, .ref (hz_ad w 11))]) hO dX7_towelsInBasket_3 rfl (Nat.le_of_ble_eq_true rfl) rfl ?_
  exact hz_ls [2, 1, 0] rfl (g_X7_towelsInBasket_L4 hN hO _ (0 : Int32) (0 : Int32) M h)
def f_X7_towelsOnPegs_L4 : Nat → Int32 → Int32 → hz_M → hz_O
  | 0, _, _, _ => none
  | n + 1, v1_1, v2_2, M3 =>
    if (M3 1 5) ≤ v2_2 then
      some (v1_1, M3)
    else
      hz_gd (hz_in v2_2 16) <|
      hz_jn (fun (v1_6 : Int32) (v2_7 : Int32) (M8 : hz_M) =>
        hz_lt (v2_7 + (1 : Int32)) fun x9 =>
        f_X7_towelsOnPegs_L4 n v1_6 x9 M8
        ) fun k10 =>
      if (M3 23 (Int32.toNatClampNeg v2_2)) = (-1 : Int32) then
        k10 v1_1 v2_2 M3
      else
        hz_lt (v1_1 + (1 : Int32)) fun x12 =>
        k10 x12 v2_2 M3
def f_X7_towelsOnPegs (M : hz_M) : hz_O :=
  f_X7_towelsOnPegs_L4 hz_FU (0 : Int32) (0 : Int32) M
set_option maxRecDepth 100000 in
set_option maxHeartbeats 4000000 in
theorem g_X7_towelsOnPegs_L4 {p : Program} {l : Launch} {e : Env} {s : State} {m : MethodId} {args : Array Value} {below : List Frame} {meth : Method} {c : Code} {w : hz_C} {N : Nat} (hN : 178 ≤ N) {rE : Int32} {ME : hz_M} (hO : hz_Ok p s m args meth c w cX7_towelsOnPegs 3 RX7 (some .int)) : ∀ (n : Nat) (v1_1 : Int32) (v2_2 : Int32) (M3 : hz_M), f_X7_towelsOnPegs_L4 n v1_1 v2_2 M3 = some (rE, ME) → hz_G p l e 0 hz_z0 s m args below meth c w N 3 (MQ below (hz_Qi w N rE ME) args s 0 0 (hz_A w)) M3 4 [(0, .ref (hz_ad w 11)), (1, .int v1_1), (2, .int v2_2)] [] := by
  intro n
  induction n with
  | zero =>
    intro v1_1 v2_2 M3 h
    rw [f_X7_towelsOnPegs_L4] at h
    cases h
  | succ n ih =>
    intro v1_1 v2_2 M3 h
    rw [f_X7_towelsOnPegs_L4] at h
    refine hz_iload_n hO dX7_towelsOnPegs_4 rfl 2 rfl ?_
    refine hz_aload_n hO dX7_towelsOnPegs_5 rfl 0 rfl ?_
    refine hz_getR (k := 0) hO 1 hz_K_5 hz_sh_11 (hz_lt_11 hN) rfl (Nat.le_of_ble_eq_true rfl) tw_1_151 rfl dX7_towelsOnPegs_6 ?_
    refine hz_getI (k := 5) hO hz_K_2 hz_sh_1 (hz_lt_1 hN) rfl (Nat.le_of_ble_eq_true rfl) tw_1_60 rfl dX7_towelsOnPegs_9 ?_
    refine hz_icmp_ge (tgt := 34) hO dX7_towelsOnPegs_12 (by decide) (fun hc4 => ?_) (fun hc4 => ?_)
    · rw [if_pos hc4] at h
      refine hz_iload_n hO dX7_towelsOnPegs_34 rfl 1 rfl ?_
      exact hz_nameM (hz_some_e h).2.symm (hz_name (hz_some_e h).1.symm (hz_iret hO dX7_towelsOnPegs_35))
    · rw [if_neg hc4] at h
      refine hz_aload_n hO dX7_towelsOnPegs_15 rfl 0 rfl ?_
      refine hz_getR (k := 12) hO 23 hz_K_5 hz_sh_11 (hz_lt_11 hN) rfl (Nat.le_of_ble_eq_true rfl) tw_1_188 rfl dX7_towelsOnPegs_16 ?_
      refine hz_iload_n hO dX7_towelsOnPegs_19 rfl 2 rfl ?_
      obtain ⟨hg5, h⟩ := hz_gd_e h
      refine hz_iald hO hz_sh_23 (hz_lt_23 hN) hg5 dX7_towelsOnPegs_20 ?_
      refine hz_iconst (v := (-1 : Int32)) hO dX7_towelsOnPegs_21 (by decide) ?_
      obtain ⟨k10, hk10, h⟩ := hz_jn_e h
      have gk10 : ∀ (v1_6 : Int32) (v2_7 : Int32) (M8 : hz_M), k10 v1_6 v2_7 M8 = some (rE, ME) → hz_G p l e 0 hz_z0 s m args below meth c w N 3 (MQ below (hz_Qi w N rE ME) args s 0 0 (hz_A w)) M8 28 [(0, .ref (hz_ad w 11)), (1, .int v1_6), (2, .int v2_7)] [] := by
        intro v1_6 v2_7 M8 h
        rw [hk10] at h
        dsimp only at h
        obtain ⟨x9, h_x9, h⟩ := hz_lt_e h
        refine hz_iinc (k := 2) (v := x9) (ls1 := [(2, .int x9), (0, .ref (hz_ad w 11)), (1, .int v1_6)]) hO dX7_towelsOnPegs_28 rfl (by rw [h_x9]; rfl) (Nat.le_of_ble_eq_true rfl) rfl ?_
        refine hz_goto (tgt := 4) hO dX7_towelsOnPegs_31 (by decide) ?_
        exact hz_ls [1, 2, 0] rfl (ih v1_6 x9 M8 h)
      clear hk10
      refine hz_icmp_eq (tgt := 28) hO dX7_towelsOnPegs_22 (by decide) (fun hc11 => ?_) (fun hc11 => ?_)
      · rw [if_pos hc11] at h
        exact hz_ls [0, 1, 2] rfl (gk10 v1_1 v2_2 M3 h)
      · rw [if_neg hc11] at h
        obtain ⟨x12, h_x12, h⟩ := hz_lt_e h
        refine hz_iinc (k := 1) (v := x12) (ls1 := [(1, .int x12), (0, .ref (hz_ad w 11)), (2, .int v2_2)]) hO dX7_towelsOnPegs_25 rfl (by rw [h_x12]; rfl) (Nat.le_of_ble_eq_true rfl) rfl ?_
        exact hz_ls [1, 0, 2] rfl (gk10 x12 v2_2 M3 h)
set_option maxRecDepth 100000 in
set_option maxHeartbeats 4000000 in
theorem c_X7_towelsOnPegs (l : Launch) (w : hz_C) {N : Nat} (hN : 178 ≤ N) {M : hz_M} {rE : Int32} {ME : hz_M} (h : f_X7_towelsOnPegs M = some (rE, ME)) : hz_Ct l yX7_towelsOnPegs cX7_towelsOnPegs 3 (some .int) 0 w N [.ref (hz_ad w 11)] M (hz_Qi w N rE ME) := by
  refine hz_ofW (by decide) rfl (Nat.le_of_ble_eq_true rfl) tw_4_159 ?_
  intro p e s m args below meth c hO
  show hz_G p l e 0 hz_z0 s m args below meth c w N 3 _ M 0 [(0, .ref (hz_ad w 11))] []
  unfold f_X7_towelsOnPegs at h
  refine hz_iconst (v := (0 : Int32)) hO dX7_towelsOnPegs_0 (by decide) ?_
  refine hz_istore_n (ls1 := [(1, .int (0 : Int32)), (0, .ref (hz_ad w 11))]) hO dX7_towelsOnPegs_1 rfl (Nat.le_of_ble_eq_true rfl) rfl ?_
  refine hz_iconst (v := (0 : Int32)) hO dX7_towelsOnPegs_2 (by decide) ?_
  refine hz_istore_n (ls1 := [(2, .int (0 : Int32)), (1, .int (0 : Int32)), (0, .ref (hz_ad w 11))]) hO dX7_towelsOnPegs_3 rfl (Nat.le_of_ble_eq_true rfl) rfl ?_
  exact hz_ls [2, 1, 0] rfl (g_X7_towelsOnPegs_L4 hN hO _ (0 : Int32) (0 : Int32) M h)
def f_X7_towelsWithGuests_L4 : Nat → Int32 → Int32 → hz_M → hz_O
  | 0, _, _, _ => none
  | n + 1, v1_1, v2_2, M3 =>
    if (M3 1 3) ≤ v2_2 then
      some (v1_1, M3)
    else
      hz_gd (hz_in v2_2 16) <|
      hz_jn (fun (v1_6 : Int32) (v2_7 : Int32) (M8 : hz_M) =>
        hz_lt (v2_7 + (1 : Int32)) fun x9 =>
        f_X7_towelsWithGuests_L4 n v1_6 x9 M8
        ) fun k10 =>
      if (M3 15 (Int32.toNatClampNeg v2_2)) = (-1 : Int32) then
        k10 v1_1 v2_2 M3
      else
        hz_lt (v1_1 + (1 : Int32)) fun x12 =>
        k10 x12 v2_2 M3
def f_X7_towelsWithGuests (M : hz_M) : hz_O :=
  f_X7_towelsWithGuests_L4 hz_FU (0 : Int32) (0 : Int32) M
set_option maxRecDepth 100000 in
set_option maxHeartbeats 4000000 in
theorem g_X7_towelsWithGuests_L4 {p : Program} {l : Launch} {e : Env} {s : State} {m : MethodId} {args : Array Value} {below : List Frame} {meth : Method} {c : Code} {w : hz_C} {N : Nat} (hN : 178 ≤ N) {rE : Int32} {ME : hz_M} (hO : hz_Ok p s m args meth c w cX7_towelsWithGuests 3 RX7 (some .int)) : ∀ (n : Nat) (v1_1 : Int32) (v2_2 : Int32) (M3 : hz_M), f_X7_towelsWithGuests_L4 n v1_1 v2_2 M3 = some (rE, ME) → hz_G p l e 0 hz_z0 s m args below meth c w N 3 (MQ below (hz_Qi w N rE ME) args s 0 0 (hz_A w)) M3 4 [(0, .ref (hz_ad w 11)), (1, .int v1_1), (2, .int v2_2)] [] := by
  intro n
  induction n with
  | zero =>
    intro v1_1 v2_2 M3 h
    rw [f_X7_towelsWithGuests_L4] at h
    cases h
  | succ n ih =>
    intro v1_1 v2_2 M3 h
    rw [f_X7_towelsWithGuests_L4] at h
    refine hz_iload_n hO dX7_towelsWithGuests_4 rfl 2 rfl ?_
    refine hz_aload_n hO dX7_towelsWithGuests_5 rfl 0 rfl ?_
    refine hz_getR (k := 0) hO 1 hz_K_5 hz_sh_11 (hz_lt_11 hN) rfl (Nat.le_of_ble_eq_true rfl) tw_1_151 rfl dX7_towelsWithGuests_6 ?_
    refine hz_getI (k := 3) hO hz_K_2 hz_sh_1 (hz_lt_1 hN) rfl (Nat.le_of_ble_eq_true rfl) tw_1_52 rfl dX7_towelsWithGuests_9 ?_
    refine hz_icmp_ge (tgt := 34) hO dX7_towelsWithGuests_12 (by decide) (fun hc4 => ?_) (fun hc4 => ?_)
    · rw [if_pos hc4] at h
      refine hz_iload_n hO dX7_towelsWithGuests_34 rfl 1 rfl ?_
      exact hz_nameM (hz_some_e h).2.symm (hz_name (hz_some_e h).1.symm (hz_iret hO dX7_towelsWithGuests_35))
    · rw [if_neg hc4] at h
      refine hz_aload_n hO dX7_towelsWithGuests_15 rfl 0 rfl ?_
      refine hz_getR (k := 4) hO 15 hz_K_5 hz_sh_11 (hz_lt_11 hN) rfl (Nat.le_of_ble_eq_true rfl) tw_1_163 rfl dX7_towelsWithGuests_16 ?_
      refine hz_iload_n hO dX7_towelsWithGuests_19 rfl 2 rfl ?_
      obtain ⟨hg5, h⟩ := hz_gd_e h
      refine hz_iald hO hz_sh_15 (hz_lt_15 hN) hg5 dX7_towelsWithGuests_20 ?_
      refine hz_iconst (v := (-1 : Int32)) hO dX7_towelsWithGuests_21 (by decide) ?_
      obtain ⟨k10, hk10, h⟩ := hz_jn_e h
      have gk10 : ∀ (v1_6 : Int32) (v2_7 : Int32) (M8 : hz_M), k10 v1_6 v2_7 M8 = some (rE, ME) → hz_G p l e 0 hz_z0 s m args below meth c w N 3 (MQ below (hz_Qi w N rE ME) args s 0 0 (hz_A w)) M8 28 [(0, .ref (hz_ad w 11)), (1, .int v1_6), (2, .int v2_7)] [] := by
        intro v1_6 v2_7 M8 h
        rw [hk10] at h
        dsimp only at h
        obtain ⟨x9, h_x9, h⟩ := hz_lt_e h
        refine hz_iinc (k := 2) (v := x9) (ls1 := [(2, .int x9), (0, .ref (hz_ad w 11)), (1, .int v1_6)]) hO dX7_towelsWithGuests_28 rfl (by rw [h_x9]; rfl) (Nat.le_of_ble_eq_true rfl) rfl ?_
        refine hz_goto (tgt := 4) hO dX7_towelsWithGuests_31 (by decide) ?_
        exact hz_ls [1, 2, 0] rfl (ih v1_6 x9 M8 h)
      clear hk10
      refine hz_icmp_eq (tgt := 28) hO dX7_towelsWithGuests_22 (by decide) (fun hc11 => ?_) (fun hc11 => ?_)
      · rw [if_pos hc11] at h
        exact hz_ls [0, 1, 2] rfl (gk10 v1_1 v2_2 M3 h)
      · rw [if_neg hc11] at h
        obtain ⟨x12, h_x12, h⟩ := hz_lt_e h
        refine hz_iinc (k := 1) (v := x12) (ls1 := [(1, .int x12), (0, .ref (hz_ad w 11)), (2, .int v2_2)]) hO dX7_towelsWithGuests_25 rfl (by rw [h_x12]; rfl) (Nat.le_of_ble_eq_true rfl) rfl ?_
        exact hz_ls [1, 0, 2] rfl (gk10 x12 v2_2 M3 h)
set_option maxRecDepth 100000 in
set_option maxHeartbeats 4000000 in
theorem c_X7_towelsWithGuests (l : Launch) (w : hz_C) {N : Nat} (hN : 178 ≤ N) {M : hz_M} {rE : Int32} {ME : hz_M} (h : f_X7_towelsWithGuests M = some (rE, ME)) : hz_Ct l yX7_towelsWithGuests cX7_towelsWithGuests 3 (some .int) 0 w N [.ref (hz_ad w 11)] M (hz_Qi w N rE ME) := by
  refine hz_ofW (by decide) rfl (Nat.le_of_ble_eq_true rfl) tw_4_163 ?_
  intro p e s m args below meth c hO
  show hz_G p l e 0 hz_z0 s m args below meth c w N 3 _ M 0 [(0, .ref (hz_ad w 11))] []
  unfold f_X7_towelsWithGuests at h
  refine hz_iconst (v := (0 : Int32)) hO dX7_towelsWithGuests_0 (by decide) ?_
  refine hz_istore_n (ls1 := [(1, .int (0 : Int32)), (0, .ref (hz_ad w 11))]) hO dX7_towelsWithGuests_1 rfl (Nat.le_of_ble_eq_true rfl) rfl ?_
  refine hz_iconst (v := (0 : Int32)) hO dX7_towelsWithGuests_2 (by decide) ?_
  refine hz_istore_n (ls1 := [(2, .int (0 : Int32)), (1, .int (0 : Int32)), (0, .ref (hz_ad w 11))]) hO dX7_towelsWithGuests_3 rfl (Nat.le_of_ble_eq_true rfl) rfl ?_
  exact hz_ls [2, 1, 0] rfl (g_X7_towelsWithGuests_L4 hN hO _ (0 : Int32) (0 : Int32) M h)
def f_X7_pegsUntold_L4 : Nat → Int32 → Int32 → hz_M → hz_O
  | 0, _, _, _ => none
  | n + 1, v1_1, v2_2, M3 =>
    if (M3 1 5) ≤ v2_2 then
      some (v1_1, M3)
    else
      hz_gd (hz_in v2_2 16) <|
      hz_lt ((M3 23 (Int32.toNatClampNeg v2_2))) fun x6 =>
      hz_ct (f_X3_isTowel x6 M3) fun r7 M8 =>
      hz_jn (fun (v1_10 : Int32) (v2_11 : Int32) (M12 : hz_M) =>
        hz_lt (v2_11 + (1 : Int32)) fun x13 =>
        f_X7_pegsUntold_L4 n v1_10 x13 M12
        ) fun k14 =>
      if r7 = 0 then
        k14 v1_1 v2_2 M8
      else
        hz_gd (hz_in x6 16) <|
        if (M8 21 (Int32.toNatClampNeg x6)) = v2_2 then
          k14 v1_1 v2_2 M8
        else
          hz_lt (v1_1 + (1 : Int32)) fun x18 =>
          k14 x18 v2_2 M8
def f_X7_pegsUntold (M : hz_M) : hz_O :=
  f_X7_pegsUntold_L4 hz_FU (0 : Int32) (0 : Int32) M
set_option maxRecDepth 100000 in
set_option maxHeartbeats 4000000 in
theorem g_X7_pegsUntold_L4 {p : Program} {l : Launch} {e : Env} {s : State} {m : MethodId} {args : Array Value} {below : List Frame} {meth : Method} {c : Code} {w : hz_C} {N : Nat} (hN : 178 ≤ N) {rE : Int32} {ME : hz_M} (hO : hz_Ok p s m args meth c w cX7_pegsUntold 4 RX7 (some .int)) : ∀ (n : Nat) (v1_1 : Int32) (v2_2 : Int32) (M3 : hz_M), f_X7_pegsUntold_L4 n v1_1 v2_2 M3 = some (rE, ME) → hz_G p l e 1 hz_z0 s m args below meth c w N 4 (MQ below (hz_Qi w N rE ME) args s 0 0 (hz_A w)) M3 4 [(0, .ref (hz_ad w 11)), (1, .int v1_1), (2, .int v2_2)] [] := by
  intro n
  induction n with
  | zero =>
    intro v1_1 v2_2 M3 h
    rw [f_X7_pegsUntold_L4] at h
    cases h
  | succ n ih =>
    intro v1_1 v2_2 M3 h
    rw [f_X7_pegsUntold_L4] at h
    refine hz_iload_n hO dX7_pegsUntold_4 rfl 2 rfl ?_
    refine hz_aload_n hO dX7_pegsUntold_5 rfl 0 rfl ?_
    refine hz_getR (k := 0) hO 1 hz_K_5 hz_sh_11 (hz_lt_11 hN) rfl (Nat.le_of_ble_eq_true rfl) tw_1_151 rfl dX7_pegsUntold_6 ?_
    refine hz_getI (k := 5) hO hz_K_2 hz_sh_1 (hz_lt_1 hN) rfl (Nat.le_of_ble_eq_true rfl) tw_1_60 rfl dX7_pegsUntold_9 ?_
    refine hz_icmp_ge (tgt := 52) hO dX7_pegsUntold_12 (by decide) (fun hc4 => ?_) (fun hc4 => ?_)
    · rw [if_pos hc4] at h
      refine hz_iload_n hO dX7_pegsUntold_52 rfl 1 rfl ?_
      exact hz_nameM (hz_some_e h).2.symm (hz_name (hz_some_e h).1.symm (hz_iret hO dX7_pegsUntold_53))
    · rw [if_neg hc4] at h
      refine hz_aload_n hO dX7_pegsUntold_15 rfl 0 rfl ?_
      refine hz_getR (k := 12) hO 23 hz_K_5 hz_sh_11 (hz_lt_11 hN) rfl (Nat.le_of_ble_eq_true rfl) tw_1_188 rfl dX7_pegsUntold_16 ?_
      refine hz_iload_n hO dX7_pegsUntold_19 rfl 2 rfl ?_
      obtain ⟨hg5, h⟩ := hz_gd_e h
      refine hz_iald hO hz_sh_23 (hz_lt_23 hN) hg5 dX7_pegsUntold_20 ?_
      obtain ⟨x6, h_x6, h⟩ := hz_lt_e h
      refine hz_name h_x6 ?_
      refine hz_istore_n (ls1 := [(3, .int x6), (0, .ref (hz_ad w 11)), (1, .int v1_1), (2, .int v2_2)]) hO dX7_pegsUntold_21 rfl (Nat.le_of_ble_eq_true rfl) rfl ?_
      refine hz_aload_n hO dX7_pegsUntold_22 rfl 1 rfl ?_
      refine hz_getR (k := 0) hO 1 hz_K_5 hz_sh_11 (hz_lt_11 hN) rfl (Nat.le_of_ble_eq_true rfl) tw_1_151 rfl dX7_pegsUntold_23 ?_
      refine hz_iload_n hO dX7_pegsUntold_26 rfl 0 rfl ?_
      obtain ⟨r7, M8, hq9, h⟩ := hz_ct_e h
      refine hz_callVi (as := [.int x6]) (rest := []) hO (c_X3_isTowel l w hN x6 hq9) hz_cal_X3_isTowel hz_K_2 hz_sh_1 (hz_lt_1 hN) tw_4_180 (Nat.le_of_ble_eq_true rfl) rfl rfl (Nat.le_of_ble_eq_true rfl) dX7_pegsUntold_27 ?_
      obtain ⟨k14, hk14, h⟩ := hz_jn_e h
      have gk14 : ∀ (v1_10 : Int32) (v2_11 : Int32) (M12 : hz_M), k14 v1_10 v2_11 M12 = some (rE, ME) → hz_G p l e 1 hz_z0 s m args below meth c w N 4 (MQ below (hz_Qi w N rE ME) args s 0 0 (hz_A w)) M12 46 [(0, .ref (hz_ad w 11)), (1, .int v1_10), (2, .int v2_11)] [] := by
        intro v1_10 v2_11 M12 h
        rw [hk14] at h
        dsimp only at h
        obtain ⟨x13, h_x13, h⟩ := hz_lt_e h
        refine hz_iinc (k := 2) (v := x13) (ls1 := [(2, .int x13), (0, .ref (hz_ad w 11)), (1, .int v1_10)]) hO dX7_pegsUntold_46 rfl (by rw [h_x13]; rfl) (Nat.le_of_ble_eq_true rfl) rfl ?_
        refine hz_goto (tgt := 4) hO dX7_pegsUntold_49 (by decide) ?_
        exact hz_ls [1, 2, 0] rfl (ih v1_10 x13 M12 h)
      clear hk14
      refine hz_if_eq (tgt := 46) hO dX7_pegsUntold_30 (by decide) (fun hc15 => ?_) (fun hc15 => ?_)
      · rw [if_pos hc15] at h
        exact hz_ls [1, 2, 3] rfl (gk14 v1_1 v2_2 M8 h)
      · rw [if_neg hc15] at h
        refine hz_aload_n hO dX7_pegsUntold_33 rfl 1 rfl ?_
        refine hz_getR (k := 10) hO 21 hz_K_5 hz_sh_11 (hz_lt_11 hN) rfl (Nat.le_of_ble_eq_true rfl) tw_1_183 rfl dX7_pegsUntold_34 ?_
        refine hz_iload_n hO dX7_pegsUntold_37 rfl 0 rfl ?_
        obtain ⟨hg16, h⟩ := hz_gd_e h
        refine hz_iald hO hz_sh_21 (hz_lt_21 hN) hg16 dX7_pegsUntold_38 ?_
        refine hz_iload_n hO dX7_pegsUntold_39 rfl 3 rfl ?_
        refine hz_icmp_eq (tgt := 46) hO dX7_pegsUntold_40 (by decide) (fun hc17 => ?_) (fun hc17 => ?_)
        · rw [if_pos hc17] at h
          exact hz_ls [1, 2, 3] rfl (gk14 v1_1 v2_2 M8 h)
        · rw [if_neg hc17] at h
          obtain ⟨x18, h_x18, h⟩ := hz_lt_e h
          refine hz_iinc (k := 2) (v := x18) (ls1 := [(1, .int x18), (3, .int x6), (0, .ref (hz_ad w 11)), (2, .int v2_2)]) hO dX7_pegsUntold_43 rfl (by rw [h_x18]; rfl) (Nat.le_of_ble_eq_true rfl) rfl ?_
          exact hz_ls [2, 0, 3] rfl (gk14 x18 v2_2 M8 h)
set_option maxRecDepth 100000 in
set_option maxHeartbeats 4000000 in
theorem c_X7_pegsUntold (l : Launch) (w : hz_C) {N : Nat} (hN : 178 ≤ N) {M : hz_M} {rE : Int32} {ME : hz_M} (h : f_X7_pegsUntold M = some (rE, ME)) : hz_Ct l yX7_pegsUntold cX7_pegsUntold 4 (some .int) 1 w N [.ref (hz_ad w 11)] M (hz_Qi w N rE ME) := by
  refine hz_ofW (by decide) rfl (Nat.le_of_ble_eq_true rfl) tw_4_179 ?_
  intro p e s m args below meth c hO
  show hz_G p l e 1 hz_z0 s m args below meth c w N 4 _ M 0 [(0, .ref (hz_ad w 11))] []
  unfold f_X7_pegsUntold at h
  refine hz_iconst (v := (0 : Int32)) hO dX7_pegsUntold_0 (by decide) ?_
  refine hz_istore_n (ls1 := [(1, .int (0 : Int32)), (0, .ref (hz_ad w 11))]) hO dX7_pegsUntold_1 rfl (Nat.le_of_ble_eq_true rfl) rfl ?_
  refine hz_iconst (v := (0 : Int32)) hO dX7_pegsUntold_2 (by decide) ?_
  refine hz_istore_n (ls1 := [(2, .int (0 : Int32)), (1, .int (0 : Int32)), (0, .ref (hz_ad w 11))]) hO dX7_pegsUntold_3 rfl (Nat.le_of_ble_eq_true rfl) rfl ?_
  exact hz_ls [2, 1, 0] rfl (g_X7_pegsUntold_L4 hN hO _ (0 : Int32) (0 : Int32) M h)
def f_X7_allWet_L4 : Nat → Int32 → Int32 → hz_M → hz_O
  | 0, _, _, _ => none
  | n + 1, v1_1, v2_2, M3 =>
    if (M3 1 6) ≤ v2_2 then
      some (v1_1, M3)
    else
      hz_gd (hz_in v2_2 16) <|
      hz_lt ((v1_1 + (M3 20 (Int32.toNatClampNeg v2_2)))) fun x6 =>
      hz_lt (v2_2 + (1 : Int32)) fun x7 =>
      f_X7_allWet_L4 n x6 x7 M3
def f_X7_allWet (M : hz_M) : hz_O :=
  f_X7_allWet_L4 hz_FU (0 : Int32) (0 : Int32) M
set_option maxRecDepth 100000 in
set_option maxHeartbeats 4000000 in
theorem g_X7_allWet_L4 {p : Program} {l : Launch} {e : Env} {s : State} {m : MethodId} {args : Array Value} {below : List Frame} {meth : Method} {c : Code} {w : hz_C} {N : Nat} (hN : 178 ≤ N) {rE : Int32} {ME : hz_M} (hO : hz_Ok p s m args meth c w cX7_allWet 3 RX7 (some .int)) : ∀ (n : Nat) (v1_1 : Int32) (v2_2 : Int32) (M3 : hz_M), f_X7_allWet_L4 n v1_1 v2_2 M3 = some (rE, ME) → hz_G p l e 0 hz_z0 s m args below meth c w N 3 (MQ below (hz_Qi w N rE ME) args s 0 0 (hz_A w)) M3 4 [(0, .ref (hz_ad w 11)), (1, .int v1_1), (2, .int v2_2)] [] := by
  intro n
  induction n with
  | zero =>
    intro v1_1 v2_2 M3 h
    rw [f_X7_allWet_L4] at h
    cases h
  | succ n ih =>
    intro v1_1 v2_2 M3 h
    rw [f_X7_allWet_L4] at h
    refine hz_iload_n hO dX7_allWet_4 rfl 2 rfl ?_
    refine hz_aload_n hO dX7_allWet_5 rfl 0 rfl ?_
    refine hz_getR (k := 0) hO 1 hz_K_5 hz_sh_11 (hz_lt_11 hN) rfl (Nat.le_of_ble_eq_true rfl) tw_1_151 rfl dX7_allWet_6 ?_
    refine hz_getI (k := 6) hO hz_K_2 hz_sh_1 (hz_lt_1 hN) rfl (Nat.le_of_ble_eq_true rfl) tw_1_62 rfl dX7_allWet_9 ?_
    refine hz_icmp_ge (tgt := 30) hO dX7_allWet_12 (by decide) (fun hc4 => ?_) (fun hc4 => ?_)
    · rw [if_pos hc4] at h
      refine hz_iload_n hO dX7_allWet_30 rfl 1 rfl ?_
      exact hz_nameM (hz_some_e h).2.symm (hz_name (hz_some_e h).1.symm (hz_iret hO dX7_allWet_31))
    · rw [if_neg hc4] at h
      refine hz_iload_n hO dX7_allWet_15 rfl 1 rfl ?_
      refine hz_aload_n hO dX7_allWet_16 rfl 0 rfl ?_
      refine hz_getR (k := 9) hO 20 hz_K_5 hz_sh_11 (hz_lt_11 hN) rfl (Nat.le_of_ble_eq_true rfl) tw_1_180 rfl dX7_allWet_17 ?_
      refine hz_iload_n hO dX7_allWet_20 rfl 2 rfl ?_
      obtain ⟨hg5, h⟩ := hz_gd_e h
      refine hz_iald hO hz_sh_20 (hz_lt_20 hN) hg5 dX7_allWet_21 ?_
      refine hz_iadd hO dX7_allWet_22 ?_
      obtain ⟨x6, h_x6, h⟩ := hz_lt_e h
      refine hz_name h_x6 ?_
      refine hz_istore_n (ls1 := [(1, .int x6), (0, .ref (hz_ad w 11)), (2, .int v2_2)]) hO dX7_allWet_23 rfl (Nat.le_of_ble_eq_true rfl) rfl ?_
      obtain ⟨x7, h_x7, h⟩ := hz_lt_e h
      refine hz_iinc (k := 2) (v := x7) (ls1 := [(2, .int x7), (1, .int x6), (0, .ref (hz_ad w 11))]) hO dX7_allWet_24 rfl (by rw [h_x7]; rfl) (Nat.le_of_ble_eq_true rfl) rfl ?_
      refine hz_goto (tgt := 4) hO dX7_allWet_27 (by decide) ?_
      exact hz_ls [2, 1, 0] rfl (ih x6 x7 M3 h)
set_option maxRecDepth 100000 in
set_option maxHeartbeats 4000000 in
theorem c_X7_allWet (l : Launch) (w : hz_C) {N : Nat} (hN : 178 ≤ N) {M : hz_M} {rE : Int32} {ME : hz_M} (h : f_X7_allWet M = some (rE, ME)) : hz_Ct l yX7_allWet cX7_allWet 3 (some .int) 0 w N [.ref (hz_ad w 11)] M (hz_Qi w N rE ME) := by
  refine hz_ofW (by decide) rfl (Nat.le_of_ble_eq_true rfl) tw_4_188 ?_
  intro p e s m args below meth c hO
  show hz_G p l e 0 hz_z0 s m args below meth c w N 3 _ M 0 [(0, .ref (hz_ad w 11))] []
  unfold f_X7_allWet at h
  refine hz_iconst (v := (0 : Int32)) hO dX7_allWet_0 (by decide) ?_
  refine hz_istore_n (ls1 := [(1, .int (0 : Int32)), (0, .ref (hz_ad w 11))]) hO dX7_allWet_1 rfl (Nat.le_of_ble_eq_true rfl) rfl ?_
  refine hz_iconst (v := (0 : Int32)) hO dX7_allWet_2 (by decide) ?_
  refine hz_istore_n (ls1 := [(2, .int (0 : Int32)), (1, .int (0 : Int32)), (0, .ref (hz_ad w 11))]) hO dX7_allWet_3 rfl (Nat.le_of_ble_eq_true rfl) rfl ?_
  exact hz_ls [2, 1, 0] rfl (g_X7_allWet_L4 hN hO _ (0 : Int32) (0 : Int32) M h)
def f_X7_driestOnPegs_L6 : Nat → Int32 → Int32 → Int32 → hz_M → hz_O
  | 0, _, _, _, _ => none
  | n + 1, v1_1, v2_2, v3_3, M4 =>
    if (M4 1 5) ≤ v3_3 then
      some (v1_1, M4)
    else
      hz_gd (hz_in v3_3 16) <|
      hz_lt ((M4 23 (Int32.toNatClampNeg v3_3))) fun x7 =>
      hz_jn (fun (v1_8 : Int32) (v2_9 : Int32) (v3_10 : Int32) (M11 : hz_M) =>
        hz_lt (v3_10 + (1 : Int32)) fun x12 =>
        f_X7_driestOnPegs_L6 n v1_8 v2_9 x12 M11
        ) fun k13 =>
      if x7 < 0 then
        k13 v1_1 v2_2 v3_3 M4
      else
        if (16 : Int32) ≤ x7 then
          k13 v1_1 v2_2 v3_3 M4
        else
          hz_gd (hz_in x7 16) <|
          if v2_2 ≤ (M4 20 (Int32.toNatClampNeg x7)) then
            k13 v1_1 v2_2 v3_3 M4
          else
            hz_gd (hz_in x7 16) <|
            hz_lt ((M4 20 (Int32.toNatClampNeg x7))) fun x19 =>
            k13 x7 x19 v3_3 M4
def f_X7_driestOnPegs (M : hz_M) : hz_O :=
  f_X7_driestOnPegs_L6 hz_FU (-1 : Int32) (3 : Int32) (0 : Int32) M
set_option maxRecDepth 100000 in
set_option maxHeartbeats 4000000 in
theorem g_X7_driestOnPegs_L6 {p : Program} {l : Launch} {e : Env} {s : State} {m : MethodId} {args : Array Value} {below : List Frame} {meth : Method} {c : Code} {w : hz_C} {N : Nat} (hN : 178 ≤ N) {rE : Int32} {ME : hz_M} (hO : hz_Ok p s m args meth c w cX7_driestOnPegs 5 RX7 (some .int)) : ∀ (n : Nat) (v1_1 : Int32) (v2_2 : Int32) (v3_3 : Int32) (M4 : hz_M), f_X7_driestOnPegs_L6 n v1_1 v2_2 v3_3 M4 = some (rE, ME) → hz_G p l e 0 hz_z0 s m args below meth c w N 5 (MQ below (hz_Qi w N rE ME) args s 0 0 (hz_A w)) M4 6 [(0, .ref (hz_ad w 11)), (1, .int v1_1), (2, .int v2_2), (3, .int v3_3)] [] := by
  intro n
  induction n with
  | zero =>
    intro v1_1 v2_2 v3_3 M4 h
    rw [f_X7_driestOnPegs_L6] at h
    cases h
  | succ n ih =>
    intro v1_1 v2_2 v3_3 M4 h
    rw [f_X7_driestOnPegs_L6] at h
    refine hz_iload_n hO dX7_driestOnPegs_6 rfl 3 rfl ?_
    refine hz_aload_n hO dX7_driestOnPegs_7 rfl 0 rfl ?_
    refine hz_getR (k := 0) hO 1 hz_K_5 hz_sh_11 (hz_lt_11 hN) rfl (Nat.le_of_ble_eq_true rfl) tw_1_151 rfl dX7_driestOnPegs_8 ?_
    refine hz_getI (k := 5) hO hz_K_2 hz_sh_1 (hz_lt_1 hN) rfl (Nat.le_of_ble_eq_true rfl) tw_1_60 rfl dX7_driestOnPegs_11 ?_
    refine hz_icmp_ge (tgt := 68) hO dX7_driestOnPegs_14 (by decide) (fun hc5 => ?_) (fun hc5 => ?_)
    · rw [if_pos hc5] at h
      refine hz_iload_n hO dX7_driestOnPegs_68 rfl 1 rfl ?_
      exact hz_nameM (hz_some_e h).2.symm (hz_name (hz_some_e h).1.symm (hz_iret hO dX7_driestOnPegs_69))
    · rw [if_neg hc5] at h
      refine hz_aload_n hO dX7_driestOnPegs_17 rfl 0 rfl ?_
      refine hz_getR (k := 12) hO 23 hz_K_5 hz_sh_11 (hz_lt_11 hN) rfl (Nat.le_of_ble_eq_true rfl) tw_1_188 rfl dX7_driestOnPegs_18 ?_
      refine hz_iload_n hO dX7_driestOnPegs_21 rfl 3 rfl ?_
      obtain ⟨hg6, h⟩ := hz_gd_e h
      refine hz_iald hO hz_sh_23 (hz_lt_23 hN) hg6 dX7_driestOnPegs_22 ?_
      obtain ⟨x7, h_x7, h⟩ := hz_lt_e h
      refine hz_name h_x7 ?_
      refine hz_istore (ls1 := [(4, .int x7), (0, .ref (hz_ad w 11)), (1, .int v1_1), (2, .int v2_2), (3, .int v3_3)]) hO dX7_driestOnPegs_23 (Nat.le_of_ble_eq_true rfl) rfl ?_
      refine hz_iload hO dX7_driestOnPegs_25 0 rfl ?_
      obtain ⟨k13, hk13, h⟩ := hz_jn_e h
      have gk13 : ∀ (v1_8 : Int32) (v2_9 : Int32) (v3_10 : Int32) (M11 : hz_M), k13 v1_8 v2_9 v3_10 M11 = some (rE, ME) → hz_G p l e 0 hz_z0 s m args below meth c w N 5 (MQ below (hz_Qi w N rE ME) args s 0 0 (hz_A w)) M11 62 [(0, .ref (hz_ad w 11)), (1, .int v1_8), (2, .int v2_9), (3, .int v3_10)] [] := by
        intro v1_8 v2_9 v3_10 M11 h
        rw [hk13] at h
        dsimp only at h
        obtain ⟨x12, h_x12, h⟩ := hz_lt_e h
        refine hz_iinc (k := 3) (v := x12) (ls1 := [(3, .int x12), (0, .ref (hz_ad w 11)), (1, .int v1_8), (2, .int v2_9)]) hO dX7_driestOnPegs_62 rfl (by rw [h_x12]; rfl) (Nat.le_of_ble_eq_true rfl) rfl ?_
        refine hz_goto (tgt := 6) hO dX7_driestOnPegs_65 (by decide) ?_
        exact hz_ls [1, 2, 3, 0] rfl (ih v1_8 v2_9 x12 M11 h)
      clear hk13
      refine hz_if_lt (tgt := 62) hO dX7_driestOnPegs_27 (by decide) (fun hc14 => ?_) (fun hc14 => ?_)
      · rw [if_pos hc14] at h
        exact hz_ls [1, 2, 3, 4] rfl (gk13 v1_1 v2_2 v3_3 M4 h)
      · rw [if_neg hc14] at h
        refine hz_iload hO dX7_driestOnPegs_30 0 rfl ?_
        refine hz_aload_n hO dX7_driestOnPegs_32 rfl 1 rfl ?_
        refine hz_getR (k := 9) hO 20 hz_K_5 hz_sh_11 (hz_lt_11 hN) rfl (Nat.le_of_ble_eq_true rfl) tw_1_180 rfl dX7_driestOnPegs_33 ?_
        refine hz_alen (v := (16 : Int32)) hO hz_sh_20 (hz_lt_20 hN) (by decide) dX7_driestOnPegs_36 ?_
        refine hz_icmp_ge (tgt := 62) hO dX7_driestOnPegs_37 (by decide) (fun hc15 => ?_) (fun hc15 => ?_)
        · rw [if_pos hc15] at h
          exact hz_ls [1, 2, 3, 4] rfl (gk13 v1_1 v2_2 v3_3 M4 h)
        · rw [if_neg hc15] at h
          refine hz_aload_n hO dX7_driestOnPegs_40 rfl 1 rfl ?_
          refine hz_getR (k := 9) hO 20 hz_K_5 hz_sh_11 (hz_lt_11 hN) rfl (Nat.le_of_ble_eq_true rfl) tw_1_180 rfl dX7_driestOnPegs_41 ?_
          refine hz_iload hO dX7_driestOnPegs_44 0 rfl ?_
          obtain ⟨hg16, h⟩ := hz_gd_e h
          refine hz_iald hO hz_sh_20 (hz_lt_20 hN) hg16 dX7_driestOnPegs_46 ?_
          refine hz_iload_n hO dX7_driestOnPegs_47 rfl 3 rfl ?_
          refine hz_icmp_ge (tgt := 62) hO dX7_driestOnPegs_48 (by decide) (fun hc17 => ?_) (fun hc17 => ?_)
          · rw [if_pos hc17] at h
            exact hz_ls [1, 2, 3, 4] rfl (gk13 v1_1 v2_2 v3_3 M4 h)
          · rw [if_neg hc17] at h
            refine hz_iload hO dX7_driestOnPegs_51 0 rfl ?_
            refine hz_istore_n (ls1 := [(1, .int x7), (4, .int x7), (0, .ref (hz_ad w 11)), (2, .int v2_2), (3, .int v3_3)]) hO dX7_driestOnPegs_53 rfl (Nat.le_of_ble_eq_true rfl) rfl ?_
            refine hz_aload_n hO dX7_driestOnPegs_54 rfl 2 rfl ?_
            refine hz_getR (k := 9) hO 20 hz_K_5 hz_sh_11 (hz_lt_11 hN) rfl (Nat.le_of_ble_eq_true rfl) tw_1_180 rfl dX7_driestOnPegs_55 ?_
            refine hz_iload hO dX7_driestOnPegs_58 1 rfl ?_
            obtain ⟨hg18, h⟩ := hz_gd_e h
            refine hz_iald hO hz_sh_20 (hz_lt_20 hN) hg18 dX7_driestOnPegs_60 ?_
            obtain ⟨x19, h_x19, h⟩ := hz_lt_e h
            refine hz_name h_x19 ?_
            refine hz_istore_n (ls1 := [(2, .int x19), (1, .int x7), (4, .int x7), (0, .ref (hz_ad w 11)), (3, .int v3_3)]) hO dX7_driestOnPegs_61 rfl (Nat.le_of_ble_eq_true rfl) rfl ?_
            exact hz_ls [3, 1, 0, 4] rfl (gk13 x7 x19 v3_3 M4 h)
set_option maxRecDepth 100000 in
set_option maxHeartbeats 4000000 in
theorem c_X7_driestOnPegs (l : Launch) (w : hz_C) {N : Nat} (hN : 178 ≤ N) {M : hz_M} {rE : Int32} {ME : hz_M} (h : f_X7_driestOnPegs M = some (rE, ME)) : hz_Ct l yX7_driestOnPegs cX7_driestOnPegs 5 (some .int) 0 w N [.ref (hz_ad w 11)] M (hz_Qi w N rE ME) := by
  refine hz_ofW (by decide) rfl (Nat.le_of_ble_eq_true rfl) tw_3_236 ?_
  intro p e s m args below meth c hO
  show hz_G p l e 0 hz_z0 s m args below meth c w N 5 _ M 0 [(0, .ref (hz_ad w 11))] []
  unfold f_X7_driestOnPegs at h
  refine hz_iconst (v := (-1 : Int32)) hO dX7_driestOnPegs_0 (by decide) ?_
  refine hz_istore_n (ls1 := [(1, .int (-1 : Int32)), (0, .ref (hz_ad w 11))]) hO dX7_driestOnPegs_1 rfl (Nat.le_of_ble_eq_true rfl) rfl ?_
  refine hz_iconst (v := (3 : Int32)) hO dX7_driestOnPegs_2 (by decide) ?_
  refine hz_istore_n (ls1 := [(2, .int (3 : Int32)), (1, .int (-1 : Int32)), (0, .ref (hz_ad w 11))]) hO dX7_driestOnPegs_3 rfl (Nat.le_of_ble_eq_true rfl) rfl ?_
  refine hz_iconst (v := (0 : Int32)) hO dX7_driestOnPegs_4 (by decide) ?_
  refine hz_istore_n (ls1 := [(3, .int (0 : Int32)), (2, .int (3 : Int32)), (1, .int (-1 : Int32)), (0, .ref (hz_ad w 11))]) hO dX7_driestOnPegs_5 rfl (Nat.le_of_ble_eq_true rfl) rfl ?_
  exact hz_ls [3, 2, 1, 0] rfl (g_X7_driestOnPegs_L6 hN hO _ (-1 : Int32) (3 : Int32) (0 : Int32) M h)
def f_X7_freePeg_L2 : Nat → Int32 → hz_M → hz_O
  | 0, _, _ => none
  | n + 1, v1_1, M2 =>
    if (M2 1 5) ≤ v1_1 then
      some ((-1 : Int32), M2)
    else
      hz_gd (hz_in v1_1 16) <|
      if (M2 23 (Int32.toNatClampNeg v1_1)) = (-1 : Int32) then
        some (v1_1, M2)
      else
        hz_lt (v1_1 + (1 : Int32)) fun x6 =>
        f_X7_freePeg_L2 n x6 M2
def f_X7_freePeg (M : hz_M) : hz_O :=
  f_X7_freePeg_L2 hz_FU (0 : Int32) M
set_option maxRecDepth 100000 in
set_option maxHeartbeats 4000000 in
theorem g_X7_freePeg_L2 {p : Program} {l : Launch} {e : Env} {s : State} {m : MethodId} {args : Array Value} {below : List Frame} {meth : Method} {c : Code} {w : hz_C} {N : Nat} (hN : 178 ≤ N) {rE : Int32} {ME : hz_M} (hO : hz_Ok p s m args meth c w cX7_freePeg 2 RX7 (some .int)) : ∀ (n : Nat) (v1_1 : Int32) (M2 : hz_M), f_X7_freePeg_L2 n v1_1 M2 = some (rE, ME) → hz_G p l e 0 hz_z0 s m args below meth c w N 2 (MQ below (hz_Qi w N rE ME) args s 0 0 (hz_A w)) M2 2 [(0, .ref (hz_ad w 11)), (1, .int v1_1)] [] := by
  intro n
  induction n with
  | zero =>
    intro v1_1 M2 h
    rw [f_X7_freePeg_L2] at h
    cases h
  | succ n ih =>
    intro v1_1 M2 h
    rw [f_X7_freePeg_L2] at h
    refine hz_iload_n hO dX7_freePeg_2 rfl 1 rfl ?_
    refine hz_aload_n hO dX7_freePeg_3 rfl 0 rfl ?_
    refine hz_getR (k := 0) hO 1 hz_K_5 hz_sh_11 (hz_lt_11 hN) rfl (Nat.le_of_ble_eq_true rfl) tw_1_151 rfl dX7_freePeg_4 ?_
    refine hz_getI (k := 5) hO hz_K_2 hz_sh_1 (hz_lt_1 hN) rfl (Nat.le_of_ble_eq_true rfl) tw_1_60 rfl dX7_freePeg_7 ?_
    refine hz_icmp_ge (tgt := 31) hO dX7_freePeg_10 (by decide) (fun hc3 => ?_) (fun hc3 => ?_)
    · rw [if_pos hc3] at h
      refine hz_iconst (v := (-1 : Int32)) hO dX7_freePeg_31 (by decide) ?_
      exact hz_nameM (hz_some_e h).2.symm (hz_name (hz_some_e h).1.symm (hz_iret hO dX7_freePeg_32))
    · rw [if_neg hc3] at h
      refine hz_aload_n hO dX7_freePeg_13 rfl 0 rfl ?_
      refine hz_getR (k := 12) hO 23 hz_K_5 hz_sh_11 (hz_lt_11 hN) rfl (Nat.le_of_ble_eq_true rfl) tw_1_188 rfl dX7_freePeg_14 ?_
      refine hz_iload_n hO dX7_freePeg_17 rfl 1 rfl ?_
      obtain ⟨hg4, h⟩ := hz_gd_e h
      refine hz_iald hO hz_sh_23 (hz_lt_23 hN) hg4 dX7_freePeg_18 ?_
      refine hz_iconst (v := (-1 : Int32)) hO dX7_freePeg_19 (by decide) ?_
      refine hz_icmp_ne (tgt := 25) hO dX7_freePeg_20 (by decide) (fun hc5 => ?_) (fun hc5 => ?_)
      · rw [if_neg hc5] at h
        obtain ⟨x6, h_x6, h⟩ := hz_lt_e h
        refine hz_iinc (k := 1) (v := x6) (ls1 := [(1, .int x6), (0, .ref (hz_ad w 11))]) hO dX7_freePeg_25 rfl (by rw [h_x6]; rfl) (Nat.le_of_ble_eq_true rfl) rfl ?_
        refine hz_goto (tgt := 2) hO dX7_freePeg_28 (by decide) ?_
        exact hz_ls [1, 0] rfl (ih x6 M2 h)
      · rw [if_pos hc5] at h
        refine hz_iload_n hO dX7_freePeg_23 rfl 1 rfl ?_
        exact hz_nameM (hz_some_e h).2.symm (hz_name (hz_some_e h).1.symm (hz_iret hO dX7_freePeg_24))
set_option maxRecDepth 100000 in
set_option maxHeartbeats 4000000 in
theorem c_X7_freePeg (l : Launch) (w : hz_C) {N : Nat} (hN : 178 ≤ N) {M : hz_M} {rE : Int32} {ME : hz_M} (h : f_X7_freePeg M = some (rE, ME)) : hz_Ct l yX7_freePeg cX7_freePeg 2 (some .int) 0 w N [.ref (hz_ad w 11)] M (hz_Qi w N rE ME) := by
  refine hz_ofW (by decide) rfl (Nat.le_of_ble_eq_true rfl) tw_4_86 ?_
  intro p e s m args below meth c hO
  show hz_G p l e 0 hz_z0 s m args below meth c w N 2 _ M 0 [(0, .ref (hz_ad w 11))] []
  unfold f_X7_freePeg at h
  refine hz_iconst (v := (0 : Int32)) hO dX7_freePeg_0 (by decide) ?_
  refine hz_istore_n (ls1 := [(1, .int (0 : Int32)), (0, .ref (hz_ad w 11))]) hO dX7_freePeg_1 rfl (Nat.le_of_ble_eq_true rfl) rfl ?_
  exact hz_ls [1, 0] rfl (g_X7_freePeg_L2 hN hO _ (0 : Int32) M h)
def f_X7_putOnPeg (a1 : Int32) (a2 : Int32) (M : hz_M) : hz_O :=
  hz_gd (hz_in a2 16) <|
  hz_lm (hz_set M 23 (Int32.toNatClampNeg a2) a1) fun M2 =>
  hz_gd (hz_in a1 16) <|
  hz_lm (hz_set M2 21 (Int32.toNatClampNeg a1) a2) fun M4 =>
  hz_gd (hz_in a1 16) <|
  hz_lm (hz_set M4 22 (Int32.toNatClampNeg a1) (-1 : Int32)) fun M6 =>
  some (0, M6)
set_option maxRecDepth 100000 in
set_option maxHeartbeats 4000000 in
theorem c_X7_putOnPeg (l : Launch) (w : hz_C) {N : Nat} (hN : 178 ≤ N) (a1 : Int32) (a2 : Int32) {M : hz_M} {rE : Int32} {ME : hz_M} (h : f_X7_putOnPeg a1 a2 M = some (rE, ME)) : hz_Ct l yX7_putOnPeg cX7_putOnPeg 3 none 0 w N [.ref (hz_ad w 11), .int a1, .int a2] M (hz_Qv w N ME) := by
  refine hz_ofW (by decide) rfl (Nat.le_of_ble_eq_true rfl) tw_3_42 ?_
  intro p e s m args below meth c hO
  show hz_G p l e 0 hz_z0 s m args below meth c w N 3 _ M 0 [(0, .ref (hz_ad w 11)), (1, .int a1), (2, .int a2)] []
  unfold f_X7_putOnPeg at h
  refine hz_aload_n hO dX7_putOnPeg_0 rfl 0 rfl ?_
  refine hz_getR (k := 12) hO 23 hz_K_5 hz_sh_11 (hz_lt_11 hN) rfl (Nat.le_of_ble_eq_true rfl) tw_1_188 rfl dX7_putOnPeg_1 ?_
  refine hz_iload_n hO dX7_putOnPeg_4 rfl 2 rfl ?_
  refine hz_iload_n hO dX7_putOnPeg_5 rfl 1 rfl ?_
  obtain ⟨hg1, h⟩ := hz_gd_e h
  obtain ⟨M2, h_M2, h⟩ := hz_lm_e h
  refine hz_iast hO hz_sh_23 (hz_lt_23 hN) hg1 dX7_putOnPeg_6 ?_
  refine hz_nameM h_M2 ?_
  refine hz_aload_n hO dX7_putOnPeg_7 rfl 0 rfl ?_
  refine hz_getR (k := 10) hO 21 hz_K_5 hz_sh_11 (hz_lt_11 hN) rfl (Nat.le_of_ble_eq_true rfl) tw_1_183 rfl dX7_putOnPeg_8 ?_
  refine hz_iload_n hO dX7_putOnPeg_11 rfl 1 rfl ?_
  refine hz_iload_n hO dX7_putOnPeg_12 rfl 2 rfl ?_
  obtain ⟨hg3, h⟩ := hz_gd_e h
  obtain ⟨M4, h_M4, h⟩ := hz_lm_e h
  refine hz_iast hO hz_sh_21 (hz_lt_21 hN) hg3 dX7_putOnPeg_13 ?_
  refine hz_nameM h_M4 ?_
  refine hz_aload_n hO dX7_putOnPeg_14 rfl 0 rfl ?_
  refine hz_getR (k := 11) hO 22 hz_K_5 hz_sh_11 (hz_lt_11 hN) rfl (Nat.le_of_ble_eq_true rfl) tw_1_185 rfl dX7_putOnPeg_15 ?_
  refine hz_iload_n hO dX7_putOnPeg_18 rfl 1 rfl ?_
  refine hz_iconst (v := (-1 : Int32)) hO dX7_putOnPeg_19 (by decide) ?_
  obtain ⟨hg5, h⟩ := hz_gd_e h
  obtain ⟨M6, h_M6, h⟩ := hz_lm_e h
  refine hz_iast hO hz_sh_22 (hz_lt_22 hN) hg5 dX7_putOnPeg_20 ?_
  refine hz_nameM h_M6 ?_
  exact hz_nameM (hz_some_e h).2.symm (hz_vret hO dX7_putOnPeg_21)
def f_X7_giveToGuest (a1 : Int32) (a2 : Int32) (M : hz_M) : hz_O :=
  hz_gd (hz_in a1 16) <|
  hz_lt ((M 21 (Int32.toNatClampNeg a1))) fun x2 =>
  hz_ct (f_X3_isPeg x2 M) fun r3 M4 =>
  hz_jn (fun (v1_6 : Int32) (v2_7 : Int32) (M8 : hz_M) =>
    hz_gd (hz_in v1_6 16) <|
    hz_lm (hz_set M8 21 (Int32.toNatClampNeg v1_6) (-1 : Int32)) fun M10 =>
    hz_gd (hz_in v1_6 16) <|
    hz_lm (hz_set M10 22 (Int32.toNatClampNeg v1_6) v2_7) fun M12 =>
    hz_gd (hz_in v2_7 16) <|
    hz_lm (hz_set M12 15 (Int32.toNatClampNeg v2_7) v1_6) fun M14 =>
    some (0, M14)
    ) fun k15 =>
  if r3 = 0 then
    k15 a1 a2 M4
  else
    hz_gd (hz_in x2 16) <|
    hz_lm (hz_set M4 23 (Int32.toNatClampNeg x2) (-1 : Int32)) fun M18 =>
    k15 a1 a2 M18
set_option maxRecDepth 100000 in
set_option maxHeartbeats 4000000 in
theorem c_X7_giveToGuest (l : Launch) (w : hz_C) {N : Nat} (hN : 178 ≤ N) (a1 : Int32) (a2 : Int32) {M : hz_M} {rE : Int32} {ME : hz_M} (h : f_X7_giveToGuest a1 a2 M = some (rE, ME)) : hz_Ct l yX7_giveToGuest cX7_giveToGuest 4 none 1 w N [.ref (hz_ad w 11), .int a1, .int a2] M (hz_Qv w N ME) := by
  refine hz_ofW (by decide) rfl (Nat.le_of_ble_eq_true rfl) tw_4_39 ?_
  intro p e s m args below meth c hO
  show hz_G p l e 1 hz_z0 s m args below meth c w N 4 _ M 0 [(0, .ref (hz_ad w 11)), (1, .int a1), (2, .int a2)] []
  unfold f_X7_giveToGuest at h
  refine hz_aload_n hO dX7_giveToGuest_0 rfl 0 rfl ?_
  refine hz_getR (k := 10) hO 21 hz_K_5 hz_sh_11 (hz_lt_11 hN) rfl (Nat.le_of_ble_eq_true rfl) tw_1_183 rfl dX7_giveToGuest_1 ?_
  refine hz_iload_n hO dX7_giveToGuest_4 rfl 1 rfl ?_
  obtain ⟨hg1, h⟩ := hz_gd_e h
  refine hz_iald hO hz_sh_21 (hz_lt_21 hN) hg1 dX7_giveToGuest_5 ?_
  obtain ⟨x2, h_x2, h⟩ := hz_lt_e h
  refine hz_name h_x2 ?_
  refine hz_istore_n (ls1 := [(3, .int x2), (0, .ref (hz_ad w 11)), (1, .int a1), (2, .int a2)]) hO dX7_giveToGuest_6 rfl (Nat.le_of_ble_eq_true rfl) rfl ?_
  refine hz_aload_n hO dX7_giveToGuest_7 rfl 1 rfl ?_
  refine hz_getR (k := 0) hO 1 hz_K_5 hz_sh_11 (hz_lt_11 hN) rfl (Nat.le_of_ble_eq_true rfl) tw_1_151 rfl dX7_giveToGuest_8 ?_
  refine hz_iload_n hO dX7_giveToGuest_11 rfl 0 rfl ?_
  obtain ⟨r3, M4, hq5, h⟩ := hz_ct_e h
  refine hz_callVi (as := [.int x2]) (rest := []) hO (c_X3_isPeg l w hN x2 hq5) hz_cal_X3_isPeg hz_K_2 hz_sh_1 (hz_lt_1 hN) tw_4_40 (Nat.le_of_ble_eq_true rfl) rfl rfl (Nat.le_of_ble_eq_true rfl) dX7_giveToGuest_12 ?_
  obtain ⟨k15, hk15, h⟩ := hz_jn_e h
  have gk15 : ∀ (v1_6 : Int32) (v2_7 : Int32) (M8 : hz_M), k15 v1_6 v2_7 M8 = some (rE, ME) → hz_G p l e 1 hz_z0 s m args below meth c w N 4 (MQ below (hz_Qv w N ME) args s 0 0 (hz_A w)) M8 25 [(0, .ref (hz_ad w 11)), (1, .int v1_6), (2, .int v2_7)] [] := by
    intro v1_6 v2_7 M8 h
    rw [hk15] at h
    dsimp only at h
    refine hz_aload_n hO dX7_giveToGuest_25 rfl 0 rfl ?_
    refine hz_getR (k := 10) hO 21 hz_K_5 hz_sh_11 (hz_lt_11 hN) rfl (Nat.le_of_ble_eq_true rfl) tw_1_183 rfl dX7_giveToGuest_26 ?_
    refine hz_iload_n hO dX7_giveToGuest_29 rfl 1 rfl ?_
    refine hz_iconst (v := (-1 : Int32)) hO dX7_giveToGuest_30 (by decide) ?_
    obtain ⟨hg9, h⟩ := hz_gd_e h
    obtain ⟨M10, h_M10, h⟩ := hz_lm_e h
    refine hz_iast hO hz_sh_21 (hz_lt_21 hN) hg9 dX7_giveToGuest_31 ?_
    refine hz_nameM h_M10 ?_
    refine hz_aload_n hO dX7_giveToGuest_32 rfl 0 rfl ?_
    refine hz_getR (k := 11) hO 22 hz_K_5 hz_sh_11 (hz_lt_11 hN) rfl (Nat.le_of_ble_eq_true rfl) tw_1_185 rfl dX7_giveToGuest_33 ?_
    refine hz_iload_n hO dX7_giveToGuest_36 rfl 1 rfl ?_
    refine hz_iload_n hO dX7_giveToGuest_37 rfl 2 rfl ?_
    obtain ⟨hg11, h⟩ := hz_gd_e h
    obtain ⟨M12, h_M12, h⟩ := hz_lm_e h
    refine hz_iast hO hz_sh_22 (hz_lt_22 hN) hg11 dX7_giveToGuest_38 ?_
    refine hz_nameM h_M12 ?_
    refine hz_aload_n hO dX7_giveToGuest_39 rfl 0 rfl ?_
    refine hz_getR (k := 4) hO 15 hz_K_5 hz_sh_11 (hz_lt_11 hN) rfl (Nat.le_of_ble_eq_true rfl) tw_1_163 rfl dX7_giveToGuest_40 ?_
    refine hz_iload_n hO dX7_giveToGuest_43 rfl 2 rfl ?_
    refine hz_iload_n hO dX7_giveToGuest_44 rfl 1 rfl ?_
    obtain ⟨hg13, h⟩ := hz_gd_e h
    obtain ⟨M14, h_M14, h⟩ := hz_lm_e h
    refine hz_iast hO hz_sh_15 (hz_lt_15 hN) hg13 dX7_giveToGuest_45 ?_
    refine hz_nameM h_M14 ?_
    exact hz_nameM (hz_some_e h).2.symm (hz_vret hO dX7_giveToGuest_46)
  clear hk15
  refine hz_if_eq (tgt := 25) hO dX7_giveToGuest_15 (by decide) (fun hc16 => ?_) (fun hc16 => ?_)
  · rw [if_pos hc16] at h
    exact hz_ls [1, 2, 3] rfl (gk15 a1 a2 M4 h)
  · rw [if_neg hc16] at h
    refine hz_aload_n hO dX7_giveToGuest_18 rfl 1 rfl ?_
    refine hz_getR (k := 12) hO 23 hz_K_5 hz_sh_11 (hz_lt_11 hN) rfl (Nat.le_of_ble_eq_true rfl) tw_1_188 rfl dX7_giveToGuest_19 ?_
    refine hz_iload_n hO dX7_giveToGuest_22 rfl 0 rfl ?_
    refine hz_iconst (v := (-1 : Int32)) hO dX7_giveToGuest_23 (by decide) ?_
    obtain ⟨hg17, h⟩ := hz_gd_e h
    obtain ⟨M18, h_M18, h⟩ := hz_lm_e h
    refine hz_iast hO hz_sh_23 (hz_lt_23 hN) hg17 dX7_giveToGuest_24 ?_
    refine hz_nameM h_M18 ?_
    exact hz_ls [1, 2, 3] rfl (gk15 a1 a2 M18 h)
def f_X7_day (M : hz_M) : hz_O :=
  some (((M 11 14) / (600 : Int32)), M)
set_option maxRecDepth 100000 in
set_option maxHeartbeats 4000000 in
theorem c_X7_day (l : Launch) (w : hz_C) {N : Nat} (hN : 178 ≤ N) {M : hz_M} {rE : Int32} {ME : hz_M} (h : f_X7_day M = some (rE, ME)) : hz_Ct l yX7_day cX7_day 1 (some .int) 0 w N [.ref (hz_ad w 11)] M (hz_Qi w N rE ME) := by
  refine hz_ofW (by decide) rfl (Nat.le_of_ble_eq_true rfl) tw_3_228 ?_
  intro p e s m args below meth c hO
  show hz_G p l e 0 hz_z0 s m args below meth c w N 1 _ M 0 [(0, .ref (hz_ad w 11))] []
  unfold f_X7_day at h
  refine hz_aload_n hO dX7_day_0 rfl 0 rfl ?_
  refine hz_getI (k := 14) hO hz_K_5 hz_sh_11 (hz_lt_11 hN) rfl (Nat.le_of_ble_eq_true rfl) tw_1_196 rfl dX7_day_1 ?_
  refine hz_sipush (v := (600 : Int32)) hO dX7_day_4 (by decide) ?_
  refine hz_idiv hO dX7_day_7 (by decide) ?_
  exact hz_nameM (hz_some_e h).2.symm (hz_name (hz_some_e h).1.symm (hz_iret hO dX7_day_8))
def f_X7_minutesLeftToday (M : hz_M) : hz_O :=
  some (((600 : Int32) - ((M 11 14) - (M 11 14) / (600 : Int32) * (600 : Int32))), M)
set_option maxRecDepth 100000 in
set_option maxHeartbeats 4000000 in
theorem c_X7_minutesLeftToday (l : Launch) (w : hz_C) {N : Nat} (hN : 178 ≤ N) {M : hz_M} {rE : Int32} {ME : hz_M} (h : f_X7_minutesLeftToday M = some (rE, ME)) : hz_Ct l yX7_minutesLeftToday cX7_minutesLeftToday 1 (some .int) 0 w N [.ref (hz_ad w 11)] M (hz_Qi w N rE ME) := by
  refine hz_ofW (by decide) rfl (Nat.le_of_ble_eq_true rfl) tw_5_202 ?_
  intro p e s m args below meth c hO
  show hz_G p l e 0 hz_z0 s m args below meth c w N 1 _ M 0 [(0, .ref (hz_ad w 11))] []
  unfold f_X7_minutesLeftToday at h
  refine hz_sipush (v := (600 : Int32)) hO dX7_minutesLeftToday_0 (by decide) ?_
  refine hz_aload_n hO dX7_minutesLeftToday_3 rfl 0 rfl ?_
  refine hz_getI (k := 14) hO hz_K_5 hz_sh_11 (hz_lt_11 hN) rfl (Nat.le_of_ble_eq_true rfl) tw_1_196 rfl dX7_minutesLeftToday_4 ?_
  refine hz_sipush (v := (600 : Int32)) hO dX7_minutesLeftToday_7 (by decide) ?_
  refine hz_irem hO dX7_minutesLeftToday_10 (by decide) ?_
  refine hz_isub hO dX7_minutesLeftToday_11 ?_
  exact hz_nameM (hz_some_e h).2.symm (hz_name (hz_some_e h).1.symm (hz_iret hO dX7_minutesLeftToday_12))
def f_X7_isSilence (M : hz_M) : hz_O :=
  if (M 11 16) = (-1 : Int32) then
    some ((0 : Int32), M)
  else
    if ((M 11 16) + (M 11 19)) ≤ (M 11 14) then
      some ((0 : Int32), M)
    else
      some ((1 : Int32), M)
set_option maxRecDepth 100000 in
set_option maxHeartbeats 4000000 in
theorem c_X7_isSilence (l : Launch) (w : hz_C) {N : Nat} (hN : 178 ≤ N) {M : hz_M} {rE : Int32} {ME : hz_M} (h : f_X7_isSilence M = some (rE, ME)) : hz_Ct l yX7_isSilence cX7_isSilence 1 (some .boolean) 0 w N [.ref (hz_ad w 11)] M (hz_Qi w N rE ME) := by
  refine hz_ofW (by decide) rfl (Nat.le_of_ble_eq_true rfl) tw_4_73 ?_
  intro p e s m args below meth c hO
  show hz_G p l e 0 hz_z0 s m args below meth c w N 1 _ M 0 [(0, .ref (hz_ad w 11))] []
  unfold f_X7_isSilence at h
  refine hz_aload_n hO dX7_isSilence_0 rfl 0 rfl ?_
  refine hz_getI (k := 16) hO hz_K_5 hz_sh_11 (hz_lt_11 hN) rfl (Nat.le_of_ble_eq_true rfl) tw_1_201 rfl dX7_isSilence_1 ?_
  refine hz_iconst (v := (-1 : Int32)) hO dX7_isSilence_4 (by decide) ?_
  refine hz_icmp_eq (tgt := 28) hO dX7_isSilence_5 (by decide) (fun hc1 => ?_) (fun hc1 => ?_)
  · rw [if_pos hc1] at h
    refine hz_iconst (v := (0 : Int32)) hO dX7_isSilence_28 (by decide) ?_
    exact hz_nameM (hz_some_e h).2.symm (hz_name (hz_some_e h).1.symm (hz_zret hO (by rw [← (hz_some_e h).1]; decide) dX7_isSilence_29))
  · rw [if_neg hc1] at h
    refine hz_aload_n hO dX7_isSilence_8 rfl 0 rfl ?_
    refine hz_getI (k := 14) hO hz_K_5 hz_sh_11 (hz_lt_11 hN) rfl (Nat.le_of_ble_eq_true rfl) tw_1_196 rfl dX7_isSilence_9 ?_
    refine hz_aload_n hO dX7_isSilence_12 rfl 0 rfl ?_
    refine hz_getI (k := 16) hO hz_K_5 hz_sh_11 (hz_lt_11 hN) rfl (Nat.le_of_ble_eq_true rfl) tw_1_201 rfl dX7_isSilence_13 ?_
    refine hz_aload_n hO dX7_isSilence_16 rfl 0 rfl ?_
    refine hz_getI (k := 19) hO hz_K_5 hz_sh_11 (hz_lt_11 hN) rfl (Nat.le_of_ble_eq_true rfl) tw_1_207 rfl dX7_isSilence_17 ?_
    refine hz_iadd hO dX7_isSilence_20 ?_
    refine hz_icmp_ge (tgt := 28) hO dX7_isSilence_21 (by decide) (fun hc2 => ?_) (fun hc2 => ?_)
    · rw [if_pos hc2] at h
      refine hz_iconst (v := (0 : Int32)) hO dX7_isSilence_28 (by decide) ?_
      exact hz_nameM (hz_some_e h).2.symm (hz_name (hz_some_e h).1.symm (hz_zret hO (by rw [← (hz_some_e h).1]; decide) dX7_isSilence_29))
    · rw [if_neg hc2] at h
      refine hz_iconst (v := (1 : Int32)) hO dX7_isSilence_24 (by decide) ?_
      refine hz_goto (tgt := 29) hO dX7_isSilence_25 (by decide) ?_
      exact hz_nameM (hz_some_e h).2.symm (hz_name (hz_some_e h).1.symm (hz_zret hO (by rw [← (hz_some_e h).1]; decide) dX7_isSilence_29))
def f_X7_minutesToGong (M : hz_M) : hz_O :=
  if (M 11 18) ≤ 0 then
    some ((-1 : Int32), M)
  else
    hz_gd (hz_nz (M 11 18)) <|
    some (((M 11 18) - ((M 11 14) - (M 11 14) / (M 11 18) * (M 11 18))), M)
set_option maxRecDepth 100000 in
set_option maxHeartbeats 4000000 in
theorem c_X7_minutesToGong (l : Launch) (w : hz_C) {N : Nat} (hN : 178 ≤ N) {M : hz_M} {rE : Int32} {ME : hz_M} (h : f_X7_minutesToGong M = some (rE, ME)) : hz_Ct l yX7_minutesToGong cX7_minutesToGong 1 (some .int) 0 w N [.ref (hz_ad w 11)] M (hz_Qi w N rE ME) := by
  refine hz_ofW (by decide) rfl (Nat.le_of_ble_eq_true rfl) tw_4_206 ?_
  intro p e s m args below meth c hO
  show hz_G p l e 0 hz_z0 s m args below meth c w N 1 _ M 0 [(0, .ref (hz_ad w 11))] []
  unfold f_X7_minutesToGong at h
  refine hz_aload_n hO dX7_minutesToGong_0 rfl 0 rfl ?_
  refine hz_getI (k := 18) hO hz_K_5 hz_sh_11 (hz_lt_11 hN) rfl (Nat.le_of_ble_eq_true rfl) tw_1_205 rfl dX7_minutesToGong_1 ?_
  refine hz_if_le (tgt := 24) hO dX7_minutesToGong_4 (by decide) (fun hc1 => ?_) (fun hc1 => ?_)
  · rw [if_pos hc1] at h
    refine hz_iconst (v := (-1 : Int32)) hO dX7_minutesToGong_24 (by decide) ?_
    exact hz_nameM (hz_some_e h).2.symm (hz_name (hz_some_e h).1.symm (hz_iret hO dX7_minutesToGong_25))
  · rw [if_neg hc1] at h
    refine hz_aload_n hO dX7_minutesToGong_7 rfl 0 rfl ?_
    refine hz_getI (k := 18) hO hz_K_5 hz_sh_11 (hz_lt_11 hN) rfl (Nat.le_of_ble_eq_true rfl) tw_1_205 rfl dX7_minutesToGong_8 ?_
    refine hz_aload_n hO dX7_minutesToGong_11 rfl 0 rfl ?_
    refine hz_getI (k := 14) hO hz_K_5 hz_sh_11 (hz_lt_11 hN) rfl (Nat.le_of_ble_eq_true rfl) tw_1_196 rfl dX7_minutesToGong_12 ?_
    refine hz_aload_n hO dX7_minutesToGong_15 rfl 0 rfl ?_
    refine hz_getI (k := 18) hO hz_K_5 hz_sh_11 (hz_lt_11 hN) rfl (Nat.le_of_ble_eq_true rfl) tw_1_205 rfl dX7_minutesToGong_16 ?_
    obtain ⟨hg2, h⟩ := hz_gd_e h
    refine hz_irem hO dX7_minutesToGong_19 (hz_nz_e hg2) ?_
    refine hz_isub hO dX7_minutesToGong_20 ?_
    refine hz_goto (tgt := 25) hO dX7_minutesToGong_21 (by decide) ?_
    exact hz_nameM (hz_some_e h).2.symm (hz_name (hz_some_e h).1.symm (hz_iret hO dX7_minutesToGong_25))
def f_X7_steam_L4 : Nat → Int32 → Int32 → hz_M → hz_O
  | 0, _, _, _ => none
  | n + 1, v1_1, v2_2, M3 =>
    if (M3 1 7) ≤ v2_2 then
      some (v1_1, M3)
    else
      hz_gd (hz_in v2_2 4) <|
      hz_lt ((v1_1 + (M3 12 (Int32.toNatClampNeg v2_2)))) fun x6 =>
      hz_lt (v2_2 + (1 : Int32)) fun x7 =>
      f_X7_steam_L4 n x6 x7 M3
def f_X7_steam (M : hz_M) : hz_O :=
  f_X7_steam_L4 hz_FU (0 : Int32) (0 : Int32) M
set_option maxRecDepth 100000 in
set_option maxHeartbeats 4000000 in
theorem g_X7_steam_L4 {p : Program} {l : Launch} {e : Env} {s : State} {m : MethodId} {args : Array Value} {below : List Frame} {meth : Method} {c : Code} {w : hz_C} {N : Nat} (hN : 178 ≤ N) {rE : Int32} {ME : hz_M} (hO : hz_Ok p s m args meth c w cX7_steam 3 RX7 (some .int)) : ∀ (n : Nat) (v1_1 : Int32) (v2_2 : Int32) (M3 : hz_M), f_X7_steam_L4 n v1_1 v2_2 M3 = some (rE, ME) → hz_G p l e 0 hz_z0 s m args below meth c w N 3 (MQ below (hz_Qi w N rE ME) args s 0 0 (hz_A w)) M3 4 [(0, .ref (hz_ad w 11)), (1, .int v1_1), (2, .int v2_2)] [] := by
  intro n
  induction n with
  | zero =>
    intro v1_1 v2_2 M3 h
    rw [f_X7_steam_L4] at h
    cases h
  | succ n ih =>
    intro v1_1 v2_2 M3 h
    rw [f_X7_steam_L4] at h
    refine hz_iload_n hO dX7_steam_4 rfl 2 rfl ?_
    refine hz_aload_n hO dX7_steam_5 rfl 0 rfl ?_
    refine hz_getR (k := 0) hO 1 hz_K_5 hz_sh_11 (hz_lt_11 hN) rfl (Nat.le_of_ble_eq_true rfl) tw_1_151 rfl dX7_steam_6 ?_
    refine hz_getI (k := 7) hO hz_K_2 hz_sh_1 (hz_lt_1 hN) rfl (Nat.le_of_ble_eq_true rfl) tw_1_67 rfl dX7_steam_9 ?_
    refine hz_icmp_ge (tgt := 30) hO dX7_steam_12 (by decide) (fun hc4 => ?_) (fun hc4 => ?_)
    · rw [if_pos hc4] at h
      refine hz_iload_n hO dX7_steam_30 rfl 1 rfl ?_
      exact hz_nameM (hz_some_e h).2.symm (hz_name (hz_some_e h).1.symm (hz_iret hO dX7_steam_31))
    · rw [if_neg hc4] at h
      refine hz_iload_n hO dX7_steam_15 rfl 1 rfl ?_
      refine hz_aload_n hO dX7_steam_16 rfl 0 rfl ?_
      refine hz_getR (k := 1) hO 12 hz_K_5 hz_sh_11 (hz_lt_11 hN) rfl (Nat.le_of_ble_eq_true rfl) tw_1_152 rfl dX7_steam_17 ?_
      refine hz_iload_n hO dX7_steam_20 rfl 2 rfl ?_
      obtain ⟨hg5, h⟩ := hz_gd_e h
      refine hz_iald hO hz_sh_12 (hz_lt_12 hN) hg5 dX7_steam_21 ?_
      refine hz_iadd hO dX7_steam_22 ?_
      obtain ⟨x6, h_x6, h⟩ := hz_lt_e h
      refine hz_name h_x6 ?_
      refine hz_istore_n (ls1 := [(1, .int x6), (0, .ref (hz_ad w 11)), (2, .int v2_2)]) hO dX7_steam_23 rfl (Nat.le_of_ble_eq_true rfl) rfl ?_
      obtain ⟨x7, h_x7, h⟩ := hz_lt_e h
      refine hz_iinc (k := 2) (v := x7) (ls1 := [(2, .int x7), (1, .int x6), (0, .ref (hz_ad w 11))]) hO dX7_steam_24 rfl (by rw [h_x7]; rfl) (Nat.le_of_ble_eq_true rfl) rfl ?_
      refine hz_goto (tgt := 4) hO dX7_steam_27 (by decide) ?_
      exact hz_ls [2, 1, 0] rfl (ih x6 x7 M3 h)
set_option maxRecDepth 100000 in
set_option maxHeartbeats 4000000 in
theorem c_X7_steam (l : Launch) (w : hz_C) {N : Nat} (hN : 178 ≤ N) {M : hz_M} {rE : Int32} {ME : hz_M} (h : f_X7_steam M = some (rE, ME)) : hz_Ct l yX7_steam cX7_steam 3 (some .int) 0 w N [.ref (hz_ad w 11)] M (hz_Qi w N rE ME) := by
  refine hz_ofW (by decide) rfl (Nat.le_of_ble_eq_true rfl) tw_4_102 ?_
  intro p e s m args below meth c hO
  show hz_G p l e 0 hz_z0 s m args below meth c w N 3 _ M 0 [(0, .ref (hz_ad w 11))] []
  unfold f_X7_steam at h
  refine hz_iconst (v := (0 : Int32)) hO dX7_steam_0 (by decide) ?_
  refine hz_istore_n (ls1 := [(1, .int (0 : Int32)), (0, .ref (hz_ad w 11))]) hO dX7_steam_1 rfl (Nat.le_of_ble_eq_true rfl) rfl ?_
  refine hz_iconst (v := (0 : Int32)) hO dX7_steam_2 (by decide) ?_
  refine hz_istore_n (ls1 := [(2, .int (0 : Int32)), (1, .int (0 : Int32)), (0, .ref (hz_ad w 11))]) hO dX7_steam_3 rfl (Nat.le_of_ble_eq_true rfl) rfl ?_
  exact hz_ls [2, 1, 0] rfl (g_X7_steam_L4 hN hO _ (0 : Int32) (0 : Int32) M h)
def f_X7_heatBehind (a0 : Int32) (a1 : Int32) (M : hz_M) : hz_O :=
  hz_lt (((a0 + a1) - ((3 : Int32) + (a0 / (20 : Int32))))) fun x1 =>
  some ((if (0 : Int32) < (if x1 < (100 : Int32) then x1 else (100 : Int32)) then (if x1 < (100 : Int32) then x1 else (100 : Int32)) else (0 : Int32)), M)
set_option maxRecDepth 100000 in
set_option maxHeartbeats 4000000 in
theorem c_X7_heatBehind (l : Launch) (w : hz_C) {N : Nat} (hN : 178 ≤ N) (a0 : Int32) (a1 : Int32) {M : hz_M} {rE : Int32} {ME : hz_M} (h : f_X7_heatBehind a0 a1 M = some (rE, ME)) : hz_Ct l yX7_heatBehind cX7_heatBehind 3 (some .int) 1 w N [.int a0, .int a1] M (hz_Qi w N rE ME) := by
  refine hz_ofW (by decide) rfl (Nat.le_of_ble_eq_true rfl) tw_4_105 ?_
  intro p e s m args below meth c hO
  show hz_G p l e 1 hz_z0 s m args below meth c w N 3 _ M 0 [(0, .int a0), (1, .int a1)] []
  unfold f_X7_heatBehind at h
  refine hz_iload_n hO dX7_heatBehind_0 rfl 0 rfl ?_
  refine hz_iload_n hO dX7_heatBehind_1 rfl 1 rfl ?_
  refine hz_iadd hO dX7_heatBehind_2 ?_
  refine hz_iconst (v := (3 : Int32)) hO dX7_heatBehind_3 (by decide) ?_
  refine hz_iload_n hO dX7_heatBehind_4 rfl 0 rfl ?_
  refine hz_bipush (v := (20 : Int32)) hO dX7_heatBehind_5 (by decide) ?_
  refine hz_idiv hO dX7_heatBehind_7 (by decide) ?_
  refine hz_iadd hO dX7_heatBehind_8 ?_
  refine hz_isub hO dX7_heatBehind_9 ?_
  obtain ⟨x1, h_x1, h⟩ := hz_lt_e h
  refine hz_name h_x1 ?_
  refine hz_istore_n (ls1 := [(2, .int x1), (0, .int a0), (1, .int a1)]) hO dX7_heatBehind_10 rfl (Nat.le_of_ble_eq_true rfl) rfl ?_
  refine hz_iconst (v := (0 : Int32)) hO dX7_heatBehind_11 (by decide) ?_
  refine hz_bipush (v := (100 : Int32)) hO dX7_heatBehind_12 (by decide) ?_
  refine hz_iload_n hO dX7_heatBehind_14 rfl 0 rfl ?_
  refine hz_mmin hO tw_3_159 (Nat.le_of_ble_eq_true rfl) (Nat.le_of_ble_eq_true rfl) dX7_heatBehind_15 ?_
  refine hz_mmax hO tw_4_106 (Nat.le_of_ble_eq_true rfl) (Nat.le_of_ble_eq_true rfl) dX7_heatBehind_18 ?_
  exact hz_nameM (hz_some_e h).2.symm (hz_name (hz_some_e h).1.symm (hz_iret hO dX7_heatBehind_21))
def f_X7_wetOnPegBehind (a0 : Int32) (a1 : Int32) (M : hz_M) : hz_O :=
  if (60 : Int32) ≤ a1 then
    some (a0, M)
  else
    some ((if (0 : Int32) < (a0 - (1 : Int32)) then (a0 - (1 : Int32)) else (0 : Int32)), M)
set_option maxRecDepth 100000 in
set_option maxHeartbeats 4000000 in
theorem c_X7_wetOnPegBehind (l : Launch) (w : hz_C) {N : Nat} (hN : 178 ≤ N) (a0 : Int32) (a1 : Int32) {M : hz_M} {rE : Int32} {ME : hz_M} (h : f_X7_wetOnPegBehind a0 a1 M = some (rE, ME)) : hz_Ct l yX7_wetOnPegBehind cX7_wetOnPegBehind 2 (some .int) 1 w N [.int a0, .int a1] M (hz_Qi w N rE ME) := by
  refine hz_ofW (by decide) rfl (Nat.le_of_ble_eq_true rfl) tw_4_116 ?_
  intro p e s m args below meth c hO
  show hz_G p l e 1 hz_z0 s m args below meth c w N 2 _ M 0 [(0, .int a0), (1, .int a1)] []
  unfold f_X7_wetOnPegBehind at h
  refine hz_iload_n hO dX7_wetOnPegBehind_0 rfl 1 rfl ?_
  refine hz_bipush (v := (60 : Int32)) hO dX7_wetOnPegBehind_1 (by decide) ?_
  refine hz_icmp_ge (tgt := 16) hO dX7_wetOnPegBehind_3 (by decide) (fun hc1 => ?_) (fun hc1 => ?_)
  · rw [if_pos hc1] at h
    refine hz_iload_n hO dX7_wetOnPegBehind_16 rfl 0 rfl ?_
    exact hz_nameM (hz_some_e h).2.symm (hz_name (hz_some_e h).1.symm (hz_iret hO dX7_wetOnPegBehind_17))
  · rw [if_neg hc1] at h
    refine hz_iconst (v := (0 : Int32)) hO dX7_wetOnPegBehind_6 (by decide) ?_
    refine hz_iload_n hO dX7_wetOnPegBehind_7 rfl 0 rfl ?_
    refine hz_iconst (v := (1 : Int32)) hO dX7_wetOnPegBehind_8 (by decide) ?_
    refine hz_isub hO dX7_wetOnPegBehind_9 ?_
    refine hz_mmax hO tw_4_106 (Nat.le_of_ble_eq_true rfl) (Nat.le_of_ble_eq_true rfl) dX7_wetOnPegBehind_10 ?_
    refine hz_goto (tgt := 17) hO dX7_wetOnPegBehind_13 (by decide) ?_
    exact hz_nameM (hz_some_e h).2.symm (hz_name (hz_some_e h).1.symm (hz_iret hO dX7_wetOnPegBehind_17))
def f_X7_strainBehind (a0 : Int32) (a1 : Int32) (M : hz_M) : hz_O :=
  if a1 ≤ 0 then
    some ((if (0 : Int32) < (a0 - (1 : Int32)) then (a0 - (1 : Int32)) else (0 : Int32)), M)
  else
    some (((a0 + (a1 / (5 : Int32))) + (1 : Int32)), M)
set_option maxRecDepth 100000 in
set_option maxHeartbeats 4000000 in
theorem c_X7_strainBehind (l : Launch) (w : hz_C) {N : Nat} (hN : 178 ≤ N) (a0 : Int32) (a1 : Int32) {M : hz_M} {rE : Int32} {ME : hz_M} (h : f_X7_strainBehind a0 a1 M = some (rE, ME)) : hz_Ct l yX7_strainBehind cX7_strainBehind 2 (some .int) 1 w N [.int a0, .int a1] M (hz_Qi w N rE ME) := by
  refine hz_ofW (by decide) rfl (Nat.le_of_ble_eq_true rfl) tw_4_128 ?_
  intro p e s m args below meth c hO
  show hz_G p l e 1 hz_z0 s m args below meth c w N 2 _ M 0 [(0, .int a0), (1, .int a1)] []
  unfold f_X7_strainBehind at h
  refine hz_iload_n hO dX7_strainBehind_0 rfl 1 rfl ?_
  refine hz_if_le (tgt := 14) hO dX7_strainBehind_1 (by decide) (fun hc1 => ?_) (fun hc1 => ?_)
  · rw [if_pos hc1] at h
    refine hz_iconst (v := (0 : Int32)) hO dX7_strainBehind_14 (by decide) ?_
    refine hz_iload_n hO dX7_strainBehind_15 rfl 0 rfl ?_
    refine hz_iconst (v := (1 : Int32)) hO dX7_strainBehind_16 (by decide) ?_
    refine hz_isub hO dX7_strainBehind_17 ?_
    refine hz_mmax hO tw_4_106 (Nat.le_of_ble_eq_true rfl) (Nat.le_of_ble_eq_true rfl) dX7_strainBehind_18 ?_
    exact hz_nameM (hz_some_e h).2.symm (hz_name (hz_some_e h).1.symm (hz_iret hO dX7_strainBehind_21))
  · rw [if_neg hc1] at h
    refine hz_iload_n hO dX7_strainBehind_4 rfl 0 rfl ?_
    refine hz_iload_n hO dX7_strainBehind_5 rfl 1 rfl ?_
    refine hz_iconst (v := (5 : Int32)) hO dX7_strainBehind_6 (by decide) ?_
    refine hz_idiv hO dX7_strainBehind_7 (by decide) ?_
    refine hz_iadd hO dX7_strainBehind_8 ?_
    refine hz_iconst (v := (1 : Int32)) hO dX7_strainBehind_9 (by decide) ?_
    refine hz_iadd hO dX7_strainBehind_10 ?_
    refine hz_goto (tgt := 21) hO dX7_strainBehind_11 (by decide) ?_
    exact hz_nameM (hz_some_e h).2.symm (hz_name (hz_some_e h).1.symm (hz_iret hO dX7_strainBehind_21))
def f_X7_soundGong (M : hz_M) : hz_O :=
  if (M 11 18) ≤ 0 then
    some (0, M)
  else
    hz_gd (hz_nz (M 11 18)) <|
    if ((M 11 14) - (M 11 14) / (M 11 18) * (M 11 18)) = 0 then
      hz_lm (hz_set M 11 16 (M 11 14)) fun M4 =>
      hz_lm (hz_set M4 24 (Int32.toNatClampNeg (7 : Int32)) ((M4 24 (Int32.toNatClampNeg (7 : Int32))) + (1 : Int32))) fun M5 =>
      some (0, M5)
    else
      some (0, M)
set_option maxRecDepth 100000 in
set_option maxHeartbeats 4000000 in
theorem c_X7_soundGong (l : Launch) (w : hz_C) {N : Nat} (hN : 178 ≤ N) {M : hz_M} {rE : Int32} {ME : hz_M} (h : f_X7_soundGong M = some (rE, ME)) : hz_Ct l yX7_soundGong cX7_soundGong 1 none 0 w N [.ref (hz_ad w 11)] M (hz_Qv w N ME) := by
  refine hz_ofW (by decide) rfl (Nat.le_of_ble_eq_true rfl) tw_4_98 ?_
  intro p e s m args below meth c hO
  show hz_G p l e 0 hz_z0 s m args below meth c w N 1 _ M 0 [(0, .ref (hz_ad w 11))] []
  unfold f_X7_soundGong at h
  refine hz_aload_n hO dX7_soundGong_0 rfl 0 rfl ?_
  refine hz_getI (k := 18) hO hz_K_5 hz_sh_11 (hz_lt_11 hN) rfl (Nat.le_of_ble_eq_true rfl) tw_1_205 rfl dX7_soundGong_1 ?_
  refine hz_if_le (tgt := 38) hO dX7_soundGong_4 (by decide) (fun hc1 => ?_) (fun hc1 => ?_)
  · rw [if_pos hc1] at h
    exact hz_nameM (hz_some_e h).2.symm (hz_vret hO dX7_soundGong_38)
  · rw [if_neg hc1] at h
    refine hz_aload_n hO dX7_soundGong_7 rfl 0 rfl ?_
    refine hz_getI (k := 14) hO hz_K_5 hz_sh_11 (hz_lt_11 hN) rfl (Nat.le_of_ble_eq_true rfl) tw_1_196 rfl dX7_soundGong_8 ?_
    refine hz_aload_n hO dX7_soundGong_11 rfl 0 rfl ?_
    refine hz_getI (k := 18) hO hz_K_5 hz_sh_11 (hz_lt_11 hN) rfl (Nat.le_of_ble_eq_true rfl) tw_1_205 rfl dX7_soundGong_12 ?_
    obtain ⟨hg2, h⟩ := hz_gd_e h
    refine hz_irem hO dX7_soundGong_15 (hz_nz_e hg2) ?_
    refine hz_if_ne (tgt := 38) hO dX7_soundGong_16 (by decide) (fun hc3 => ?_) (fun hc3 => ?_)
    · rw [if_neg hc3] at h
      exact hz_nameM (hz_some_e h).2.symm (hz_vret hO dX7_soundGong_38)
    · rw [if_pos hc3] at h
      refine hz_aload_n hO dX7_soundGong_19 rfl 0 rfl ?_
      refine hz_aload_n hO dX7_soundGong_20 rfl 0 rfl ?_
      refine hz_getI (k := 14) hO hz_K_5 hz_sh_11 (hz_lt_11 hN) rfl (Nat.le_of_ble_eq_true rfl) tw_1_196 rfl dX7_soundGong_21 ?_
      obtain ⟨M4, h_M4, h⟩ := hz_lm_e h
      refine hz_putI (k := 16) (ty := .int) hO hz_K_5 tyX7_ok nmX7 hz_sh_11 (hz_lt_11 hN) rfl (Nat.le_of_ble_eq_true rfl) tw_1_201 rfl rfl rfl rfl rfl dX7_soundGong_24 ?_
      refine hz_nameM h_M4 ?_
      refine hz_aload_n hO dX7_soundGong_27 rfl 0 rfl ?_
      refine hz_getR (k := 13) hO 24 hz_K_5 hz_sh_11 (hz_lt_11 hN) rfl (Nat.le_of_ble_eq_true rfl) tw_1_193 rfl dX7_soundGong_28 ?_
      refine hz_bipush (v := (7 : Int32)) hO dX7_soundGong_31 (by decide) ?_
      refine hz_dup2 hO dX7_soundGong_33 rfl rfl ?_
      refine hz_iald hO hz_sh_24 (hz_lt_24 hN) (by decide) dX7_soundGong_34 ?_
      refine hz_iconst (v := (1 : Int32)) hO dX7_soundGong_35 (by decide) ?_
      refine hz_iadd hO dX7_soundGong_36 ?_
      obtain ⟨M5, h_M5, h⟩ := hz_lm_e h
      refine hz_iast hO hz_sh_24 (hz_lt_24 hN) (by decide) dX7_soundGong_37 ?_
      refine hz_nameM h_M5 ?_
      exact hz_nameM (hz_some_e h).2.symm (hz_vret hO dX7_soundGong_38)
def f_X7_changeTowels_L2 : Nat → Int32 → hz_M → hz_O
  | 0, _, _ => none
  | n + 1, v1_1, M2 =>
    if (M2 1 6) ≤ v1_1 then
      some (0, M2)
    else
      hz_gd (hz_in v1_1 16) <|
      hz_lt ((M2 22 (Int32.toNatClampNeg v1_1))) fun x5 =>
      hz_ct (f_X3_isGuest x5 M2) fun r6 M7 =>
      hz_jn (fun (v1_9 : Int32) (M10 : hz_M) =>
        hz_lt (v1_9 + (1 : Int32)) fun x11 =>
        f_X7_changeTowels_L2 n x11 M10
        ) fun k12 =>
      if r6 = 0 then
        hz_gd (hz_in v1_1 16) <|
        if (M7 21 (Int32.toNatClampNeg v1_1)) = (-1 : Int32) then
          k12 v1_1 M7
        else
          hz_gd (hz_in v1_1 16) <|
          hz_ct (f_X7_wetOnPegBehind (M7 20 (Int32.toNatClampNeg v1_1)) (M7 11 15) M7) fun r17 M18 =>
          hz_gd (hz_in v1_1 16) <|
          hz_lm (hz_set M18 20 (Int32.toNatClampNeg v1_1) r17) fun M21 =>
          k12 v1_1 M21
      else
        hz_gd (hz_in x5 16) <|
        if (M7 13 (Int32.toNatClampNeg x5)) ≤ 0 then
          k12 v1_1 M7
        else
          hz_gd (hz_in v1_1 16) <|
          if (9 : Int32) ≤ (M7 20 (Int32.toNatClampNeg v1_1)) then
            k12 v1_1 M7
          else
            hz_gd (hz_in v1_1 16) <|
            hz_gd (hz_in v1_1 16) <|
            hz_lm (hz_set M7 20 (Int32.toNatClampNeg v1_1) ((M7 20 (Int32.toNatClampNeg v1_1)) + (1 : Int32))) fun M28 =>
            hz_lm (hz_set M28 24 (Int32.toNatClampNeg (6 : Int32)) ((M28 24 (Int32.toNatClampNeg (6 : Int32))) + (1 : Int32))) fun M29 =>
            k12 v1_1 M29
def f_X7_changeTowels (M : hz_M) : hz_O :=
  f_X7_changeTowels_L2 hz_FU (0 : Int32) M
set_option maxRecDepth 100000 in
set_option maxHeartbeats 4000000 in
theorem g_X7_changeTowels_L2 {p : Program} {l : Launch} {e : Env} {s : State} {m : MethodId} {args : Array Value} {below : List Frame} {meth : Method} {c : Code} {w : hz_C} {N : Nat} (hN : 178 ≤ N) {rE : Int32} {ME : hz_M} (hO : hz_Ok p s m args meth c w cX7_changeTowels 3 RX7 none) : ∀ (n : Nat) (v1_1 : Int32) (M2 : hz_M), f_X7_changeTowels_L2 n v1_1 M2 = some (rE, ME) → hz_G p l e 2 hz_z0 s m args below meth c w N 3 (MQ below (hz_Qv w N ME) args s 0 0 (hz_A w)) M2 2 [(0, .ref (hz_ad w 11)), (1, .int v1_1)] [] := by
  intro n
  induction n with
  | zero =>
    intro v1_1 M2 h
    rw [f_X7_changeTowels_L2] at h
    cases h
  | succ n ih =>
    intro v1_1 M2 h
    rw [f_X7_changeTowels_L2] at h
    refine hz_iload_n hO dX7_changeTowels_2 rfl 1 rfl ?_
    refine hz_aload_n hO dX7_changeTowels_3 rfl 0 rfl ?_
    refine hz_getR (k := 0) hO 1 hz_K_5 hz_sh_11 (hz_lt_11 hN) rfl (Nat.le_of_ble_eq_true rfl) tw_1_151 rfl dX7_changeTowels_4 ?_
    refine hz_getI (k := 6) hO hz_K_2 hz_sh_1 (hz_lt_1 hN) rfl (Nat.le_of_ble_eq_true rfl) tw_1_62 rfl dX7_changeTowels_7 ?_
    refine hz_icmp_ge (tgt := 110) hO dX7_changeTowels_10 (by decide) (fun hc3 => ?_) (fun hc3 => ?_)
    · rw [if_pos hc3] at h
      exact hz_nameM (hz_some_e h).2.symm (hz_vret hO dX7_changeTowels_110)
    · rw [if_neg hc3] at h
      refine hz_aload_n hO dX7_changeTowels_13 rfl 0 rfl ?_
      refine hz_getR (k := 11) hO 22 hz_K_5 hz_sh_11 (hz_lt_11 hN) rfl (Nat.le_of_ble_eq_true rfl) tw_1_185 rfl dX7_changeTowels_14 ?_
      refine hz_iload_n hO dX7_changeTowels_17 rfl 1 rfl ?_
      obtain ⟨hg4, h⟩ := hz_gd_e h
      refine hz_iald hO hz_sh_22 (hz_lt_22 hN) hg4 dX7_changeTowels_18 ?_
      obtain ⟨x5, h_x5, h⟩ := hz_lt_e h
      refine hz_name h_x5 ?_
      refine hz_istore_n (ls1 := [(2, .int x5), (0, .ref (hz_ad w 11)), (1, .int v1_1)]) hO dX7_changeTowels_19 rfl (Nat.le_of_ble_eq_true rfl) rfl ?_
      refine hz_aload_n hO dX7_changeTowels_20 rfl 1 rfl ?_
      refine hz_getR (k := 0) hO 1 hz_K_5 hz_sh_11 (hz_lt_11 hN) rfl (Nat.le_of_ble_eq_true rfl) tw_1_151 rfl dX7_changeTowels_21 ?_
      refine hz_iload_n hO dX7_changeTowels_24 rfl 0 rfl ?_
      obtain ⟨r6, M7, hq8, h⟩ := hz_ct_e h
      refine hz_callVi (as := [.int x5]) (rest := []) hO (c_X3_isGuest l w hN x5 hq8) hz_cal_X3_isGuest hz_K_2 hz_sh_1 (hz_lt_1 hN) tw_4_113 (Nat.le_of_ble_eq_true rfl) rfl rfl (Nat.le_of_ble_eq_true rfl) dX7_changeTowels_25 ?_
      obtain ⟨k12, hk12, h⟩ := hz_jn_e h
      have gk12 : ∀ (v1_9 : Int32) (M10 : hz_M), k12 v1_9 M10 = some (rE, ME) → hz_G p l e 2 hz_z0 s m args below meth c w N 3 (MQ below (hz_Qv w N ME) args s 0 0 (hz_A w)) M10 104 [(0, .ref (hz_ad w 11)), (1, .int v1_9)] [] := by
        intro v1_9 M10 h
        rw [hk12] at h
        dsimp only at h
        obtain ⟨x11, h_x11, h⟩ := hz_lt_e h
        refine hz_iinc (k := 1) (v := x11) (ls1 := [(1, .int x11), (0, .ref (hz_ad w 11))]) hO dX7_changeTowels_104 rfl (by rw [h_x11]; rfl) (Nat.le_of_ble_eq_true rfl) rfl ?_
        refine hz_goto (tgt := 2) hO dX7_changeTowels_107 (by decide) ?_
        exact hz_ls [1, 0] rfl (ih x11 M10 h)
      clear hk12
      refine hz_if_eq (tgt := 75) hO dX7_changeTowels_28 (by decide) (fun hc13 => ?_) (fun hc13 => ?_)
      · rw [if_pos hc13] at h
        refine hz_aload_n hO dX7_changeTowels_75 rfl 1 rfl ?_
        refine hz_getR (k := 10) hO 21 hz_K_5 hz_sh_11 (hz_lt_11 hN) rfl (Nat.le_of_ble_eq_true rfl) tw_1_183 rfl dX7_changeTowels_76 ?_
        refine hz_iload_n hO dX7_changeTowels_79 rfl 2 rfl ?_
        obtain ⟨hg14, h⟩ := hz_gd_e h
        refine hz_iald hO hz_sh_21 (hz_lt_21 hN) hg14 dX7_changeTowels_80 ?_
        refine hz_iconst (v := (-1 : Int32)) hO dX7_changeTowels_81 (by decide) ?_
        refine hz_icmp_eq (tgt := 104) hO dX7_changeTowels_82 (by decide) (fun hc15 => ?_) (fun hc15 => ?_)
        · rw [if_pos hc15] at h
          exact hz_ls [1, 2] rfl (gk12 v1_1 M7 h)
        · rw [if_neg hc15] at h
          refine hz_aload_n hO dX7_changeTowels_85 rfl 1 rfl ?_
          refine hz_getR (k := 9) hO 20 hz_K_5 hz_sh_11 (hz_lt_11 hN) rfl (Nat.le_of_ble_eq_true rfl) tw_1_180 rfl dX7_changeTowels_86 ?_
          refine hz_iload_n hO dX7_changeTowels_89 rfl 2 rfl ?_
          refine hz_aload_n hO dX7_changeTowels_90 rfl 1 rfl ?_
          refine hz_getR (k := 9) hO 20 hz_K_5 hz_sh_11 (hz_lt_11 hN) rfl (Nat.le_of_ble_eq_true rfl) tw_1_180 rfl dX7_changeTowels_91 ?_
          refine hz_iload_n hO dX7_changeTowels_94 rfl 2 rfl ?_
          obtain ⟨hg16, h⟩ := hz_gd_e h
          refine hz_iald hO hz_sh_20 (hz_lt_20 hN) hg16 dX7_changeTowels_95 ?_
          refine hz_aload_n hO dX7_changeTowels_96 rfl 1 rfl ?_
          refine hz_getI (k := 15) hO hz_K_5 hz_sh_11 (hz_lt_11 hN) rfl (Nat.le_of_ble_eq_true rfl) tw_1_199 rfl dX7_changeTowels_97 ?_
          obtain ⟨r17, M18, hq19, h⟩ := hz_ct_e h
          refine hz_callSi (as := [.int (M7 20 (Int32.toNatClampNeg v1_1)), .int (M7 11 15)]) (rest := [.int v1_1, .ref (hz_ad w 20)]) hO (c_X7_wetOnPegBehind l w hN (M7 20 (Int32.toNatClampNeg v1_1)) (M7 11 15) hq19) hz_cal_X7_wetOnPegBehind tw_4_114 (Nat.le_of_ble_eq_true rfl) rfl rfl (Nat.le_of_ble_eq_true rfl) dX7_changeTowels_100 ?_
          obtain ⟨hg20, h⟩ := hz_gd_e h
          obtain ⟨M21, h_M21, h⟩ := hz_lm_e h
          refine hz_iast hO hz_sh_20 (hz_lt_20 hN) hg20 dX7_changeTowels_103 ?_
          refine hz_nameM h_M21 ?_
          exact hz_ls [1, 2] rfl (gk12 v1_1 M21 h)
      · rw [if_neg hc13] at h
        refine hz_aload_n hO dX7_changeTowels_31 rfl 1 rfl ?_
        refine hz_getR (k := 2) hO 13 hz_K_5 hz_sh_11 (hz_lt_11 hN) rfl (Nat.le_of_ble_eq_true rfl) tw_1_155 rfl dX7_changeTowels_32 ?_
        refine hz_iload_n hO dX7_changeTowels_35 rfl 0 rfl ?_
        obtain ⟨hg22, h⟩ := hz_gd_e h
        refine hz_iald hO hz_sh_13 (hz_lt_13 hN) hg22 dX7_changeTowels_36 ?_
        refine hz_if_le (tgt := 104) hO dX7_changeTowels_37 (by decide) (fun hc23 => ?_) (fun hc23 => ?_)
        · rw [if_pos hc23] at h
          exact hz_ls [1, 2] rfl (gk12 v1_1 M7 h)
        · rw [if_neg hc23] at h
          refine hz_aload_n hO dX7_changeTowels_40 rfl 1 rfl ?_
          refine hz_getR (k := 9) hO 20 hz_K_5 hz_sh_11 (hz_lt_11 hN) rfl (Nat.le_of_ble_eq_true rfl) tw_1_180 rfl dX7_changeTowels_41 ?_
          refine hz_iload_n hO dX7_changeTowels_44 rfl 2 rfl ?_
          obtain ⟨hg24, h⟩ := hz_gd_e h
          refine hz_iald hO hz_sh_20 (hz_lt_20 hN) hg24 dX7_changeTowels_45 ?_
          refine hz_bipush (v := (9 : Int32)) hO dX7_changeTowels_46 (by decide) ?_
          refine hz_icmp_ge (tgt := 104) hO dX7_changeTowels_48 (by decide) (fun hc25 => ?_) (fun hc25 => ?_)
          · rw [if_pos hc25] at h
            exact hz_ls [1, 2] rfl (gk12 v1_1 M7 h)
          · rw [if_neg hc25] at h
            refine hz_aload_n hO dX7_changeTowels_51 rfl 1 rfl ?_
            refine hz_getR (k := 9) hO 20 hz_K_5 hz_sh_11 (hz_lt_11 hN) rfl (Nat.le_of_ble_eq_true rfl) tw_1_180 rfl dX7_changeTowels_52 ?_
            refine hz_iload_n hO dX7_changeTowels_55 rfl 2 rfl ?_
            refine hz_dup2 hO dX7_changeTowels_56 rfl rfl ?_
            obtain ⟨hg26, h⟩ := hz_gd_e h
            refine hz_iald hO hz_sh_20 (hz_lt_20 hN) hg26 dX7_changeTowels_57 ?_
            refine hz_iconst (v := (1 : Int32)) hO dX7_changeTowels_58 (by decide) ?_
            refine hz_iadd hO dX7_changeTowels_59 ?_
            obtain ⟨hg27, h⟩ := hz_gd_e h
            obtain ⟨M28, h_M28, h⟩ := hz_lm_e h
            refine hz_iast hO hz_sh_20 (hz_lt_20 hN) hg27 dX7_changeTowels_60 ?_
            refine hz_nameM h_M28 ?_
            refine hz_aload_n hO dX7_changeTowels_61 rfl 1 rfl ?_
            refine hz_getR (k := 13) hO 24 hz_K_5 hz_sh_11 (hz_lt_11 hN) rfl (Nat.le_of_ble_eq_true rfl) tw_1_193 rfl dX7_changeTowels_62 ?_
            refine hz_bipush (v := (6 : Int32)) hO dX7_changeTowels_65 (by decide) ?_
            refine hz_dup2 hO dX7_changeTowels_67 rfl rfl ?_
            refine hz_iald hO hz_sh_24 (hz_lt_24 hN) (by decide) dX7_changeTowels_68 ?_
            refine hz_iconst (v := (1 : Int32)) hO dX7_changeTowels_69 (by decide) ?_
            refine hz_iadd hO dX7_changeTowels_70 ?_
            obtain ⟨M29, h_M29, h⟩ := hz_lm_e h
            refine hz_iast hO hz_sh_24 (hz_lt_24 hN) (by decide) dX7_changeTowels_71 ?_
            refine hz_nameM h_M29 ?_
            refine hz_goto (tgt := 104) hO dX7_changeTowels_72 (by decide) ?_
            exact hz_ls [1, 2] rfl (gk12 v1_1 M29 h)
set_option maxRecDepth 100000 in
set_option maxHeartbeats 4000000 in
theorem c_X7_changeTowels (l : Launch) (w : hz_C) {N : Nat} (hN : 178 ≤ N) {M : hz_M} {rE : Int32} {ME : hz_M} (h : f_X7_changeTowels M = some (rE, ME)) : hz_Ct l yX7_changeTowels cX7_changeTowels 3 none 2 w N [.ref (hz_ad w 11)] M (hz_Qv w N ME) := by
  refine hz_ofW (by decide) rfl (Nat.le_of_ble_eq_true rfl) tw_4_112 ?_
  intro p e s m args below meth c hO
  show hz_G p l e 2 hz_z0 s m args below meth c w N 3 _ M 0 [(0, .ref (hz_ad w 11))] []
  unfold f_X7_changeTowels at h
  refine hz_iconst (v := (0 : Int32)) hO dX7_changeTowels_0 (by decide) ?_
  refine hz_istore_n (ls1 := [(1, .int (0 : Int32)), (0, .ref (hz_ad w 11))]) hO dX7_changeTowels_1 rfl (Nat.le_of_ble_eq_true rfl) rfl ?_
  exact hz_ls [1, 0] rfl (g_X7_changeTowels_L2 hN hO _ (0 : Int32) M h)
def f_X7_strainGuest (a1 : Int32) (M : hz_M) : hz_O :=
  hz_gd (hz_in a1 16) <|
  hz_lt ((M 13 (Int32.toNatClampNeg a1))) fun x2 =>
  if x2 = 0 then
    hz_gd (hz_in a1 16) <|
    hz_gd (hz_in a1 16) <|
    hz_lm (hz_set M 16 (Int32.toNatClampNeg a1) (if (0 : Int32) < ((M 16 (Int32.toNatClampNeg a1)) - (1 : Int32)) then ((M 16 (Int32.toNatClampNeg a1)) - (1 : Int32)) else (0 : Int32))) fun M19 =>
    some (0, M19)
  else
    if x2 ≤ 0 then
      some (0, M)
    else
      hz_gd (hz_in a1 16) <|
      hz_ct (f_X7_temperature x2 M) fun r6 M7 =>
      hz_ct (f_X3_bears a1 M7) fun r9 M10 =>
      hz_ct (f_X7_strainBehind (M 16 (Int32.toNatClampNeg a1)) (r6 - r9) M10) fun r12 M13 =>
      hz_gd (hz_in a1 16) <|
      hz_lm (hz_set M13 16 (Int32.toNatClampNeg a1) r12) fun M16 =>
      some (0, M16)
set_option maxRecDepth 100000 in
set_option maxHeartbeats 4000000 in
theorem c_X7_strainGuest (l : Launch) (w : hz_C) {N : Nat} (hN : 178 ≤ N) (a1 : Int32) {M : hz_M} {rE : Int32} {ME : hz_M} (h : f_X7_strainGuest a1 M = some (rE, ME)) : hz_Ct l yX7_strainGuest cX7_strainGuest 3 none 2 w N [.ref (hz_ad w 11), .int a1] M (hz_Qv w N ME) := by
  refine hz_ofW (by decide) rfl (Nat.le_of_ble_eq_true rfl) tw_4_120 ?_
  intro p e s m args below meth c hO
  show hz_G p l e 2 hz_z0 s m args below meth c w N 3 _ M 0 [(0, .ref (hz_ad w 11)), (1, .int a1)] []
  unfold f_X7_strainGuest at h
  refine hz_aload_n hO dX7_strainGuest_0 rfl 0 rfl ?_
  refine hz_getR (k := 2) hO 13 hz_K_5 hz_sh_11 (hz_lt_11 hN) rfl (Nat.le_of_ble_eq_true rfl) tw_1_155 rfl dX7_strainGuest_1 ?_
  refine hz_iload_n hO dX7_strainGuest_4 rfl 1 rfl ?_
  obtain ⟨hg1, h⟩ := hz_gd_e h
  refine hz_iald hO hz_sh_13 (hz_lt_13 hN) hg1 dX7_strainGuest_5 ?_
  obtain ⟨x2, h_x2, h⟩ := hz_lt_e h
  refine hz_name h_x2 ?_
  refine hz_istore_n (ls1 := [(2, .int x2), (0, .ref (hz_ad w 11)), (1, .int a1)]) hO dX7_strainGuest_6 rfl (Nat.le_of_ble_eq_true rfl) rfl ?_
  refine hz_iload_n hO dX7_strainGuest_7 rfl 0 rfl ?_
  refine hz_if_ne (tgt := 32) hO dX7_strainGuest_8 (by decide) (fun hc3 => ?_) (fun hc3 => ?_)
  · rw [if_neg hc3] at h
    refine hz_iload_n hO dX7_strainGuest_32 rfl 0 rfl ?_
    refine hz_if_le (tgt := 65) hO dX7_strainGuest_33 (by decide) (fun hc4 => ?_) (fun hc4 => ?_)
    · rw [if_pos hc4] at h
      exact hz_nameM (hz_some_e h).2.symm (hz_vret hO dX7_strainGuest_65)
    · rw [if_neg hc4] at h
      refine hz_aload_n hO dX7_strainGuest_36 rfl 1 rfl ?_
      refine hz_getR (k := 5) hO 16 hz_K_5 hz_sh_11 (hz_lt_11 hN) rfl (Nat.le_of_ble_eq_true rfl) tw_1_167 rfl dX7_strainGuest_37 ?_
      refine hz_iload_n hO dX7_strainGuest_40 rfl 2 rfl ?_
      refine hz_aload_n hO dX7_strainGuest_41 rfl 1 rfl ?_
      refine hz_getR (k := 5) hO 16 hz_K_5 hz_sh_11 (hz_lt_11 hN) rfl (Nat.le_of_ble_eq_true rfl) tw_1_167 rfl dX7_strainGuest_42 ?_
      refine hz_iload_n hO dX7_strainGuest_45 rfl 2 rfl ?_
      obtain ⟨hg5, h⟩ := hz_gd_e h
      refine hz_iald hO hz_sh_16 (hz_lt_16 hN) hg5 dX7_strainGuest_46 ?_
      refine hz_aload_n hO dX7_strainGuest_47 rfl 1 rfl ?_
      refine hz_iload_n hO dX7_strainGuest_48 rfl 0 rfl ?_
      obtain ⟨r6, M7, hq8, h⟩ := hz_ct_e h
      refine hz_callVi (as := [.int x2]) (rest := [.int (M 16 (Int32.toNatClampNeg a1)), .int a1, .ref (hz_ad w 16)]) hO (c_X7_temperature l w hN x2 hq8) hz_cal_X7_temperature hz_K_5 hz_sh_11 (hz_lt_11 hN) tw_4_121 (Nat.le_of_ble_eq_true rfl) rfl rfl (Nat.le_of_ble_eq_true rfl) dX7_strainGuest_49 ?_
      refine hz_aload_n hO dX7_strainGuest_52 rfl 1 rfl ?_
      refine hz_getR (k := 0) hO 1 hz_K_5 hz_sh_11 (hz_lt_11 hN) rfl (Nat.le_of_ble_eq_true rfl) tw_1_151 rfl dX7_strainGuest_53 ?_
      refine hz_iload_n hO dX7_strainGuest_56 rfl 2 rfl ?_
      obtain ⟨r9, M10, hq11, h⟩ := hz_ct_e h
      refine hz_callVi (as := [.int a1]) (rest := [.int r6, .int (M 16 (Int32.toNatClampNeg a1)), .int a1, .ref (hz_ad w 16)]) hO (c_X3_bears l w hN a1 hq11) hz_cal_X3_bears hz_K_2 hz_sh_1 (hz_lt_1 hN) tw_4_122 (Nat.le_of_ble_eq_true rfl) rfl rfl (Nat.le_of_ble_eq_true rfl) dX7_strainGuest_57 ?_
      refine hz_isub hO dX7_strainGuest_60 ?_
      obtain ⟨r12, M13, hq14, h⟩ := hz_ct_e h
      refine hz_callSi (as := [.int (M 16 (Int32.toNatClampNeg a1)), .int (r6 - r9)]) (rest := [.int a1, .ref (hz_ad w 16)]) hO (c_X7_strainBehind l w hN (M 16 (Int32.toNatClampNeg a1)) (r6 - r9) hq14) hz_cal_X7_strainBehind tw_4_126 (Nat.le_of_ble_eq_true rfl) rfl rfl (Nat.le_of_ble_eq_true rfl) dX7_strainGuest_61 ?_
      obtain ⟨hg15, h⟩ := hz_gd_e h
      obtain ⟨M16, h_M16, h⟩ := hz_lm_e h
      refine hz_iast hO hz_sh_16 (hz_lt_16 hN) hg15 dX7_strainGuest_64 ?_
      refine hz_nameM h_M16 ?_
      exact hz_nameM (hz_some_e h).2.symm (hz_vret hO dX7_strainGuest_65)
  · rw [if_pos hc3] at h
    refine hz_aload_n hO dX7_strainGuest_11 rfl 1 rfl ?_
    refine hz_getR (k := 5) hO 16 hz_K_5 hz_sh_11 (hz_lt_11 hN) rfl (Nat.le_of_ble_eq_true rfl) tw_1_167 rfl dX7_strainGuest_12 ?_
    refine hz_iload_n hO dX7_strainGuest_15 rfl 2 rfl ?_
    refine hz_iconst (v := (0 : Int32)) hO dX7_strainGuest_16 (by decide) ?_
    refine hz_aload_n hO dX7_strainGuest_17 rfl 1 rfl ?_
    refine hz_getR (k := 5) hO 16 hz_K_5 hz_sh_11 (hz_lt_11 hN) rfl (Nat.le_of_ble_eq_true rfl) tw_1_167 rfl dX7_strainGuest_18 ?_
    refine hz_iload_n hO dX7_strainGuest_21 rfl 2 rfl ?_
    obtain ⟨hg17, h⟩ := hz_gd_e h
    refine hz_iald hO hz_sh_16 (hz_lt_16 hN) hg17 dX7_strainGuest_22 ?_
    refine hz_iconst (v := (1 : Int32)) hO dX7_strainGuest_23 (by decide) ?_
    refine hz_isub hO dX7_strainGuest_24 ?_
    refine hz_mmax hO tw_4_106 (Nat.le_of_ble_eq_true rfl) (Nat.le_of_ble_eq_true rfl) dX7_strainGuest_25 ?_
    obtain ⟨hg18, h⟩ := hz_gd_e h
    obtain ⟨M19, h_M19, h⟩ := hz_lm_e h
    refine hz_iast hO hz_sh_16 (hz_lt_16 hN) hg18 dX7_strainGuest_28 ?_
    refine hz_nameM h_M19 ?_
    refine hz_goto (tgt := 65) hO dX7_strainGuest_29 (by decide) ?_
    exact hz_nameM (hz_some_e h).2.symm (hz_vret hO dX7_strainGuest_65)
def f_X7_comeDown_L9 (kk31 : Int32 → Int32 → hz_M → hz_O) : Nat → Int32 → Int32 → hz_M → hz_O
  | 0, _, _, _ => none
  | n + 1, v1_12, v2_13, M14 =>
    if v2_13 ≤ 0 then
      kk31 v1_12 v2_13 M14
    else
      hz_ct (f_X7_guestsAt v2_13 M14) fun r16 M17 =>
      if r16 < (M17 11 17) then
        kk31 v1_12 v2_13 M17
      else
        hz_lt (v2_13 + (-1 : Int32)) fun x20 =>
        f_X7_comeDown_L9 kk31 n v1_12 x20 M17
def f_X7_comeDown (a1 : Int32) (M : hz_M) : hz_O :=
  hz_gd (hz_in a1 16) <|
  hz_lt (((M 13 (Int32.toNatClampNeg a1)) - (1 : Int32))) fun x2 =>
  hz_jn (fun (v1_3 : Int32) (v2_4 : Int32) (M5 : hz_M) =>
    hz_gd (hz_in v1_3 16) <|
    hz_lm (hz_set M5 13 (Int32.toNatClampNeg v1_3) v2_4) fun M7 =>
    hz_gd (hz_in v1_3 16) <|
    hz_lm (hz_set M7 16 (Int32.toNatClampNeg v1_3) (5 : Int32)) fun M9 =>
    hz_lm (hz_set M9 24 (Int32.toNatClampNeg (4 : Int32)) ((M9 24 (Int32.toNatClampNeg (4 : Int32))) + (1 : Int32))) fun M10 =>
    some (0, M10)
    ) fun k11 =>
  f_X7_comeDown_L9 k11 hz_FU a1 x2 M
set_option maxRecDepth 100000 in
set_option maxHeartbeats 4000000 in
theorem g_X7_comeDown_L9 {p : Program} {l : Launch} {e : Env} {s : State} {m : MethodId} {args : Array Value} {below : List Frame} {meth : Method} {c : Code} {w : hz_C} {N : Nat} (hN : 178 ≤ N) {rE : Int32} {ME : hz_M} (hO : hz_Ok p s m args meth c w cX7_comeDown 3 RX7 none) (kk31 : Int32 → Int32 → hz_M → hz_O) (gkk31 : ∀ (v1_3 : Int32) (v2_4 : Int32) (M : hz_M), kk31 v1_3 v2_4 M = some (rE, ME) → hz_G p l e 1 hz_z0 s m args below meth c w N 3 (MQ below (hz_Qv w N ME) args s 0 0 (hz_A w)) M 31 [(0, .ref (hz_ad w 11)), (1, .int v1_3), (2, .int v2_4)] []) : ∀ (n : Nat) (v1_12 : Int32) (v2_13 : Int32) (M14 : hz_M), f_X7_comeDown_L9 kk31 n v1_12 v2_13 M14 = some (rE, ME) → hz_G p l e 1 hz_z0 s m args below meth c w N 3 (MQ below (hz_Qv w N ME) args s 0 0 (hz_A w)) M14 9 [(0, .ref (hz_ad w 11)), (1, .int v1_12), (2, .int v2_13)] [] := by
  intro n
  induction n with
  | zero =>
    intro v1_12 v2_13 M14 h
    rw [f_X7_comeDown_L9] at h
    cases h
  | succ n ih =>
    intro v1_12 v2_13 M14 h
    rw [f_X7_comeDown_L9] at h
    refine hz_iload_n hO dX7_comeDown_9 rfl 2 rfl ?_
    refine hz_if_le (tgt := 31) hO dX7_comeDown_10 (by decide) (fun hc15 => ?_) (fun hc15 => ?_)
    · rw [if_pos hc15] at h
      exact hz_ls [0, 1, 2] rfl (gkk31 v1_12 v2_13 M14 h)
    · rw [if_neg hc15] at h
      refine hz_aload_n hO dX7_comeDown_13 rfl 0 rfl ?_
      refine hz_iload_n hO dX7_comeDown_14 rfl 2 rfl ?_
      obtain ⟨r16, M17, hq18, h⟩ := hz_ct_e h
      refine hz_callVi (as := [.int v2_13]) (rest := []) hO (c_X7_guestsAt l w hN v2_13 hq18) hz_cal_X7_guestsAt hz_K_5 hz_sh_11 (hz_lt_11 hN) tw_4_133 (Nat.le_of_ble_eq_true rfl) rfl rfl (Nat.le_of_ble_eq_true rfl) dX7_comeDown_15 ?_
      refine hz_aload_n hO dX7_comeDown_18 rfl 0 rfl ?_
      refine hz_getI (k := 17) hO hz_K_5 hz_sh_11 (hz_lt_11 hN) rfl (Nat.le_of_ble_eq_true rfl) tw_1_202 rfl dX7_comeDown_19 ?_
      refine hz_icmp_lt (tgt := 31) hO dX7_comeDown_22 (by decide) (fun hc19 => ?_) (fun hc19 => ?_)
      · rw [if_pos hc19] at h
        exact hz_ls [0, 1, 2] rfl (gkk31 v1_12 v2_13 M17 h)
      · rw [if_neg hc19] at h
        obtain ⟨x20, h_x20, h⟩ := hz_lt_e h
        refine hz_iinc (k := 2) (v := x20) (ls1 := [(2, .int x20), (0, .ref (hz_ad w 11)), (1, .int v1_12)]) hO dX7_comeDown_25 rfl (by rw [h_x20]; rfl) (Nat.le_of_ble_eq_true rfl) rfl ?_
        refine hz_goto (tgt := 9) hO dX7_comeDown_28 (by decide) ?_
        exact hz_ls [1, 2, 0] rfl (ih v1_12 x20 M17 h)
set_option maxRecDepth 100000 in
set_option maxHeartbeats 4000000 in
theorem c_X7_comeDown (l : Launch) (w : hz_C) {N : Nat} (hN : 178 ≤ N) (a1 : Int32) {M : hz_M} {rE : Int32} {ME : hz_M} (h : f_X7_comeDown a1 M = some (rE, ME)) : hz_Ct l yX7_comeDown cX7_comeDown 3 none 1 w N [.ref (hz_ad w 11), .int a1] M (hz_Qv w N ME) := by
  refine hz_ofW (by decide) rfl (Nat.le_of_ble_eq_true rfl) tw_4_132 ?_
  intro p e s m args below meth c hO
  show hz_G p l e 1 hz_z0 s m args below meth c w N 3 _ M 0 [(0, .ref (hz_ad w 11)), (1, .int a1)] []
  unfold f_X7_comeDown at h
  refine hz_aload_n hO dX7_comeDown_0 rfl 0 rfl ?_
  refine hz_getR (k := 2) hO 13 hz_K_5 hz_sh_11 (hz_lt_11 hN) rfl (Nat.le_of_ble_eq_true rfl) tw_1_155 rfl dX7_comeDown_1 ?_
  refine hz_iload_n hO dX7_comeDown_4 rfl 1 rfl ?_
  obtain ⟨hg1, h⟩ := hz_gd_e h
  refine hz_iald hO hz_sh_13 (hz_lt_13 hN) hg1 dX7_comeDown_5 ?_
  refine hz_iconst (v := (1 : Int32)) hO dX7_comeDown_6 (by decide) ?_
  refine hz_isub hO dX7_comeDown_7 ?_
  obtain ⟨x2, h_x2, h⟩ := hz_lt_e h
  refine hz_name h_x2 ?_
  refine hz_istore_n (ls1 := [(2, .int x2), (0, .ref (hz_ad w 11)), (1, .int a1)]) hO dX7_comeDown_8 rfl (Nat.le_of_ble_eq_true rfl) rfl ?_
  obtain ⟨k11, hk11, h⟩ := hz_jn_e h
  have gk11 : ∀ (v1_3 : Int32) (v2_4 : Int32) (M5 : hz_M), k11 v1_3 v2_4 M5 = some (rE, ME) → hz_G p l e 1 hz_z0 s m args below meth c w N 3 (MQ below (hz_Qv w N ME) args s 0 0 (hz_A w)) M5 31 [(0, .ref (hz_ad w 11)), (1, .int v1_3), (2, .int v2_4)] [] := by
    intro v1_3 v2_4 M5 h
    rw [hk11] at h
    dsimp only at h
    refine hz_aload_n hO dX7_comeDown_31 rfl 0 rfl ?_
    refine hz_getR (k := 2) hO 13 hz_K_5 hz_sh_11 (hz_lt_11 hN) rfl (Nat.le_of_ble_eq_true rfl) tw_1_155 rfl dX7_comeDown_32 ?_
    refine hz_iload_n hO dX7_comeDown_35 rfl 1 rfl ?_
    refine hz_iload_n hO dX7_comeDown_36 rfl 2 rfl ?_
    obtain ⟨hg6, h⟩ := hz_gd_e h
    obtain ⟨M7, h_M7, h⟩ := hz_lm_e h
    refine hz_iast hO hz_sh_13 (hz_lt_13 hN) hg6 dX7_comeDown_37 ?_
    refine hz_nameM h_M7 ?_
    refine hz_aload_n hO dX7_comeDown_38 rfl 0 rfl ?_
    refine hz_getR (k := 5) hO 16 hz_K_5 hz_sh_11 (hz_lt_11 hN) rfl (Nat.le_of_ble_eq_true rfl) tw_1_167 rfl dX7_comeDown_39 ?_
    refine hz_iload_n hO dX7_comeDown_42 rfl 1 rfl ?_
    refine hz_iconst (v := (5 : Int32)) hO dX7_comeDown_43 (by decide) ?_
    obtain ⟨hg8, h⟩ := hz_gd_e h
    obtain ⟨M9, h_M9, h⟩ := hz_lm_e h
    refine hz_iast hO hz_sh_16 (hz_lt_16 hN) hg8 dX7_comeDown_44 ?_
    refine hz_nameM h_M9 ?_
    refine hz_aload_n hO dX7_comeDown_45 rfl 0 rfl ?_
    refine hz_getR (k := 13) hO 24 hz_K_5 hz_sh_11 (hz_lt_11 hN) rfl (Nat.le_of_ble_eq_true rfl) tw_1_193 rfl dX7_comeDown_46 ?_
    refine hz_iconst (v := (4 : Int32)) hO dX7_comeDown_49 (by decide) ?_
    refine hz_dup2 hO dX7_comeDown_50 rfl rfl ?_
    refine hz_iald hO hz_sh_24 (hz_lt_24 hN) (by decide) dX7_comeDown_51 ?_
    refine hz_iconst (v := (1 : Int32)) hO dX7_comeDown_52 (by decide) ?_
    refine hz_iadd hO dX7_comeDown_53 ?_
    obtain ⟨M10, h_M10, h⟩ := hz_lm_e h
    refine hz_iast hO hz_sh_24 (hz_lt_24 hN) (by decide) dX7_comeDown_54 ?_
    refine hz_nameM h_M10 ?_
    exact hz_nameM (hz_some_e h).2.symm (hz_vret hO dX7_comeDown_55)
  clear hk11
  exact hz_ls [1, 2, 0] rfl (g_X7_comeDown_L9 hN hO _ gk11 _ a1 x2 M h)
def f_X5_putName_L2 : Nat → Int32 → Int32 → hz_M → hz_O
  | 0, _, _, _ => none
  | n + 1, v1_1, v2_2, M3 =>
    hz_gd (hz_in v1_1 16) <|
    if (M3 4 (Int32.toNatClampNeg v1_1)) ≤ v2_2 then
      some (0, M3)
    else
      hz_ct (f_X3_letterOf v1_1 v2_2 M3) fun r6 M7 =>
      hz_ct (f_X5_put r6 M7) fun r9 M10 =>
      hz_lt (v2_2 + (1 : Int32)) fun x12 =>
      f_X5_putName_L2 n v1_1 x12 M10
def f_X5_putName (a1 : Int32) (M : hz_M) : hz_O :=
  f_X5_putName_L2 hz_FU a1 (0 : Int32) M
set_option maxRecDepth 100000 in
set_option maxHeartbeats 4000000 in
theorem g_X5_putName_L2 {p : Program} {l : Launch} {e : Env} {s : State} {m : MethodId} {args : Array Value} {below : List Frame} {meth : Method} {c : Code} {w : hz_C} {N : Nat} (hN : 178 ≤ N) {rE : Int32} {ME : hz_M} (hO : hz_Ok p s m args meth c w cX5_putName 3 RX5 none) : ∀ (n : Nat) (v1_1 : Int32) (v2_2 : Int32) (M3 : hz_M), f_X5_putName_L2 n v1_1 v2_2 M3 = some (rE, ME) → hz_G p l e 2 hz_z0 s m args below meth c w N 3 (MQ below (hz_Qv w N ME) args s 0 0 (hz_A w)) M3 2 [(0, .ref (hz_ad w 176)), (1, .int v1_1), (2, .int v2_2)] [] := by
  intro n
  induction n with
  | zero =>
    intro v1_1 v2_2 M3 h
    rw [f_X5_putName_L2] at h
    cases h
  | succ n ih =>
    intro v1_1 v2_2 M3 h
    rw [f_X5_putName_L2] at h
    refine hz_iload_n hO dX5_putName_2 rfl 2 rfl ?_
    refine hz_aload_n hO dX5_putName_3 rfl 0 rfl ?_
    refine hz_getR (k := 0) hO 1 hz_K_3 hz_sh_176 (hz_lt_176 hN) rfl (Nat.le_of_ble_eq_true rfl) tw_2_114 rfl dX5_putName_4 ?_
    refine hz_getR (k := 2) hO 4 hz_K_2 hz_sh_1 (hz_lt_1 hN) rfl (Nat.le_of_ble_eq_true rfl) tw_1_48 rfl dX5_putName_7 ?_
    refine hz_iload_n hO dX5_putName_10 rfl 1 rfl ?_
    obtain ⟨hg4, h⟩ := hz_gd_e h
    refine hz_iald hO hz_sh_4 (hz_lt_4 hN) hg4 dX5_putName_11 ?_
    refine hz_icmp_ge (tgt := 34) hO dX5_putName_12 (by decide) (fun hc5 => ?_) (fun hc5 => ?_)
    · rw [if_pos hc5] at h
      exact hz_nameM (hz_some_e h).2.symm (hz_vret hO dX5_putName_34)
    · rw [if_neg hc5] at h
      refine hz_aload_n hO dX5_putName_15 rfl 0 rfl ?_
      refine hz_aload_n hO dX5_putName_16 rfl 0 rfl ?_
      refine hz_getR (k := 0) hO 1 hz_K_3 hz_sh_176 (hz_lt_176 hN) rfl (Nat.le_of_ble_eq_true rfl) tw_2_114 rfl dX5_putName_17 ?_
      refine hz_iload_n hO dX5_putName_20 rfl 1 rfl ?_
      refine hz_iload_n hO dX5_putName_21 rfl 2 rfl ?_
      obtain ⟨r6, M7, hq8, h⟩ := hz_ct_e h
      refine hz_callVi (as := [.int v1_1, .int v2_2]) (rest := [.ref (hz_ad w 176)]) hO (c_X3_letterOf l w hN v1_1 v2_2 hq8) hz_cal_X3_letterOf hz_K_2 hz_sh_1 (hz_lt_1 hN) tw_5_3 (Nat.le_of_ble_eq_true rfl) rfl rfl (Nat.le_of_ble_eq_true rfl) dX5_putName_22 ?_
      obtain ⟨r9, M10, hq11, h⟩ := hz_ct_e h
      refine hz_callVv (as := [.int r6]) (rest := []) hO (c_X5_put l w hN r6 hq11) hz_cal_X5_put hz_K_3 hz_sh_176 (hz_lt_176 hN) tw_4_231 (Nat.le_of_ble_eq_true rfl) rfl rfl (Nat.le_of_ble_eq_true rfl) dX5_putName_25 ?_
      obtain ⟨x12, h_x12, h⟩ := hz_lt_e h
      refine hz_iinc (k := 2) (v := x12) (ls1 := [(2, .int x12), (0, .ref (hz_ad w 176)), (1, .int v1_1)]) hO dX5_putName_28 rfl (by rw [h_x12]; rfl) (Nat.le_of_ble_eq_true rfl) rfl ?_
      refine hz_goto (tgt := 2) hO dX5_putName_31 (by decide) ?_
      exact hz_ls [1, 2, 0] rfl (ih v1_1 x12 M10 h)
set_option maxRecDepth 100000 in
set_option maxHeartbeats 4000000 in
theorem c_X5_putName (l : Launch) (w : hz_C) {N : Nat} (hN : 178 ≤ N) (a1 : Int32) {M : hz_M} {rE : Int32} {ME : hz_M} (h : f_X5_putName a1 M = some (rE, ME)) : hz_Ct l yX5_putName cX5_putName 3 none 2 w N [.ref (hz_ad w 176), .int a1] M (hz_Qv w N ME) := by
  refine hz_ofW (by decide) rfl (Nat.le_of_ble_eq_true rfl) tw_5_2 ?_
  intro p e s m args below meth c hO
  show hz_G p l e 2 hz_z0 s m args below meth c w N 3 _ M 0 [(0, .ref (hz_ad w 176)), (1, .int a1)] []
  unfold f_X5_putName at h
  refine hz_iconst (v := (0 : Int32)) hO dX5_putName_0 (by decide) ?_
  refine hz_istore_n (ls1 := [(2, .int (0 : Int32)), (0, .ref (hz_ad w 176)), (1, .int a1)]) hO dX5_putName_1 rfl (Nat.le_of_ble_eq_true rfl) rfl ?_
  exact hz_ls [1, 2, 0] rfl (g_X5_putName_L2 hN hO _ a1 (0 : Int32) M h)
def f_X5_putNumber (a1 : Int32) (M : hz_M) : hz_O :=
  hz_jn (fun (v1_1 : Int32) (M2 : hz_M) =>
    hz_ct (f_X5_put ((48 : Int32) + (v1_1 - v1_1 / (10 : Int32) * (10 : Int32))) M2) fun r3 M4 =>
    some (0, M4)
    ) fun k6 =>
  if a1 < (10 : Int32) then
    k6 a1 M
  else
    hz_ct (f_X5_put ((48 : Int32) + (a1 / (10 : Int32))) M) fun r8 M9 =>
    k6 a1 M9
set_option maxRecDepth 100000 in
set_option maxHeartbeats 4000000 in
theorem c_X5_putNumber (l : Launch) (w : hz_C) {N : Nat} (hN : 178 ≤ N) (a1 : Int32) {M : hz_M} {rE : Int32} {ME : hz_M} (h : f_X5_putNumber a1 M = some (rE, ME)) : hz_Ct l yX5_putNumber cX5_putNumber 2 none 1 w N [.ref (hz_ad w 176), .int a1] M (hz_Qv w N ME) := by
  refine hz_ofW (by decide) rfl (Nat.le_of_ble_eq_true rfl) tw_4_230 ?_
  intro p e s m args below meth c hO
  show hz_G p l e 1 hz_z0 s m args below meth c w N 2 _ M 0 [(0, .ref (hz_ad w 176)), (1, .int a1)] []
  unfold f_X5_putNumber at h
  refine hz_iload_n hO dX5_putNumber_0 rfl 1 rfl ?_
  refine hz_bipush (v := (10 : Int32)) hO dX5_putNumber_1 (by decide) ?_
  obtain ⟨k6, hk6, h⟩ := hz_jn_e h
  have gk6 : ∀ (v1_1 : Int32) (M2 : hz_M), k6 v1_1 M2 = some (rE, ME) → hz_G p l e 1 hz_z0 s m args below meth c w N 2 (MQ below (hz_Qv w N ME) args s 0 0 (hz_A w)) M2 17 [(0, .ref (hz_ad w 176)), (1, .int v1_1)] [] := by
    intro v1_1 M2 h
    rw [hk6] at h
    dsimp only at h
    refine hz_aload_n hO dX5_putNumber_17 rfl 0 rfl ?_
    refine hz_bipush (v := (48 : Int32)) hO dX5_putNumber_18 (by decide) ?_
    refine hz_iload_n hO dX5_putNumber_20 rfl 1 rfl ?_
    refine hz_bipush (v := (10 : Int32)) hO dX5_putNumber_21 (by decide) ?_
    refine hz_irem hO dX5_putNumber_23 (by decide) ?_
    refine hz_iadd hO dX5_putNumber_24 ?_
    obtain ⟨r3, M4, hq5, h⟩ := hz_ct_e h
    refine hz_callVv (as := [.int ((48 : Int32) + (v1_1 - v1_1 / (10 : Int32) * (10 : Int32)))]) (rest := []) hO (c_X5_put l w hN ((48 : Int32) + (v1_1 - v1_1 / (10 : Int32) * (10 : Int32))) hq5) hz_cal_X5_put hz_K_3 hz_sh_176 (hz_lt_176 hN) tw_4_231 (Nat.le_of_ble_eq_true rfl) rfl rfl (Nat.le_of_ble_eq_true rfl) dX5_putNumber_25 ?_
    exact hz_nameM (hz_some_e h).2.symm (hz_vret hO dX5_putNumber_28)
  clear hk6
  refine hz_icmp_lt (tgt := 17) hO dX5_putNumber_3 (by decide) (fun hc7 => ?_) (fun hc7 => ?_)
  · rw [if_pos hc7] at h
    exact hz_ls [0, 1] rfl (gk6 a1 M h)
  · rw [if_neg hc7] at h
    refine hz_aload_n hO dX5_putNumber_6 rfl 0 rfl ?_
    refine hz_bipush (v := (48 : Int32)) hO dX5_putNumber_7 (by decide) ?_
    refine hz_iload_n hO dX5_putNumber_9 rfl 1 rfl ?_
    refine hz_bipush (v := (10 : Int32)) hO dX5_putNumber_10 (by decide) ?_
    refine hz_idiv hO dX5_putNumber_12 (by decide) ?_
    refine hz_iadd hO dX5_putNumber_13 ?_
    obtain ⟨r8, M9, hq10, h⟩ := hz_ct_e h
    refine hz_callVv (as := [.int ((48 : Int32) + (a1 / (10 : Int32)))]) (rest := []) hO (c_X5_put l w hN ((48 : Int32) + (a1 / (10 : Int32))) hq10) hz_cal_X5_put hz_K_3 hz_sh_176 (hz_lt_176 hN) tw_4_231 (Nat.le_of_ble_eq_true rfl) rfl rfl (Nat.le_of_ble_eq_true rfl) dX5_putNumber_14 ?_
    exact hz_ls [0, 1] rfl (gk6 a1 M9 h)
def f_X7_strainedAt_L4 : Nat → Int32 → Int32 → Int32 → hz_M → hz_O
  | 0, _, _, _, _ => none
  | n + 1, v1_1, v2_2, v3_3, M4 =>
    if (M4 1 3) ≤ v3_3 then
      some (v2_2, M4)
    else
      hz_gd (hz_in v3_3 16) <|
      hz_jn (fun (v1_7 : Int32) (v2_8 : Int32) (v3_9 : Int32) (M10 : hz_M) =>
        hz_lt (v3_9 + (1 : Int32)) fun x11 =>
        f_X7_strainedAt_L4 n v1_7 v2_8 x11 M10
        ) fun k12 =>
      if (M4 13 (Int32.toNatClampNeg v3_3)) = v1_1 then
        hz_ct (f_X7_temperature v1_1 M4) fun r14 M15 =>
        hz_ct (f_X3_bears v3_3 M15) fun r17 M18 =>
        if r14 ≤ r17 then
          k12 v1_1 v2_2 v3_3 M18
        else
          hz_lt (v2_2 + (1 : Int32)) fun x21 =>
          k12 v1_1 x21 v3_3 M18
      else
        k12 v1_1 v2_2 v3_3 M4
def f_X7_strainedAt (a1 : Int32) (M : hz_M) : hz_O :=
  f_X7_strainedAt_L4 hz_FU a1 (0 : Int32) (0 : Int32) M
set_option maxRecDepth 100000 in
set_option maxHeartbeats 4000000 in
theorem g_X7_strainedAt_L4 {p : Program} {l : Launch} {e : Env} {s : State} {m : MethodId} {args : Array Value} {below : List Frame} {meth : Method} {c : Code} {w : hz_C} {N : Nat} (hN : 178 ≤ N) {rE : Int32} {ME : hz_M} (hO : hz_Ok p s m args meth c w cX7_strainedAt 4 RX7 (some .int)) : ∀ (n : Nat) (v1_1 : Int32) (v2_2 : Int32) (v3_3 : Int32) (M4 : hz_M), f_X7_strainedAt_L4 n v1_1 v2_2 v3_3 M4 = some (rE, ME) → hz_G p l e 1 hz_z0 s m args below meth c w N 4 (MQ below (hz_Qi w N rE ME) args s 0 0 (hz_A w)) M4 4 [(0, .ref (hz_ad w 11)), (1, .int v1_1), (2, .int v2_2), (3, .int v3_3)] [] := by
  intro n
  induction n with
  | zero =>
    intro v1_1 v2_2 v3_3 M4 h
    rw [f_X7_strainedAt_L4] at h
    cases h
  | succ n ih =>
    intro v1_1 v2_2 v3_3 M4 h
    rw [f_X7_strainedAt_L4] at h
    refine hz_iload_n hO dX7_strainedAt_4 rfl 3 rfl ?_
    refine hz_aload_n hO dX7_strainedAt_5 rfl 0 rfl ?_
    refine hz_getR (k := 0) hO 1 hz_K_5 hz_sh_11 (hz_lt_11 hN) rfl (Nat.le_of_ble_eq_true rfl) tw_1_151 rfl dX7_strainedAt_6 ?_
    refine hz_getI (k := 3) hO hz_K_2 hz_sh_1 (hz_lt_1 hN) rfl (Nat.le_of_ble_eq_true rfl) tw_1_52 rfl dX7_strainedAt_9 ?_
    refine hz_icmp_ge (tgt := 50) hO dX7_strainedAt_12 (by decide) (fun hc5 => ?_) (fun hc5 => ?_)
    · rw [if_pos hc5] at h
      refine hz_iload_n hO dX7_strainedAt_50 rfl 2 rfl ?_
      exact hz_nameM (hz_some_e h).2.symm (hz_name (hz_some_e h).1.symm (hz_iret hO dX7_strainedAt_51))
    · rw [if_neg hc5] at h
      refine hz_aload_n hO dX7_strainedAt_15 rfl 0 rfl ?_
      refine hz_getR (k := 2) hO 13 hz_K_5 hz_sh_11 (hz_lt_11 hN) rfl (Nat.le_of_ble_eq_true rfl) tw_1_155 rfl dX7_strainedAt_16 ?_
      refine hz_iload_n hO dX7_strainedAt_19 rfl 3 rfl ?_
      obtain ⟨hg6, h⟩ := hz_gd_e h
      refine hz_iald hO hz_sh_13 (hz_lt_13 hN) hg6 dX7_strainedAt_20 ?_
      refine hz_iload_n hO dX7_strainedAt_21 rfl 1 rfl ?_
      obtain ⟨k12, hk12, h⟩ := hz_jn_e h
      have gk12 : ∀ (v1_7 : Int32) (v2_8 : Int32) (v3_9 : Int32) (M10 : hz_M), k12 v1_7 v2_8 v3_9 M10 = some (rE, ME) → hz_G p l e 1 hz_z0 s m args below meth c w N 4 (MQ below (hz_Qi w N rE ME) args s 0 0 (hz_A w)) M10 44 [(0, .ref (hz_ad w 11)), (1, .int v1_7), (2, .int v2_8), (3, .int v3_9)] [] := by
        intro v1_7 v2_8 v3_9 M10 h
        rw [hk12] at h
        dsimp only at h
        obtain ⟨x11, h_x11, h⟩ := hz_lt_e h
        refine hz_iinc (k := 3) (v := x11) (ls1 := [(3, .int x11), (0, .ref (hz_ad w 11)), (1, .int v1_7), (2, .int v2_8)]) hO dX7_strainedAt_44 rfl (by rw [h_x11]; rfl) (Nat.le_of_ble_eq_true rfl) rfl ?_
        refine hz_goto (tgt := 4) hO dX7_strainedAt_47 (by decide) ?_
        exact hz_ls [1, 2, 3, 0] rfl (ih v1_7 v2_8 x11 M10 h)
      clear hk12
      refine hz_icmp_ne (tgt := 44) hO dX7_strainedAt_22 (by decide) (fun hc13 => ?_) (fun hc13 => ?_)
      · rw [if_neg hc13] at h
        exact hz_ls [0, 1, 2, 3] rfl (gk12 v1_1 v2_2 v3_3 M4 h)
      · rw [if_pos hc13] at h
        refine hz_aload_n hO dX7_strainedAt_25 rfl 0 rfl ?_
        refine hz_iload_n hO dX7_strainedAt_26 rfl 1 rfl ?_
        obtain ⟨r14, M15, hq16, h⟩ := hz_ct_e h
        refine hz_callVi (as := [.int v1_1]) (rest := []) hO (c_X7_temperature l w hN v1_1 hq16) hz_cal_X7_temperature hz_K_5 hz_sh_11 (hz_lt_11 hN) tw_4_121 (Nat.le_of_ble_eq_true rfl) rfl rfl (Nat.le_of_ble_eq_true rfl) dX7_strainedAt_27 ?_
        refine hz_aload_n hO dX7_strainedAt_30 rfl 0 rfl ?_
        refine hz_getR (k := 0) hO 1 hz_K_5 hz_sh_11 (hz_lt_11 hN) rfl (Nat.le_of_ble_eq_true rfl) tw_1_151 rfl dX7_strainedAt_31 ?_
        refine hz_iload_n hO dX7_strainedAt_34 rfl 3 rfl ?_
        obtain ⟨r17, M18, hq19, h⟩ := hz_ct_e h
        refine hz_callVi (as := [.int v3_3]) (rest := [.int r14]) hO (c_X3_bears l w hN v3_3 hq19) hz_cal_X3_bears hz_K_2 hz_sh_1 (hz_lt_1 hN) tw_4_122 (Nat.le_of_ble_eq_true rfl) rfl rfl (Nat.le_of_ble_eq_true rfl) dX7_strainedAt_35 ?_
        refine hz_icmp_le (tgt := 44) hO dX7_strainedAt_38 (by decide) (fun hc20 => ?_) (fun hc20 => ?_)
        · rw [if_pos hc20] at h
          exact hz_ls [0, 1, 2, 3] rfl (gk12 v1_1 v2_2 v3_3 M18 h)
        · rw [if_neg hc20] at h
          obtain ⟨x21, h_x21, h⟩ := hz_lt_e h
          refine hz_iinc (k := 2) (v := x21) (ls1 := [(2, .int x21), (0, .ref (hz_ad w 11)), (1, .int v1_1), (3, .int v3_3)]) hO dX7_strainedAt_41 rfl (by rw [h_x21]; rfl) (Nat.le_of_ble_eq_true rfl) rfl ?_
          exact hz_ls [1, 2, 0, 3] rfl (gk12 v1_1 x21 v3_3 M18 h)
set_option maxRecDepth 100000 in
set_option maxHeartbeats 4000000 in
theorem c_X7_strainedAt (l : Launch) (w : hz_C) {N : Nat} (hN : 178 ≤ N) (a1 : Int32) {M : hz_M} {rE : Int32} {ME : hz_M} (h : f_X7_strainedAt a1 M = some (rE, ME)) : hz_Ct l yX7_strainedAt cX7_strainedAt 4 (some .int) 1 w N [.ref (hz_ad w 11), .int a1] M (hz_Qi w N rE ME) := by
  refine hz_ofW (by decide) rfl (Nat.le_of_ble_eq_true rfl) tw_5_172 ?_
  intro p e s m args below meth c hO
  show hz_G p l e 1 hz_z0 s m args below meth c w N 4 _ M 0 [(0, .ref (hz_ad w 11)), (1, .int a1)] []
  unfold f_X7_strainedAt at h
  refine hz_iconst (v := (0 : Int32)) hO dX7_strainedAt_0 (by decide) ?_
  refine hz_istore_n (ls1 := [(2, .int (0 : Int32)), (0, .ref (hz_ad w 11)), (1, .int a1)]) hO dX7_strainedAt_1 rfl (Nat.le_of_ble_eq_true rfl) rfl ?_
  refine hz_iconst (v := (0 : Int32)) hO dX7_strainedAt_2 (by decide) ?_
  refine hz_istore_n (ls1 := [(3, .int (0 : Int32)), (2, .int (0 : Int32)), (0, .ref (hz_ad w 11)), (1, .int a1)]) hO dX7_strainedAt_3 rfl (Nat.le_of_ble_eq_true rfl) rfl ?_
  exact hz_ls [2, 3, 1, 0] rfl (g_X7_strainedAt_L4 hN hO _ a1 (0 : Int32) (0 : Int32) M h)
def f_X7_pass_L61 (kk113 : Int32 → Int32 → Int32 → hz_M → hz_O) : Nat → Int32 → Int32 → Int32 → Int32 → hz_M → hz_O
  | 0, _, _, _, _, _ => none
  | n + 1, v1_31, v2_32, v3_33, v4_34, M35 =>
    if (M35 1 3) ≤ v4_34 then
      kk113 v1_31 v2_32 v3_33 M35
    else
      hz_ct (f_X7_strainGuest v4_34 M35) fun r37 M38 =>
      hz_gd (hz_in v4_34 16) <|
      hz_jn (fun (v1_41 : Int32) (v2_42 : Int32) (v3_43 : Int32) (v4_44 : Int32) (M45 : hz_M) =>
        hz_lt (v4_44 + (1 : Int32)) fun x46 =>
        f_X7_pass_L61 kk113 n v1_41 v2_42 v3_43 x46 M45
        ) fun k47 =>
      if (M38 16 (Int32.toNatClampNeg v4_34)) < (10 : Int32) then
        k47 v1_31 v2_32 v3_33 v4_34 M38
      else
        hz_gd (hz_in v4_34 16) <|
        if (M38 13 (Int32.toNatClampNeg v4_34)) ≤ 0 then
          k47 v1_31 v2_32 v3_33 v4_34 M38
        else
          hz_ct (f_X7_comeDown v4_34 M38) fun r51 M52 =>
          k47 v1_31 v2_32 v3_33 v4_34 M52
def f_X7_pass_L9 (kk119 : Int32 → hz_M → hz_O) : Nat → Int32 → Int32 → Int32 → hz_M → hz_O
  | 0, _, _, _, _ => none
  | n + 1, v1_5, v2_6, v3_7, M8 =>
    if v1_5 ≤ v3_7 then
      kk119 v2_6 M8
    else
      hz_lm (hz_set M8 11 14 ((M8 11 14) + (1 : Int32))) fun M10 =>
      hz_lm (hz_set M10 24 (Int32.toNatClampNeg (8 : Int32)) ((M10 24 (Int32.toNatClampNeg (8 : Int32))) + (1 : Int32))) fun M11 =>
      hz_ct (f_X7_soundGong M11) fun r12 M13 =>
      hz_ct (f_X7_steam M13) fun r15 M16 =>
      hz_ct (f_X7_heatBehind (M13 11 15) r15 M16) fun r18 M19 =>
      hz_lm (hz_set M19 11 15 r18) fun M21 =>
      hz_ct (f_X7_changeTowels M21) fun r22 M23 =>
      hz_jn (fun (v1_25 : Int32) (v2_26 : Int32) (v3_27 : Int32) (M28 : hz_M) =>
        hz_lt (v3_27 + (1 : Int32)) fun x29 =>
        f_X7_pass_L9 kk119 n v1_25 v2_26 x29 M28
        ) fun k30 =>
      f_X7_pass_L61 k30 hz_FU v1_5 v2_6 v3_7 (0 : Int32) M23
def f_X7_pass (a1 : Int32) (M : hz_M) : hz_O :=
  hz_lt ((M 24 (Int32.toNatClampNeg (4 : Int32)))) fun x1 =>
  hz_jn (fun (v2_2 : Int32) (M3 : hz_M) =>
    some (((M3 24 (Int32.toNatClampNeg (4 : Int32))) - v2_2), M3)
    ) fun k4 =>
  f_X7_pass_L9 k4 hz_FU a1 x1 (0 : Int32) M
set_option maxRecDepth 100000 in
set_option maxHeartbeats 4000000 in
theorem g_X7_pass_L61 {p : Program} {l : Launch} {e : Env} {s : State} {m : MethodId} {args : Array Value} {below : List Frame} {meth : Method} {c : Code} {w : hz_C} {N : Nat} (hN : 178 ≤ N) {rE : Int32} {ME : hz_M} (hO : hz_Ok p s m args meth c w cX7_pass 5 RX7 (some .int)) (kk113 : Int32 → Int32 → Int32 → hz_M → hz_O) (gkk113 : ∀ (v1_25 : Int32) (v2_26 : Int32) (v3_27 : Int32) (M : hz_M), kk113 v1_25 v2_26 v3_27 M = some (rE, ME) → hz_G p l e 3 hz_z0 s m args below meth c w N 5 (MQ below (hz_Qi w N rE ME) args s 0 0 (hz_A w)) M 113 [(0, .ref (hz_ad w 11)), (1, .int v1_25), (2, .int v2_26), (3, .int v3_27)] []) : ∀ (n : Nat) (v1_31 : Int32) (v2_32 : Int32) (v3_33 : Int32) (v4_34 : Int32) (M35 : hz_M), f_X7_pass_L61 kk113 n v1_31 v2_32 v3_33 v4_34 M35 = some (rE, ME) → hz_G p l e 3 hz_z0 s m args below meth c w N 5 (MQ below (hz_Qi w N rE ME) args s 0 0 (hz_A w)) M35 61 [(0, .ref (hz_ad w 11)), (1, .int v1_31), (2, .int v2_32), (3, .int v3_33), (4, .int v4_34)] [] := by
  intro n
  induction n with
  | zero =>
    intro v1_31 v2_32 v3_33 v4_34 M35 h
    rw [f_X7_pass_L61] at h
    cases h
  | succ n ih =>
    intro v1_31 v2_32 v3_33 v4_34 M35 h
    rw [f_X7_pass_L61] at h
    refine hz_iload hO dX7_pass_61 4 rfl ?_
    refine hz_aload_n hO dX7_pass_63 rfl 0 rfl ?_
    refine hz_getR (k := 0) hO 1 hz_K_5 hz_sh_11 (hz_lt_11 hN) rfl (Nat.le_of_ble_eq_true rfl) tw_1_151 rfl dX7_pass_64 ?_
    refine hz_getI (k := 3) hO hz_K_2 hz_sh_1 (hz_lt_1 hN) rfl (Nat.le_of_ble_eq_true rfl) tw_1_52 rfl dX7_pass_67 ?_
    refine hz_icmp_ge (tgt := 113) hO dX7_pass_70 (by decide) (fun hc36 => ?_) (fun hc36 => ?_)
    · rw [if_pos hc36] at h
      exact hz_ls [0, 1, 2, 3] rfl (gkk113 v1_31 v2_32 v3_33 M35 h)
    · rw [if_neg hc36] at h
      refine hz_aload_n hO dX7_pass_73 rfl 0 rfl ?_
      refine hz_iload hO dX7_pass_74 4 rfl ?_
      obtain ⟨r37, M38, hq39, h⟩ := hz_ct_e h
      refine hz_callVv (as := [.int v4_34]) (rest := []) hO (c_X7_strainGuest l w hN v4_34 hq39) hz_cal_X7_strainGuest hz_K_5 hz_sh_11 (hz_lt_11 hN) tw_4_117 (Nat.le_of_ble_eq_true rfl) rfl rfl (Nat.le_of_ble_eq_true rfl) dX7_pass_76 ?_
      refine hz_aload_n hO dX7_pass_79 rfl 0 rfl ?_
      refine hz_getR (k := 5) hO 16 hz_K_5 hz_sh_11 (hz_lt_11 hN) rfl (Nat.le_of_ble_eq_true rfl) tw_1_167 rfl dX7_pass_80 ?_
      refine hz_iload hO dX7_pass_83 4 rfl ?_
      obtain ⟨hg40, h⟩ := hz_gd_e h
      refine hz_iald hO hz_sh_16 (hz_lt_16 hN) hg40 dX7_pass_85 ?_
      refine hz_bipush (v := (10 : Int32)) hO dX7_pass_86 (by decide) ?_
      obtain ⟨k47, hk47, h⟩ := hz_jn_e h
      have gk47 : ∀ (v1_41 : Int32) (v2_42 : Int32) (v3_43 : Int32) (v4_44 : Int32) (M45 : hz_M), k47 v1_41 v2_42 v3_43 v4_44 M45 = some (rE, ME) → hz_G p l e 3 hz_z0 s m args below meth c w N 5 (MQ below (hz_Qi w N rE ME) args s 0 0 (hz_A w)) M45 107 [(0, .ref (hz_ad w 11)), (1, .int v1_41), (2, .int v2_42), (3, .int v3_43), (4, .int v4_44)] [] := by
        intro v1_41 v2_42 v3_43 v4_44 M45 h
        rw [hk47] at h
        dsimp only at h
        obtain ⟨x46, h_x46, h⟩ := hz_lt_e h
        refine hz_iinc (k := 4) (v := x46) (ls1 := [(4, .int x46), (0, .ref (hz_ad w 11)), (1, .int v1_41), (2, .int v2_42), (3, .int v3_43)]) hO dX7_pass_107 rfl (by rw [h_x46]; rfl) (Nat.le_of_ble_eq_true rfl) rfl ?_
        refine hz_goto (tgt := 61) hO dX7_pass_110 (by decide) ?_
        exact hz_ls [1, 2, 3, 4, 0] rfl (ih v1_41 v2_42 v3_43 x46 M45 h)
      clear hk47
      refine hz_icmp_lt (tgt := 107) hO dX7_pass_88 (by decide) (fun hc48 => ?_) (fun hc48 => ?_)
      · rw [if_pos hc48] at h
        exact hz_ls [0, 1, 2, 3, 4] rfl (gk47 v1_31 v2_32 v3_33 v4_34 M38 h)
      · rw [if_neg hc48] at h
        refine hz_aload_n hO dX7_pass_91 rfl 0 rfl ?_
        refine hz_getR (k := 2) hO 13 hz_K_5 hz_sh_11 (hz_lt_11 hN) rfl (Nat.le_of_ble_eq_true rfl) tw_1_155 rfl dX7_pass_92 ?_
        refine hz_iload hO dX7_pass_95 4 rfl ?_
        obtain ⟨hg49, h⟩ := hz_gd_e h
        refine hz_iald hO hz_sh_13 (hz_lt_13 hN) hg49 dX7_pass_97 ?_
        refine hz_if_le (tgt := 107) hO dX7_pass_98 (by decide) (fun hc50 => ?_) (fun hc50 => ?_)
        · rw [if_pos hc50] at h
          exact hz_ls [0, 1, 2, 3, 4] rfl (gk47 v1_31 v2_32 v3_33 v4_34 M38 h)
        · rw [if_neg hc50] at h
          refine hz_aload_n hO dX7_pass_101 rfl 0 rfl ?_
          refine hz_iload hO dX7_pass_102 4 rfl ?_
          obtain ⟨r51, M52, hq53, h⟩ := hz_ct_e h
          refine hz_callVv (as := [.int v4_34]) (rest := []) hO (c_X7_comeDown l w hN v4_34 hq53) hz_cal_X7_comeDown hz_K_5 hz_sh_11 (hz_lt_11 hN) tw_4_129 (Nat.le_of_ble_eq_true rfl) rfl rfl (Nat.le_of_ble_eq_true rfl) dX7_pass_104 ?_
          exact hz_ls [0, 1, 2, 3, 4] rfl (gk47 v1_31 v2_32 v3_33 v4_34 M52 h)
set_option maxRecDepth 100000 in
set_option maxHeartbeats 4000000 in
theorem g_X7_pass_L9 {p : Program} {l : Launch} {e : Env} {s : State} {m : MethodId} {args : Array Value} {below : List Frame} {meth : Method} {c : Code} {w : hz_C} {N : Nat} (hN : 178 ≤ N) {rE : Int32} {ME : hz_M} (hO : hz_Ok p s m args meth c w cX7_pass 5 RX7 (some .int)) (kk119 : Int32 → hz_M → hz_O) (gkk119 : ∀ (v2_2 : Int32) (M : hz_M), kk119 v2_2 M = some (rE, ME) → hz_G p l e 3 hz_z0 s m args below meth c w N 5 (MQ below (hz_Qi w N rE ME) args s 0 0 (hz_A w)) M 119 [(0, .ref (hz_ad w 11)), (2, .int v2_2)] []) : ∀ (n : Nat) (v1_5 : Int32) (v2_6 : Int32) (v3_7 : Int32) (M8 : hz_M), f_X7_pass_L9 kk119 n v1_5 v2_6 v3_7 M8 = some (rE, ME) → hz_G p l e 3 hz_z0 s m args below meth c w N 5 (MQ below (hz_Qi w N rE ME) args s 0 0 (hz_A w)) M8 9 [(0, .ref (hz_ad w 11)), (1, .int v1_5), (2, .int v2_6), (3, .int v3_7)] [] := by
  intro n
  induction n with
  | zero =>
    intro v1_5 v2_6 v3_7 M8 h
    rw [f_X7_pass_L9] at h
    cases h
  | succ n ih =>
    intro v1_5 v2_6 v3_7 M8 h
    rw [f_X7_pass_L9] at h
    refine hz_iload_n hO dX7_pass_9 rfl 3 rfl ?_
    refine hz_iload_n hO dX7_pass_10 rfl 1 rfl ?_
    refine hz_icmp_ge (tgt := 119) hO dX7_pass_11 (by decide) (fun hc9 => ?_) (fun hc9 => ?_)
    · rw [if_pos hc9] at h
      exact hz_ls [0, 2] rfl (gkk119 v2_6 M8 h)
    · rw [if_neg hc9] at h
      refine hz_aload_n hO dX7_pass_14 rfl 0 rfl ?_
      refine hz_dup hO dX7_pass_15 rfl ?_
      refine hz_getI (k := 14) hO hz_K_5 hz_sh_11 (hz_lt_11 hN) rfl (Nat.le_of_ble_eq_true rfl) tw_1_196 rfl dX7_pass_16 ?_
      refine hz_iconst (v := (1 : Int32)) hO dX7_pass_19 (by decide) ?_
      refine hz_iadd hO dX7_pass_20 ?_
      obtain ⟨M10, h_M10, h⟩ := hz_lm_e h
      refine hz_putI (k := 14) (ty := .int) hO hz_K_5 tyX7_ok nmX7 hz_sh_11 (hz_lt_11 hN) rfl (Nat.le_of_ble_eq_true rfl) tw_1_196 rfl rfl rfl rfl rfl dX7_pass_21 ?_
      refine hz_nameM h_M10 ?_
      refine hz_aload_n hO dX7_pass_24 rfl 0 rfl ?_
      refine hz_getR (k := 13) hO 24 hz_K_5 hz_sh_11 (hz_lt_11 hN) rfl (Nat.le_of_ble_eq_true rfl) tw_1_193 rfl dX7_pass_25 ?_
      refine hz_bipush (v := (8 : Int32)) hO dX7_pass_28 (by decide) ?_
      refine hz_dup2 hO dX7_pass_30 rfl rfl ?_
      refine hz_iald hO hz_sh_24 (hz_lt_24 hN) (by decide) dX7_pass_31 ?_
      refine hz_iconst (v := (1 : Int32)) hO dX7_pass_32 (by decide) ?_
      refine hz_iadd hO dX7_pass_33 ?_
      obtain ⟨M11, h_M11, h⟩ := hz_lm_e h
      refine hz_iast hO hz_sh_24 (hz_lt_24 hN) (by decide) dX7_pass_34 ?_
      refine hz_nameM h_M11 ?_
      refine hz_aload_n hO dX7_pass_35 rfl 0 rfl ?_
      obtain ⟨r12, M13, hq14, h⟩ := hz_ct_e h
      refine hz_callVv (as := []) (rest := []) hO (c_X7_soundGong l w hN hq14) hz_cal_X7_soundGong hz_K_5 hz_sh_11 (hz_lt_11 hN) tw_4_95 (Nat.le_of_ble_eq_true rfl) rfl rfl (Nat.le_of_ble_eq_true rfl) dX7_pass_36 ?_
      refine hz_aload_n hO dX7_pass_39 rfl 0 rfl ?_
      refine hz_aload_n hO dX7_pass_40 rfl 0 rfl ?_
      refine hz_getI (k := 15) hO hz_K_5 hz_sh_11 (hz_lt_11 hN) rfl (Nat.le_of_ble_eq_true rfl) tw_1_199 rfl dX7_pass_41 ?_
      refine hz_aload_n hO dX7_pass_44 rfl 0 rfl ?_
      obtain ⟨r15, M16, hq17, h⟩ := hz_ct_e h
      refine hz_callVi (as := []) (rest := [.int (M13 11 15), .ref (hz_ad w 11)]) hO (c_X7_steam l w hN hq17) hz_cal_X7_steam hz_K_5 hz_sh_11 (hz_lt_11 hN) tw_4_99 (Nat.le_of_ble_eq_true rfl) rfl rfl (Nat.le_of_ble_eq_true rfl) dX7_pass_45 ?_
      obtain ⟨r18, M19, hq20, h⟩ := hz_ct_e h
      refine hz_callSi (as := [.int (M13 11 15), .int r15]) (rest := [.ref (hz_ad w 11)]) hO (c_X7_heatBehind l w hN (M13 11 15) r15 hq20) hz_cal_X7_heatBehind tw_4_103 (Nat.le_of_ble_eq_true rfl) rfl rfl (Nat.le_of_ble_eq_true rfl) dX7_pass_48 ?_
      obtain ⟨M21, h_M21, h⟩ := hz_lm_e h
      refine hz_putI (k := 15) (ty := .int) hO hz_K_5 tyX7_ok nmX7 hz_sh_11 (hz_lt_11 hN) rfl (Nat.le_of_ble_eq_true rfl) tw_1_199 rfl rfl rfl rfl rfl dX7_pass_51 ?_
      refine hz_nameM h_M21 ?_
      refine hz_aload_n hO dX7_pass_54 rfl 0 rfl ?_
      obtain ⟨r22, M23, hq24, h⟩ := hz_ct_e h
      refine hz_callVv (as := []) (rest := []) hO (c_X7_changeTowels l w hN hq24) hz_cal_X7_changeTowels hz_K_5 hz_sh_11 (hz_lt_11 hN) tw_4_109 (Nat.le_of_ble_eq_true rfl) rfl rfl (Nat.le_of_ble_eq_true rfl) dX7_pass_55 ?_
      refine hz_iconst (v := (0 : Int32)) hO dX7_pass_58 (by decide) ?_
      refine hz_istore (ls1 := [(4, .int (0 : Int32)), (0, .ref (hz_ad w 11)), (1, .int v1_5), (2, .int v2_6), (3, .int v3_7)]) hO dX7_pass_59 (Nat.le_of_ble_eq_true rfl) rfl ?_
      obtain ⟨k30, hk30, h⟩ := hz_jn_e h
      have gk30 : ∀ (v1_25 : Int32) (v2_26 : Int32) (v3_27 : Int32) (M28 : hz_M), k30 v1_25 v2_26 v3_27 M28 = some (rE, ME) → hz_G p l e 3 hz_z0 s m args below meth c w N 5 (MQ below (hz_Qi w N rE ME) args s 0 0 (hz_A w)) M28 113 [(0, .ref (hz_ad w 11)), (1, .int v1_25), (2, .int v2_26), (3, .int v3_27)] [] := by
        intro v1_25 v2_26 v3_27 M28 h
        rw [hk30] at h
        dsimp only at h
        obtain ⟨x29, h_x29, h⟩ := hz_lt_e h
        refine hz_iinc (k := 3) (v := x29) (ls1 := [(3, .int x29), (0, .ref (hz_ad w 11)), (1, .int v1_25), (2, .int v2_26)]) hO dX7_pass_113 rfl (by rw [h_x29]; rfl) (Nat.le_of_ble_eq_true rfl) rfl ?_
        refine hz_goto (tgt := 9) hO dX7_pass_116 (by decide) ?_
        exact hz_ls [1, 2, 3, 0] rfl (ih v1_25 v2_26 x29 M28 h)
      clear hk30
      exact hz_ls [1, 2, 3, 4, 0] rfl (g_X7_pass_L61 hN hO _ gk30 _ v1_5 v2_6 v3_7 (0 : Int32) M23 h)
set_option maxRecDepth 100000 in
set_option maxHeartbeats 4000000 in
theorem c_X7_pass (l : Launch) (w : hz_C) {N : Nat} (hN : 178 ≤ N) (a1 : Int32) {M : hz_M} {rE : Int32} {ME : hz_M} (h : f_X7_pass a1 M = some (rE, ME)) : hz_Ct l yX7_pass cX7_pass 5 (some .int) 3 w N [.ref (hz_ad w 11), .int a1] M (hz_Qi w N rE ME) := by
  refine hz_ofW (by decide) rfl (Nat.le_of_ble_eq_true rfl) tw_4_94 ?_
  intro p e s m args below meth c hO
  show hz_G p l e 3 hz_z0 s m args below meth c w N 5 _ M 0 [(0, .ref (hz_ad w 11)), (1, .int a1)] []
  unfold f_X7_pass at h
  refine hz_aload_n hO dX7_pass_0 rfl 0 rfl ?_
  refine hz_getR (k := 13) hO 24 hz_K_5 hz_sh_11 (hz_lt_11 hN) rfl (Nat.le_of_ble_eq_true rfl) tw_1_193 rfl dX7_pass_1 ?_
  refine hz_iconst (v := (4 : Int32)) hO dX7_pass_4 (by decide) ?_
  refine hz_iald hO hz_sh_24 (hz_lt_24 hN) (by decide) dX7_pass_5 ?_
  obtain ⟨x1, h_x1, h⟩ := hz_lt_e h
  refine hz_name h_x1 ?_
  refine hz_istore_n (ls1 := [(2, .int x1), (0, .ref (hz_ad w 11)), (1, .int a1)]) hO dX7_pass_6 rfl (Nat.le_of_ble_eq_true rfl) rfl ?_
  refine hz_iconst (v := (0 : Int32)) hO dX7_pass_7 (by decide) ?_
  refine hz_istore_n (ls1 := [(3, .int (0 : Int32)), (2, .int x1), (0, .ref (hz_ad w 11)), (1, .int a1)]) hO dX7_pass_8 rfl (Nat.le_of_ble_eq_true rfl) rfl ?_
  obtain ⟨k4, hk4, h⟩ := hz_jn_e h
  have gk4 : ∀ (v2_2 : Int32) (M3 : hz_M), k4 v2_2 M3 = some (rE, ME) → hz_G p l e 3 hz_z0 s m args below meth c w N 5 (MQ below (hz_Qi w N rE ME) args s 0 0 (hz_A w)) M3 119 [(0, .ref (hz_ad w 11)), (2, .int v2_2)] [] := by
    intro v2_2 M3 h
    rw [hk4] at h
    dsimp only at h
    refine hz_aload_n hO dX7_pass_119 rfl 0 rfl ?_
    refine hz_getR (k := 13) hO 24 hz_K_5 hz_sh_11 (hz_lt_11 hN) rfl (Nat.le_of_ble_eq_true rfl) tw_1_193 rfl dX7_pass_120 ?_
    refine hz_iconst (v := (4 : Int32)) hO dX7_pass_123 (by decide) ?_
    refine hz_iald hO hz_sh_24 (hz_lt_24 hN) (by decide) dX7_pass_124 ?_
    refine hz_iload_n hO dX7_pass_125 rfl 1 rfl ?_
    refine hz_isub hO dX7_pass_126 ?_
    exact hz_nameM (hz_some_e h).2.symm (hz_name (hz_some_e h).1.symm (hz_iret hO dX7_pass_127))
  clear hk4
  exact hz_ls [2, 3, 1, 0] rfl (g_X7_pass_L9 hN hO _ gk4 _ a1 x1 (0 : Int32) M h)
def f_X5_putGuestsAt_L11 : Nat → Int32 → Int32 → Int32 → hz_M → hz_O
  | 0, _, _, _, _ => none
  | n + 1, v2_4, v3_5, v4_6, M7 =>
    if (M7 1 3) ≤ v4_6 then
      some (0, M7)
    else
      hz_gd (hz_in v4_6 16) <|
      hz_jn (fun (v2_10 : Int32) (v3_11 : Int32) (v4_12 : Int32) (M13 : hz_M) =>
        hz_lt (v4_12 + (1 : Int32)) fun x14 =>
        f_X5_putGuestsAt_L11 n v2_10 v3_11 x14 M13
        ) fun k15 =>
      if (M7 13 (Int32.toNatClampNeg v4_6)) = v2_4 then
        hz_jn (fun (v2_17 : Int32) (v4_18 : Int32) (M19 : hz_M) =>
          hz_ct (f_X5_putName v4_18 M19) fun r20 M21 =>
          k15 v2_17 (0 : Int32) v4_18 M21
          ) fun k23 =>
        if v3_5 = 0 then
          hz_ct (f_X5_put (44 : Int32) M7) fun r25 M26 =>
          k23 v2_4 v4_6 M26
        else
          k23 v2_4 v4_6 M7
      else
        k15 v2_4 v3_5 v4_6 M7
def f_X5_putGuestsAt (a2 : Int32) (M : hz_M) : hz_O :=
  hz_ct (f_X5_put (58 : Int32) M) fun r1 M2 =>
  f_X5_putGuestsAt_L11 hz_FU a2 (1 : Int32) (0 : Int32) M2
set_option maxRecDepth 100000 in
set_option maxHeartbeats 4000000 in
theorem g_X5_putGuestsAt_L11 {p : Program} {l : Launch} {e : Env} {s : State} {m : MethodId} {args : Array Value} {below : List Frame} {meth : Method} {c : Code} {w : hz_C} {N : Nat} (hN : 178 ≤ N) {rE : Int32} {ME : hz_M} (hO : hz_Ok p s m args meth c w cX5_putGuestsAt 5 RX5 none) : ∀ (n : Nat) (v2_4 : Int32) (v3_5 : Int32) (v4_6 : Int32) (M7 : hz_M), f_X5_putGuestsAt_L11 n v2_4 v3_5 v4_6 M7 = some (rE, ME) → hz_G p l e 3 hz_z0 s m args below meth c w N 5 (MQ below (hz_Qv w N ME) args s 0 0 (hz_A w)) M7 11 [(0, .ref (hz_ad w 176)), (1, .ref (hz_ad w 11)), (2, .int v2_4), (3, .int v3_5), (4, .int v4_6)] [] := by
  intro n
  induction n with
  | zero =>
    intro v2_4 v3_5 v4_6 M7 h
    rw [f_X5_putGuestsAt_L11] at h
    cases h
  | succ n ih =>
    intro v2_4 v3_5 v4_6 M7 h
    rw [f_X5_putGuestsAt_L11] at h
    refine hz_iload hO dX5_putGuestsAt_11 4 rfl ?_
    refine hz_aload_n hO dX5_putGuestsAt_13 rfl 0 rfl ?_
    refine hz_getR (k := 0) hO 1 hz_K_3 hz_sh_176 (hz_lt_176 hN) rfl (Nat.le_of_ble_eq_true rfl) tw_2_114 rfl dX5_putGuestsAt_14 ?_
    refine hz_getI (k := 3) hO hz_K_2 hz_sh_1 (hz_lt_1 hN) rfl (Nat.le_of_ble_eq_true rfl) tw_1_50 rfl dX5_putGuestsAt_17 ?_
    refine hz_icmp_ge (tgt := 58) hO dX5_putGuestsAt_20 (by decide) (fun hc8 => ?_) (fun hc8 => ?_)
    · rw [if_pos hc8] at h
      exact hz_nameM (hz_some_e h).2.symm (hz_vret hO dX5_putGuestsAt_58)
    · rw [if_neg hc8] at h
      refine hz_aload_n hO dX5_putGuestsAt_23 rfl 1 rfl ?_
      refine hz_getR (k := 2) hO 13 hz_K_5 hz_sh_11 (hz_lt_11 hN) rfl (Nat.le_of_ble_eq_true rfl) tw_1_157 rfl dX5_putGuestsAt_24 ?_
      refine hz_iload hO dX5_putGuestsAt_27 4 rfl ?_
      obtain ⟨hg9, h⟩ := hz_gd_e h
      refine hz_iald hO hz_sh_13 (hz_lt_13 hN) hg9 dX5_putGuestsAt_29 ?_
      refine hz_iload_n hO dX5_putGuestsAt_30 rfl 2 rfl ?_
      obtain ⟨k15, hk15, h⟩ := hz_jn_e h
      have gk15 : ∀ (v2_10 : Int32) (v3_11 : Int32) (v4_12 : Int32) (M13 : hz_M), k15 v2_10 v3_11 v4_12 M13 = some (rE, ME) → hz_G p l e 3 hz_z0 s m args below meth c w N 5 (MQ below (hz_Qv w N ME) args s 0 0 (hz_A w)) M13 52 [(0, .ref (hz_ad w 176)), (1, .ref (hz_ad w 11)), (2, .int v2_10), (3, .int v3_11), (4, .int v4_12)] [] := by
        intro v2_10 v3_11 v4_12 M13 h
        rw [hk15] at h
        dsimp only at h
        obtain ⟨x14, h_x14, h⟩ := hz_lt_e h
        refine hz_iinc (k := 4) (v := x14) (ls1 := [(4, .int x14), (0, .ref (hz_ad w 176)), (1, .ref (hz_ad w 11)), (2, .int v2_10), (3, .int v3_11)]) hO dX5_putGuestsAt_52 rfl (by rw [h_x14]; rfl) (Nat.le_of_ble_eq_true rfl) rfl ?_
        refine hz_goto (tgt := 11) hO dX5_putGuestsAt_55 (by decide) ?_
        exact hz_ls [1, 2, 3, 4, 0] rfl (ih v2_10 v3_11 x14 M13 h)
      clear hk15
      refine hz_icmp_ne (tgt := 52) hO dX5_putGuestsAt_31 (by decide) (fun hc16 => ?_) (fun hc16 => ?_)
      · rw [if_neg hc16] at h
        exact hz_ls [0, 1, 2, 3, 4] rfl (gk15 v2_4 v3_5 v4_6 M7 h)
      · rw [if_pos hc16] at h
        refine hz_iload_n hO dX5_putGuestsAt_34 rfl 3 rfl ?_
        obtain ⟨k23, hk23, h⟩ := hz_jn_e h
        have gk23 : ∀ (v2_17 : Int32) (v4_18 : Int32) (M19 : hz_M), k23 v2_17 v4_18 M19 = some (rE, ME) → hz_G p l e 3 hz_z0 s m args below meth c w N 5 (MQ below (hz_Qv w N ME) args s 0 0 (hz_A w)) M19 44 [(0, .ref (hz_ad w 176)), (1, .ref (hz_ad w 11)), (2, .int v2_17), (4, .int v4_18)] [] := by
          intro v2_17 v4_18 M19 h
          rw [hk23] at h
          dsimp only at h
          refine hz_iconst (v := (0 : Int32)) hO dX5_putGuestsAt_44 (by decide) ?_
          refine hz_istore_n (ls1 := [(3, .int (0 : Int32)), (0, .ref (hz_ad w 176)), (1, .ref (hz_ad w 11)), (2, .int v2_17), (4, .int v4_18)]) hO dX5_putGuestsAt_45 rfl (Nat.le_of_ble_eq_true rfl) rfl ?_
          refine hz_aload_n hO dX5_putGuestsAt_46 rfl 1 rfl ?_
          refine hz_iload hO dX5_putGuestsAt_47 4 rfl ?_
          obtain ⟨r20, M21, hq22, h⟩ := hz_ct_e h
          refine hz_callVv (as := [.int v4_18]) (rest := []) hO (c_X5_putName l w hN v4_18 hq22) hz_cal_X5_putName hz_K_3 hz_sh_176 (hz_lt_176 hN) tw_4_239 (Nat.le_of_ble_eq_true rfl) rfl rfl (Nat.le_of_ble_eq_true rfl) dX5_putGuestsAt_49 ?_
          exact hz_ls [1, 2, 3, 0, 4] rfl (gk15 v2_17 (0 : Int32) v4_18 M21 h)
        clear hk23
        refine hz_if_ne (tgt := 44) hO dX5_putGuestsAt_35 (by decide) (fun hc24 => ?_) (fun hc24 => ?_)
        · rw [if_neg hc24] at h
          exact hz_ls [0, 1, 2, 4] rfl (gk23 v2_4 v4_6 M7 h)
        · rw [if_pos hc24] at h
          refine hz_aload_n hO dX5_putGuestsAt_38 rfl 0 rfl ?_
          refine hz_bipush (v := (44 : Int32)) hO dX5_putGuestsAt_39 (by decide) ?_
          obtain ⟨r25, M26, hq27, h⟩ := hz_ct_e h
          refine hz_callVv (as := [.int (44 : Int32)]) (rest := []) hO (c_X5_put l w hN (44 : Int32) hq27) hz_cal_X5_put hz_K_3 hz_sh_176 (hz_lt_176 hN) tw_4_231 (Nat.le_of_ble_eq_true rfl) rfl rfl (Nat.le_of_ble_eq_true rfl) dX5_putGuestsAt_41 ?_
          exact hz_ls [0, 1, 2, 4] rfl (gk23 v2_4 v4_6 M26 h)
set_option maxRecDepth 100000 in
set_option maxHeartbeats 4000000 in
theorem c_X5_putGuestsAt (l : Launch) (w : hz_C) {N : Nat} (hN : 178 ≤ N) (a2 : Int32) {M : hz_M} {rE : Int32} {ME : hz_M} (h : f_X5_putGuestsAt a2 M = some (rE, ME)) : hz_Ct l yX5_putGuestsAt cX5_putGuestsAt 5 none 3 w N [.ref (hz_ad w 176), .ref (hz_ad w 11), .int a2] M (hz_Qv w N ME) := by
  refine hz_ofW (by decide) rfl (Nat.le_of_ble_eq_true rfl) tw_4_238 ?_
  intro p e s m args below meth c hO
  show hz_G p l e 3 hz_z0 s m args below meth c w N 5 _ M 0 [(0, .ref (hz_ad w 176)), (1, .ref (hz_ad w 11)), (2, .int a2)] []
  unfold f_X5_putGuestsAt at h
  refine hz_aload_n hO dX5_putGuestsAt_0 rfl 0 rfl ?_
  refine hz_bipush (v := (58 : Int32)) hO dX5_putGuestsAt_1 (by decide) ?_
  obtain ⟨r1, M2, hq3, h⟩ := hz_ct_e h
  refine hz_callVv (as := [.int (58 : Int32)]) (rest := []) hO (c_X5_put l w hN (58 : Int32) hq3) hz_cal_X5_put hz_K_3 hz_sh_176 (hz_lt_176 hN) tw_4_231 (Nat.le_of_ble_eq_true rfl) rfl rfl (Nat.le_of_ble_eq_true rfl) dX5_putGuestsAt_3 ?_
  refine hz_iconst (v := (1 : Int32)) hO dX5_putGuestsAt_6 (by decide) ?_
  refine hz_istore_n (ls1 := [(3, .int (1 : Int32)), (0, .ref (hz_ad w 176)), (1, .ref (hz_ad w 11)), (2, .int a2)]) hO dX5_putGuestsAt_7 rfl (Nat.le_of_ble_eq_true rfl) rfl ?_
  refine hz_iconst (v := (0 : Int32)) hO dX5_putGuestsAt_8 (by decide) ?_
  refine hz_istore (ls1 := [(4, .int (0 : Int32)), (3, .int (1 : Int32)), (0, .ref (hz_ad w 176)), (1, .ref (hz_ad w 11)), (2, .int a2)]) hO dX5_putGuestsAt_9 (Nat.le_of_ble_eq_true rfl) rfl ?_
  exact hz_ls [2, 3, 4, 1, 0] rfl (g_X5_putGuestsAt_L11 hN hO _ a2 (1 : Int32) (0 : Int32) M2 h)
def f_X5_putPegs_L8 : Nat → Int32 → hz_M → hz_O
  | 0, _, _ => none
  | n + 1, v2_4, M5 =>
    if (M5 1 5) ≤ v2_4 then
      some (0, M5)
    else
      hz_jn (fun (v2_7 : Int32) (M8 : hz_M) =>
        hz_gd (hz_in v2_7 16) <|
        hz_jn (fun (v2_10 : Int32) (M11 : hz_M) =>
          hz_lt (v2_10 + (1 : Int32)) fun x12 =>
          f_X5_putPegs_L8 n x12 M11
          ) fun k13 =>
        if (M8 23 (Int32.toNatClampNeg v2_7)) = (-1 : Int32) then
          hz_ct (f_X5_put (45 : Int32) M8) fun r19 M20 =>
          k13 v2_7 M20
        else
          hz_gd (hz_in v2_7 16) <|
          hz_ct (f_X5_putNumber (M8 23 (Int32.toNatClampNeg v2_7)) M8) fun r16 M17 =>
          k13 v2_7 M17
        ) fun k22 =>
      if v2_4 ≤ 0 then
        k22 v2_4 M5
      else
        hz_ct (f_X5_put (44 : Int32) M5) fun r24 M25 =>
        k22 v2_4 M25
def f_X5_putPegs (M : hz_M) : hz_O :=
  hz_ct (f_X5_put (58 : Int32) M) fun r1 M2 =>
  f_X5_putPegs_L8 hz_FU (0 : Int32) M2
set_option maxRecDepth 100000 in
set_option maxHeartbeats 4000000 in
theorem g_X5_putPegs_L8 {p : Program} {l : Launch} {e : Env} {s : State} {m : MethodId} {args : Array Value} {below : List Frame} {meth : Method} {c : Code} {w : hz_C} {N : Nat} (hN : 178 ≤ N) {rE : Int32} {ME : hz_M} (hO : hz_Ok p s m args meth c w cX5_putPegs 3 RX5 none) : ∀ (n : Nat) (v2_4 : Int32) (M5 : hz_M), f_X5_putPegs_L8 n v2_4 M5 = some (rE, ME) → hz_G p l e 2 hz_z0 s m args below meth c w N 3 (MQ below (hz_Qv w N ME) args s 0 0 (hz_A w)) M5 8 [(0, .ref (hz_ad w 176)), (1, .ref (hz_ad w 11)), (2, .int v2_4)] [] := by
  intro n
  induction n with
  | zero =>
    intro v2_4 M5 h
    rw [f_X5_putPegs_L8] at h
    cases h
  | succ n ih =>
    intro v2_4 M5 h
    rw [f_X5_putPegs_L8] at h
    refine hz_iload_n hO dX5_putPegs_8 rfl 2 rfl ?_
    refine hz_aload_n hO dX5_putPegs_9 rfl 0 rfl ?_
    refine hz_getR (k := 0) hO 1 hz_K_3 hz_sh_176 (hz_lt_176 hN) rfl (Nat.le_of_ble_eq_true rfl) tw_2_114 rfl dX5_putPegs_10 ?_
    refine hz_getI (k := 5) hO hz_K_2 hz_sh_1 (hz_lt_1 hN) rfl (Nat.le_of_ble_eq_true rfl) tw_1_58 rfl dX5_putPegs_13 ?_
    refine hz_icmp_ge (tgt := 64) hO dX5_putPegs_16 (by decide) (fun hc6 => ?_) (fun hc6 => ?_)
    · rw [if_pos hc6] at h
      exact hz_nameM (hz_some_e h).2.symm (hz_vret hO dX5_putPegs_64)
    · rw [if_neg hc6] at h
      refine hz_iload_n hO dX5_putPegs_19 rfl 2 rfl ?_
      obtain ⟨k22, hk22, h⟩ := hz_jn_e h
      have gk22 : ∀ (v2_7 : Int32) (M8 : hz_M), k22 v2_7 M8 = some (rE, ME) → hz_G p l e 2 hz_z0 s m args below meth c w N 3 (MQ below (hz_Qv w N ME) args s 0 0 (hz_A w)) M8 29 [(0, .ref (hz_ad w 176)), (1, .ref (hz_ad w 11)), (2, .int v2_7)] [] := by
        intro v2_7 M8 h
        rw [hk22] at h
        dsimp only at h
        refine hz_aload_n hO dX5_putPegs_29 rfl 1 rfl ?_
        refine hz_getR (k := 12) hO 23 hz_K_5 hz_sh_11 (hz_lt_11 hN) rfl (Nat.le_of_ble_eq_true rfl) tw_1_189 rfl dX5_putPegs_30 ?_
        refine hz_iload_n hO dX5_putPegs_33 rfl 2 rfl ?_
        obtain ⟨hg9, h⟩ := hz_gd_e h
        refine hz_iald hO hz_sh_23 (hz_lt_23 hN) hg9 dX5_putPegs_34 ?_
        refine hz_iconst (v := (-1 : Int32)) hO dX5_putPegs_35 (by decide) ?_
        obtain ⟨k13, hk13, h⟩ := hz_jn_e h
        have gk13 : ∀ (v2_10 : Int32) (M11 : hz_M), k13 v2_10 M11 = some (rE, ME) → hz_G p l e 2 hz_z0 s m args below meth c w N 3 (MQ below (hz_Qv w N ME) args s 0 0 (hz_A w)) M11 58 [(0, .ref (hz_ad w 176)), (1, .ref (hz_ad w 11)), (2, .int v2_10)] [] := by
          intro v2_10 M11 h
          rw [hk13] at h
          dsimp only at h
          obtain ⟨x12, h_x12, h⟩ := hz_lt_e h
          refine hz_iinc (k := 2) (v := x12) (ls1 := [(2, .int x12), (0, .ref (hz_ad w 176)), (1, .ref (hz_ad w 11))]) hO dX5_putPegs_58 rfl (by rw [h_x12]; rfl) (Nat.le_of_ble_eq_true rfl) rfl ?_
          refine hz_goto (tgt := 8) hO dX5_putPegs_61 (by decide) ?_
          exact hz_ls [1, 2, 0] rfl (ih x12 M11 h)
        clear hk13
        refine hz_icmp_ne (tgt := 48) hO dX5_putPegs_36 (by decide) (fun hc14 => ?_) (fun hc14 => ?_)
        · rw [if_neg hc14] at h
          refine hz_aload_n hO dX5_putPegs_48 rfl 0 rfl ?_
          refine hz_aload_n hO dX5_putPegs_49 rfl 1 rfl ?_
          refine hz_getR (k := 12) hO 23 hz_K_5 hz_sh_11 (hz_lt_11 hN) rfl (Nat.le_of_ble_eq_true rfl) tw_1_189 rfl dX5_putPegs_50 ?_
          refine hz_iload_n hO dX5_putPegs_53 rfl 2 rfl ?_
          obtain ⟨hg15, h⟩ := hz_gd_e h
          refine hz_iald hO hz_sh_23 (hz_lt_23 hN) hg15 dX5_putPegs_54 ?_
          obtain ⟨r16, M17, hq18, h⟩ := hz_ct_e h
          refine hz_callVv (as := [.int (M8 23 (Int32.toNatClampNeg v2_7))]) (rest := []) hO (c_X5_putNumber l w hN (M8 23 (Int32.toNatClampNeg v2_7)) hq18) hz_cal_X5_putNumber hz_K_3 hz_sh_176 (hz_lt_176 hN) tw_4_227 (Nat.le_of_ble_eq_true rfl) rfl rfl (Nat.le_of_ble_eq_true rfl) dX5_putPegs_55 ?_
          exact hz_ls [0, 1, 2] rfl (gk13 v2_7 M17 h)
        · rw [if_pos hc14] at h
          refine hz_aload_n hO dX5_putPegs_39 rfl 0 rfl ?_
          refine hz_bipush (v := (45 : Int32)) hO dX5_putPegs_40 (by decide) ?_
          obtain ⟨r19, M20, hq21, h⟩ := hz_ct_e h
          refine hz_callVv (as := [.int (45 : Int32)]) (rest := []) hO (c_X5_put l w hN (45 : Int32) hq21) hz_cal_X5_put hz_K_3 hz_sh_176 (hz_lt_176 hN) tw_4_231 (Nat.le_of_ble_eq_true rfl) rfl rfl (Nat.le_of_ble_eq_true rfl) dX5_putPegs_42 ?_
          refine hz_goto (tgt := 58) hO dX5_putPegs_45 (by decide) ?_
          exact hz_ls [0, 1, 2] rfl (gk13 v2_7 M20 h)
      clear hk22
      refine hz_if_le (tgt := 29) hO dX5_putPegs_20 (by decide) (fun hc23 => ?_) (fun hc23 => ?_)
      · rw [if_pos hc23] at h
        exact hz_ls [0, 1, 2] rfl (gk22 v2_4 M5 h)
      · rw [if_neg hc23] at h
        refine hz_aload_n hO dX5_putPegs_23 rfl 0 rfl ?_
        refine hz_bipush (v := (44 : Int32)) hO dX5_putPegs_24 (by decide) ?_
        obtain ⟨r24, M25, hq26, h⟩ := hz_ct_e h
        refine hz_callVv (as := [.int (44 : Int32)]) (rest := []) hO (c_X5_put l w hN (44 : Int32) hq26) hz_cal_X5_put hz_K_3 hz_sh_176 (hz_lt_176 hN) tw_4_231 (Nat.le_of_ble_eq_true rfl) rfl rfl (Nat.le_of_ble_eq_true rfl) dX5_putPegs_26 ?_
        exact hz_ls [0, 1, 2] rfl (gk22 v2_4 M25 h)
set_option maxRecDepth 100000 in
set_option maxHeartbeats 4000000 in
theorem c_X5_putPegs (l : Launch) (w : hz_C) {N : Nat} (hN : 178 ≤ N) {M : hz_M} {rE : Int32} {ME : hz_M} (h : f_X5_putPegs M = some (rE, ME)) : hz_Ct l yX5_putPegs cX5_putPegs 3 none 2 w N [.ref (hz_ad w 176), .ref (hz_ad w 11)] M (hz_Qv w N ME) := by
  refine hz_ofW (by decide) rfl (Nat.le_of_ble_eq_true rfl) tw_5_11 ?_
  intro p e s m args below meth c hO
  show hz_G p l e 2 hz_z0 s m args below meth c w N 3 _ M 0 [(0, .ref (hz_ad w 176)), (1, .ref (hz_ad w 11))] []
  unfold f_X5_putPegs at h
  refine hz_aload_n hO dX5_putPegs_0 rfl 0 rfl ?_
  refine hz_bipush (v := (58 : Int32)) hO dX5_putPegs_1 (by decide) ?_
  obtain ⟨r1, M2, hq3, h⟩ := hz_ct_e h
  refine hz_callVv (as := [.int (58 : Int32)]) (rest := []) hO (c_X5_put l w hN (58 : Int32) hq3) hz_cal_X5_put hz_K_3 hz_sh_176 (hz_lt_176 hN) tw_4_231 (Nat.le_of_ble_eq_true rfl) rfl rfl (Nat.le_of_ble_eq_true rfl) dX5_putPegs_3 ?_
  refine hz_iconst (v := (0 : Int32)) hO dX5_putPegs_6 (by decide) ?_
  refine hz_istore_n (ls1 := [(2, .int (0 : Int32)), (0, .ref (hz_ad w 176)), (1, .ref (hz_ad w 11))]) hO dX5_putPegs_7 rfl (Nat.le_of_ble_eq_true rfl) rfl ?_
  exact hz_ls [1, 2, 0] rfl (g_X5_putPegs_L8 hN hO _ (0 : Int32) M2 h)
def f_X5_write_L13 (kk41 : hz_M → hz_O) : Nat → Int32 → hz_M → hz_O
  | 0, _, _ => none
  | n + 1, v2_20, M21 =>
    if v2_20 < (1 : Int32) then
      kk41 M21
    else
      hz_ct (f_X5_putNumber v2_20 M21) fun r23 M24 =>
      hz_ct (f_X5_putGuestsAt v2_20 M24) fun r26 M27 =>
      hz_ct (f_X5_put (32 : Int32) M27) fun r29 M30 =>
      hz_lt (v2_20 + (-1 : Int32)) fun x32 =>
      f_X5_write_L13 kk41 n x32 M30
def f_X5_write (M : hz_M) : hz_O :=
  hz_lm (hz_set M 176 2 (0 : Int32)) fun M1 =>
  hz_lt ((M1 1 8)) fun x2 =>
  hz_jn (fun  (M3 : hz_M) =>
    hz_ct (f_X5_put (104 : Int32) M3) fun r4 M5 =>
    hz_ct (f_X5_putGuestsAt (0 : Int32) M5) fun r7 M8 =>
    hz_ct (f_X5_put (32 : Int32) M8) fun r10 M11 =>
    hz_ct (f_X5_put (112 : Int32) M11) fun r13 M14 =>
    hz_ct (f_X5_putPegs M14) fun r16 M17 =>
    some (0, M17)
    ) fun k19 =>
  f_X5_write_L13 k19 hz_FU x2 M1
set_option maxRecDepth 100000 in
set_option maxHeartbeats 4000000 in
theorem g_X5_write_L13 {p : Program} {l : Launch} {e : Env} {s : State} {m : MethodId} {args : Array Value} {below : List Frame} {meth : Method} {c : Code} {w : hz_C} {N : Nat} (hN : 178 ≤ N) {rE : Int32} {ME : hz_M} (hO : hz_Ok p s m args meth c w cX5_write 3 RX5 none) (kk41 : hz_M → hz_O) (gkk41 : ∀  (M : hz_M), kk41 M = some (rE, ME) → hz_G p l e 4 hz_z0 s m args below meth c w N 3 (MQ below (hz_Qv w N ME) args s 0 0 (hz_A w)) M 41 [(0, .ref (hz_ad w 176)), (1, .ref (hz_ad w 11))] []) : ∀ (n : Nat) (v2_20 : Int32) (M21 : hz_M), f_X5_write_L13 kk41 n v2_20 M21 = some (rE, ME) → hz_G p l e 4 hz_z0 s m args below meth c w N 3 (MQ below (hz_Qv w N ME) args s 0 0 (hz_A w)) M21 13 [(0, .ref (hz_ad w 176)), (1, .ref (hz_ad w 11)), (2, .int v2_20)] [] := by
  intro n
  induction n with
  | zero =>
    intro v2_20 M21 h
    rw [f_X5_write_L13] at h
    cases h
  | succ n ih =>
    intro v2_20 M21 h
    rw [f_X5_write_L13] at h
    refine hz_iload_n hO dX5_write_13 rfl 2 rfl ?_
    refine hz_iconst (v := (1 : Int32)) hO dX5_write_14 (by decide) ?_
    refine hz_icmp_lt (tgt := 41) hO dX5_write_15 (by decide) (fun hc22 => ?_) (fun hc22 => ?_)
    · rw [if_pos hc22] at h
      exact hz_ls [0, 1] rfl (gkk41 M21 h)
    · rw [if_neg hc22] at h
      refine hz_aload_n hO dX5_write_18 rfl 0 rfl ?_
      refine hz_iload_n hO dX5_write_19 rfl 2 rfl ?_
      obtain ⟨r23, M24, hq25, h⟩ := hz_ct_e h
      refine hz_callVv (as := [.int v2_20]) (rest := []) hO (c_X5_putNumber l w hN v2_20 hq25) hz_cal_X5_putNumber hz_K_3 hz_sh_176 (hz_lt_176 hN) tw_4_227 (Nat.le_of_ble_eq_true rfl) rfl rfl (Nat.le_of_ble_eq_true rfl) dX5_write_20 ?_
      refine hz_aload_n hO dX5_write_23 rfl 0 rfl ?_
      refine hz_aload_n hO dX5_write_24 rfl 1 rfl ?_
      refine hz_iload_n hO dX5_write_25 rfl 2 rfl ?_
      obtain ⟨r26, M27, hq28, h⟩ := hz_ct_e h
      refine hz_callVv (as := [.ref (hz_ad w 11), .int v2_20]) (rest := []) hO (c_X5_putGuestsAt l w hN v2_20 hq28) hz_cal_X5_putGuestsAt hz_K_3 hz_sh_176 (hz_lt_176 hN) tw_4_235 (Nat.le_of_ble_eq_true rfl) rfl rfl (Nat.le_of_ble_eq_true rfl) dX5_write_26 ?_
      refine hz_aload_n hO dX5_write_29 rfl 0 rfl ?_
      refine hz_bipush (v := (32 : Int32)) hO dX5_write_30 (by decide) ?_
      obtain ⟨r29, M30, hq31, h⟩ := hz_ct_e h
      refine hz_callVv (as := [.int (32 : Int32)]) (rest := []) hO (c_X5_put l w hN (32 : Int32) hq31) hz_cal_X5_put hz_K_3 hz_sh_176 (hz_lt_176 hN) tw_4_231 (Nat.le_of_ble_eq_true rfl) rfl rfl (Nat.le_of_ble_eq_true rfl) dX5_write_32 ?_
      obtain ⟨x32, h_x32, h⟩ := hz_lt_e h
      refine hz_iinc (k := 2) (v := x32) (ls1 := [(2, .int x32), (0, .ref (hz_ad w 176)), (1, .ref (hz_ad w 11))]) hO dX5_write_35 rfl (by rw [h_x32]; rfl) (Nat.le_of_ble_eq_true rfl) rfl ?_
      refine hz_goto (tgt := 13) hO dX5_write_38 (by decide) ?_
      exact hz_ls [1, 2, 0] rfl (ih x32 M30 h)
set_option maxRecDepth 100000 in
set_option maxHeartbeats 4000000 in
theorem c_X5_write (l : Launch) (w : hz_C) {N : Nat} (hN : 178 ≤ N) {M : hz_M} {rE : Int32} {ME : hz_M} (h : f_X5_write M = some (rE, ME)) : hz_Ct l yX5_write cX5_write 3 none 4 w N [.ref (hz_ad w 176), .ref (hz_ad w 11)] M (hz_Qv w N ME) := by
  refine hz_ofW (by decide) rfl (Nat.le_of_ble_eq_true rfl) tw_4_226 ?_
  intro p e s m args below meth c hO
  show hz_G p l e 4 hz_z0 s m args below meth c w N 3 _ M 0 [(0, .ref (hz_ad w 176)), (1, .ref (hz_ad w 11))] []
  unfold f_X5_write at h
  refine hz_aload_n hO dX5_write_0 rfl 0 rfl ?_
  refine hz_iconst (v := (0 : Int32)) hO dX5_write_1 (by decide) ?_
  obtain ⟨M1, h_M1, h⟩ := hz_lm_e h
  refine hz_putI (k := 2) (ty := .int) hO hz_K_3 tyX5_ok nmX5 hz_sh_176 (hz_lt_176 hN) rfl (Nat.le_of_ble_eq_true rfl) tw_2_116 rfl rfl rfl rfl rfl dX5_write_2 ?_
  refine hz_nameM h_M1 ?_
  refine hz_aload_n hO dX5_write_5 rfl 0 rfl ?_
  refine hz_getR (k := 0) hO 1 hz_K_3 hz_sh_176 (hz_lt_176 hN) rfl (Nat.le_of_ble_eq_true rfl) tw_2_114 rfl dX5_write_6 ?_
  refine hz_getI (k := 8) hO hz_K_2 hz_sh_1 (hz_lt_1 hN) rfl (Nat.le_of_ble_eq_true rfl) tw_1_68 rfl dX5_write_9 ?_
  obtain ⟨x2, h_x2, h⟩ := hz_lt_e h
  refine hz_name h_x2 ?_
  refine hz_istore_n (ls1 := [(2, .int x2), (0, .ref (hz_ad w 176)), (1, .ref (hz_ad w 11))]) hO dX5_write_12 rfl (Nat.le_of_ble_eq_true rfl) rfl ?_
  obtain ⟨k19, hk19, h⟩ := hz_jn_e h
  have gk19 : ∀  (M3 : hz_M), k19 M3 = some (rE, ME) → hz_G p l e 4 hz_z0 s m args below meth c w N 3 (MQ below (hz_Qv w N ME) args s 0 0 (hz_A w)) M3 41 [(0, .ref (hz_ad w 176)), (1, .ref (hz_ad w 11))] [] := by
    intro M3 h
    rw [hk19] at h
    dsimp only at h
    refine hz_aload_n hO dX5_write_41 rfl 0 rfl ?_
    refine hz_bipush (v := (104 : Int32)) hO dX5_write_42 (by decide) ?_
    obtain ⟨r4, M5, hq6, h⟩ := hz_ct_e h
    refine hz_callVv (as := [.int (104 : Int32)]) (rest := []) hO (c_X5_put l w hN (104 : Int32) hq6) hz_cal_X5_put hz_K_3 hz_sh_176 (hz_lt_176 hN) tw_4_231 (Nat.le_of_ble_eq_true rfl) rfl rfl (Nat.le_of_ble_eq_true rfl) dX5_write_44 ?_
    refine hz_aload_n hO dX5_write_47 rfl 0 rfl ?_
    refine hz_aload_n hO dX5_write_48 rfl 1 rfl ?_
    refine hz_iconst (v := (0 : Int32)) hO dX5_write_49 (by decide) ?_
    obtain ⟨r7, M8, hq9, h⟩ := hz_ct_e h
    refine hz_callVv (as := [.ref (hz_ad w 11), .int (0 : Int32)]) (rest := []) hO (c_X5_putGuestsAt l w hN (0 : Int32) hq9) hz_cal_X5_putGuestsAt hz_K_3 hz_sh_176 (hz_lt_176 hN) tw_4_235 (Nat.le_of_ble_eq_true rfl) rfl rfl (Nat.le_of_ble_eq_true rfl) dX5_write_50 ?_
    refine hz_aload_n hO dX5_write_53 rfl 0 rfl ?_
    refine hz_bipush (v := (32 : Int32)) hO dX5_write_54 (by decide) ?_
    obtain ⟨r10, M11, hq12, h⟩ := hz_ct_e h
    refine hz_callVv (as := [.int (32 : Int32)]) (rest := []) hO (c_X5_put l w hN (32 : Int32) hq12) hz_cal_X5_put hz_K_3 hz_sh_176 (hz_lt_176 hN) tw_4_231 (Nat.le_of_ble_eq_true rfl) rfl rfl (Nat.le_of_ble_eq_true rfl) dX5_write_56 ?_
    refine hz_aload_n hO dX5_write_59 rfl 0 rfl ?_
    refine hz_bipush (v := (112 : Int32)) hO dX5_write_60 (by decide) ?_
    obtain ⟨r13, M14, hq15, h⟩ := hz_ct_e h
    refine hz_callVv (as := [.int (112 : Int32)]) (rest := []) hO (c_X5_put l w hN (112 : Int32) hq15) hz_cal_X5_put hz_K_3 hz_sh_176 (hz_lt_176 hN) tw_4_231 (Nat.le_of_ble_eq_true rfl) rfl rfl (Nat.le_of_ble_eq_true rfl) dX5_write_62 ?_
    refine hz_aload_n hO dX5_write_65 rfl 0 rfl ?_
    refine hz_aload_n hO dX5_write_66 rfl 1 rfl ?_
    obtain ⟨r16, M17, hq18, h⟩ := hz_ct_e h
    refine hz_callVv (as := [.ref (hz_ad w 11)]) (rest := []) hO (c_X5_putPegs l w hN hq18) hz_cal_X5_putPegs hz_K_3 hz_sh_176 (hz_lt_176 hN) tw_5_8 (Nat.le_of_ble_eq_true rfl) rfl rfl (Nat.le_of_ble_eq_true rfl) dX5_write_67 ?_
    exact hz_nameM (hz_some_e h).2.symm (hz_vret hO dX5_write_70)
  clear hk19
  exact hz_ls [1, 2, 0] rfl (g_X5_write_L13 hN hO _ gk19 _ x2 M1 h)
