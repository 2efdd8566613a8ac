-- X11_lockerOf X11_pegOf X11_holder X11_isBasket X11_on X11_inside X11_driest X11_isSilent X11_bears X11_no X11_cause X11_highest X11_nextHeat X11_minute X11_enters
def f_X11_lockerOf_L2 (b : Nat) : Nat → Int32 → Int32 → hz_M → hz_O
  | 0, _, _, _ => none
  | n + 1, v1_1, v2_2, M3 =>
    if (M3 b 0) ≤ v2_2 then
      some ((-1 : Int32), M3)
    else
      hz_gd (hz_in v2_2 12) <|
      if (M3 (b + 3) (Int32.toNatClampNeg v2_2)) = v1_1 then
        some (v2_2, M3)
      else
        hz_lt (v2_2 + (1 : Int32)) fun x7 =>
        f_X11_lockerOf_L2 b n v1_1 x7 M3
def f_X11_lockerOf (b : Nat) (a1 : Int32) (M : hz_M) : hz_O :=
  f_X11_lockerOf_L2 b hz_FU a1 (0 : Int32) M
set_option maxRecDepth 100000 in
set_option maxHeartbeats 4000000 in
theorem g_X11_lockerOf_L2 {p : Program} {l : Launch} {e : Env} {s : State} {m : MethodId} {args : Array Value} {below : List Frame} {meth : Method} {c : Code} {w : hz_C} {N : Nat} (hN : 178 ≤ N) {b : Nat} (hB : hz_Own N b) {rE : Int32} {ME : hz_M} (hO : hz_Ok p s m args meth c w cX11_lockerOf 3 RX11 (some .int)) : ∀ (n : Nat) (v1_1 : Int32) (v2_2 : Int32) (M3 : hz_M), f_X11_lockerOf_L2 b n v1_1 v2_2 M3 = some (rE, ME) → hz_G p l e 0 hz_z0 s m args below meth c w N 3 (MQ below (hz_Qi w N rE ME) args s 0 0 (hz_A w)) M3 2 [(0, .ref (hz_ad w b)), (1, .int v1_1), (2, .int v2_2)] [] := by
  intro n
  induction n with
  | zero =>
    intro v1_1 v2_2 M3 h
    rw [f_X11_lockerOf_L2] at h
    cases h
  | succ n ih =>
    intro v1_1 v2_2 M3 h
    rw [f_X11_lockerOf_L2] at h
    refine hz_iload_n hO dX11_lockerOf_2 rfl 2 rfl ?_
    refine hz_aload_n hO dX11_lockerOf_3 rfl 0 rfl ?_
    refine hz_getI (k := 0) hO hz_K_11 hB.1 hB.2.1 rfl (Nat.le_of_ble_eq_true rfl) tw_3_178 rfl dX11_lockerOf_4 ?_
    refine hz_icmp_ge (tgt := 28) hO dX11_lockerOf_7 (by decide) (fun hc4 => ?_) (fun hc4 => ?_)
    · rw [if_pos hc4] at h
      refine hz_iconst (v := (-1 : Int32)) hO dX11_lockerOf_28 (by decide) ?_
      exact hz_nameM (hz_some_e h).2.symm (hz_name (hz_some_e h).1.symm (hz_iret hO dX11_lockerOf_29))
    · rw [if_neg hc4] at h
      refine hz_aload_n hO dX11_lockerOf_10 rfl 0 rfl ?_
      refine hz_getR (k := 14) hO (b + 3) hz_K_11 hB.1 hB.2.1 rfl (Nat.le_of_ble_eq_true rfl) tw_3_205 rfl dX11_lockerOf_11 ?_
      refine hz_iload_n hO dX11_lockerOf_14 rfl 2 rfl ?_
      obtain ⟨hg5, h⟩ := hz_gd_e h
      refine hz_iald hO hB.2.2.2.2.2.2.1 hB.2.2.2.2.2.2.2.1 hg5 dX11_lockerOf_15 ?_
      refine hz_iload_n hO dX11_lockerOf_16 rfl 1 rfl ?_
      refine hz_icmp_ne (tgt := 22) hO dX11_lockerOf_17 (by decide) (fun hc6 => ?_) (fun hc6 => ?_)
      · rw [if_neg hc6] at h
        obtain ⟨x7, h_x7, h⟩ := hz_lt_e h
        refine hz_iinc (k := 2) (v := x7) (ls1 := [(2, .int x7), (0, .ref (hz_ad w b)), (1, .int v1_1)]) hO dX11_lockerOf_22 rfl (by rw [h_x7]; rfl) (Nat.le_of_ble_eq_true rfl) rfl ?_
        refine hz_goto (tgt := 2) hO dX11_lockerOf_25 (by decide) ?_
        exact hz_ls [1, 2, 0] rfl (ih v1_1 x7 M3 h)
      · rw [if_pos hc6] at h
        refine hz_iload_n hO dX11_lockerOf_20 rfl 2 rfl ?_
        exact hz_nameM (hz_some_e h).2.symm (hz_name (hz_some_e h).1.symm (hz_iret hO dX11_lockerOf_21))
set_option maxRecDepth 100000 in
set_option maxHeartbeats 4000000 in
theorem c_X11_lockerOf (l : Launch) (w : hz_C) {N : Nat} (hN : 178 ≤ N) {b : Nat} (hB : hz_Own N b) (a1 : Int32) {M : hz_M} {rE : Int32} {ME : hz_M} (h : f_X11_lockerOf b a1 M = some (rE, ME)) : hz_Ct l yX11_lockerOf cX11_lockerOf 3 (some .int) 0 w N [.ref (hz_ad w b), .int a1] M (hz_Qi w N rE ME) := by
  refine hz_ofW (by decide) rfl (Nat.le_of_ble_eq_true rfl) tw_4_163 ?_
  intro p e s m args below meth c hO
  show hz_G p l e 0 hz_z0 s m args below meth c w N 3 _ M 0 [(0, .ref (hz_ad w b)), (1, .int a1)] []
  unfold f_X11_lockerOf at h
  refine hz_iconst (v := (0 : Int32)) hO dX11_lockerOf_0 (by decide) ?_
  refine hz_istore_n (ls1 := [(2, .int (0 : Int32)), (0, .ref (hz_ad w b)), (1, .int a1)]) hO dX11_lockerOf_1 rfl (Nat.le_of_ble_eq_true rfl) rfl ?_
  exact hz_ls [1, 2, 0] rfl (g_X11_lockerOf_L2 hN hB hO _ a1 (0 : Int32) M h)
def f_X11_pegOf_L2 (b : Nat) : Nat → Int32 → Int32 → hz_M → hz_O
  | 0, _, _, _ => none
  | n + 1, v1_1, v2_2, M3 =>
    if (M3 b 1) ≤ v2_2 then
      some ((-1 : Int32), M3)
    else
      hz_gd (hz_in v2_2 16) <|
      if (M3 (b + 2) (Int32.toNatClampNeg v2_2)) = v1_1 then
        some (v2_2, M3)
      else
        hz_lt (v2_2 + (1 : Int32)) fun x7 =>
        f_X11_pegOf_L2 b n v1_1 x7 M3
def f_X11_pegOf (b : Nat) (a1 : Int32) (M : hz_M) : hz_O :=
  f_X11_pegOf_L2 b hz_FU a1 (0 : Int32) M
set_option maxRecDepth 100000 in
set_option maxHeartbeats 4000000 in
theorem g_X11_pegOf_L2 {p : Program} {l : Launch} {e : Env} {s : State} {m : MethodId} {args : Array Value} {below : List Frame} {meth : Method} {c : Code} {w : hz_C} {N : Nat} (hN : 178 ≤ N) {b : Nat} (hB : hz_Own N b) {rE : Int32} {ME : hz_M} (hO : hz_Ok p s m args meth c w cX11_pegOf 3 RX11 (some .int)) : ∀ (n : Nat) (v1_1 : Int32) (v2_2 : Int32) (M3 : hz_M), f_X11_pegOf_L2 b n v1_1 v2_2 M3 = some (rE, ME) → hz_G p l e 0 hz_z0 s m args below meth c w N 3 (MQ below (hz_Qi w N rE ME) args s 0 0 (hz_A w)) M3 2 [(0, .ref (hz_ad w b)), (1, .int v1_1), (2, .int v2_2)] [] := by
  intro n
  induction n with
  | zero =>
    intro v1_1 v2_2 M3 h
    rw [f_X11_pegOf_L2] at h
    cases h
  | succ n ih =>
    intro v1_1 v2_2 M3 h
    rw [f_X11_pegOf_L2] at h
    refine hz_iload_n hO dX11_pegOf_2 rfl 2 rfl ?_
    refine hz_aload_n hO dX11_pegOf_3 rfl 0 rfl ?_
    refine hz_getI (k := 1) hO hz_K_11 hB.1 hB.2.1 rfl (Nat.le_of_ble_eq_true rfl) tw_3_180 rfl dX11_pegOf_4 ?_
    refine hz_icmp_ge (tgt := 28) hO dX11_pegOf_7 (by decide) (fun hc4 => ?_) (fun hc4 => ?_)
    · rw [if_pos hc4] at h
      refine hz_iconst (v := (-1 : Int32)) hO dX11_pegOf_28 (by decide) ?_
      exact hz_nameM (hz_some_e h).2.symm (hz_name (hz_some_e h).1.symm (hz_iret hO dX11_pegOf_29))
    · rw [if_neg hc4] at h
      refine hz_aload_n hO dX11_pegOf_10 rfl 0 rfl ?_
      refine hz_getR (k := 13) hO (b + 2) hz_K_11 hB.1 hB.2.1 rfl (Nat.le_of_ble_eq_true rfl) tw_3_203 rfl dX11_pegOf_11 ?_
      refine hz_iload_n hO dX11_pegOf_14 rfl 2 rfl ?_
      obtain ⟨hg5, h⟩ := hz_gd_e h
      refine hz_iald hO hB.2.2.2.2.1 hB.2.2.2.2.2.1 hg5 dX11_pegOf_15 ?_
      refine hz_iload_n hO dX11_pegOf_16 rfl 1 rfl ?_
      refine hz_icmp_ne (tgt := 22) hO dX11_pegOf_17 (by decide) (fun hc6 => ?_) (fun hc6 => ?_)
      · rw [if_neg hc6] at h
        obtain ⟨x7, h_x7, h⟩ := hz_lt_e h
        refine hz_iinc (k := 2) (v := x7) (ls1 := [(2, .int x7), (0, .ref (hz_ad w b)), (1, .int v1_1)]) hO dX11_pegOf_22 rfl (by rw [h_x7]; rfl) (Nat.le_of_ble_eq_true rfl) rfl ?_
        refine hz_goto (tgt := 2) hO dX11_pegOf_25 (by decide) ?_
        exact hz_ls [1, 2, 0] rfl (ih v1_1 x7 M3 h)
      · rw [if_pos hc6] at h
        refine hz_iload_n hO dX11_pegOf_20 rfl 2 rfl ?_
        exact hz_nameM (hz_some_e h).2.symm (hz_name (hz_some_e h).1.symm (hz_iret hO dX11_pegOf_21))
set_option maxRecDepth 100000 in
set_option maxHeartbeats 4000000 in
theorem c_X11_pegOf (l : Launch) (w : hz_C) {N : Nat} (hN : 178 ≤ N) {b : Nat} (hB : hz_Own N b) (a1 : Int32) {M : hz_M} {rE : Int32} {ME : hz_M} (h : f_X11_pegOf b a1 M = some (rE, ME)) : hz_Ct l yX11_pegOf cX11_pegOf 3 (some .int) 0 w N [.ref (hz_ad w b), .int a1] M (hz_Qi w N rE ME) := by
  refine hz_ofW (by decide) rfl (Nat.le_of_ble_eq_true rfl) tw_4_219 ?_
  intro p e s m args below meth c hO
  show hz_G p l e 0 hz_z0 s m args below meth c w N 3 _ M 0 [(0, .ref (hz_ad w b)), (1, .int a1)] []
  unfold f_X11_pegOf at h
  refine hz_iconst (v := (0 : Int32)) hO dX11_pegOf_0 (by decide) ?_
  refine hz_istore_n (ls1 := [(2, .int (0 : Int32)), (0, .ref (hz_ad w b)), (1, .int a1)]) hO dX11_pegOf_1 rfl (Nat.le_of_ble_eq_true rfl) rfl ?_
  exact hz_ls [1, 2, 0] rfl (g_X11_pegOf_L2 hN hB hO _ a1 (0 : Int32) M h)
def f_X11_holder_L2 (b : Nat) : Nat → Int32 → Int32 → hz_M → hz_O
  | 0, _, _, _ => none
  | n + 1, v1_1, v2_2, M3 =>
    if (M3 b 10) ≤ v2_2 then
      some ((-1 : Int32), M3)
    else
      hz_gd (hz_in v2_2 16) <|
      if (M3 (b + 8) (Int32.toNatClampNeg v2_2)) = v1_1 then
        some (v2_2, M3)
      else
        hz_lt (v2_2 + (1 : Int32)) fun x7 =>
        f_X11_holder_L2 b n v1_1 x7 M3
def f_X11_holder (b : Nat) (a1 : Int32) (M : hz_M) : hz_O :=
  f_X11_holder_L2 b hz_FU a1 (0 : Int32) M
set_option maxRecDepth 100000 in
set_option maxHeartbeats 4000000 in
theorem g_X11_holder_L2 {p : Program} {l : Launch} {e : Env} {s : State} {m : MethodId} {args : Array Value} {below : List Frame} {meth : Method} {c : Code} {w : hz_C} {N : Nat} (hN : 178 ≤ N) {b : Nat} (hB : hz_Own N b) {rE : Int32} {ME : hz_M} (hO : hz_Ok p s m args meth c w cX11_holder 3 RX11 (some .int)) : ∀ (n : Nat) (v1_1 : Int32) (v2_2 : Int32) (M3 : hz_M), f_X11_holder_L2 b n v1_1 v2_2 M3 = some (rE, ME) → hz_G p l e 0 hz_z0 s m args below meth c w N 3 (MQ below (hz_Qi w N rE ME) args s 0 0 (hz_A w)) M3 2 [(0, .ref (hz_ad w b)), (1, .int v1_1), (2, .int v2_2)] [] := by
  intro n
  induction n with
  | zero =>
    intro v1_1 v2_2 M3 h
    rw [f_X11_holder_L2] at h
    cases h
  | succ n ih =>
    intro v1_1 v2_2 M3 h
    rw [f_X11_holder_L2] at h
    refine hz_iload_n hO dX11_holder_2 rfl 2 rfl ?_
    refine hz_aload_n hO dX11_holder_3 rfl 0 rfl ?_
    refine hz_getI (k := 10) hO hz_K_11 hB.1 hB.2.1 rfl (Nat.le_of_ble_eq_true rfl) tw_3_198 rfl dX11_holder_4 ?_
    refine hz_icmp_ge (tgt := 28) hO dX11_holder_7 (by decide) (fun hc4 => ?_) (fun hc4 => ?_)
    · rw [if_pos hc4] at h
      refine hz_iconst (v := (-1 : Int32)) hO dX11_holder_28 (by decide) ?_
      exact hz_nameM (hz_some_e h).2.symm (hz_name (hz_some_e h).1.symm (hz_iret hO dX11_holder_29))
    · rw [if_neg hc4] at h
      refine hz_aload_n hO dX11_holder_10 rfl 0 rfl ?_
      refine hz_getR (k := 19) hO (b + 8) hz_K_11 hB.1 hB.2.1 rfl (Nat.le_of_ble_eq_true rfl) tw_3_215 rfl dX11_holder_11 ?_
      refine hz_iload_n hO dX11_holder_14 rfl 2 rfl ?_
      obtain ⟨hg5, h⟩ := hz_gd_e h
      refine hz_iald hO hB.2.2.2.2.2.2.2.2.2.2.2.2.2.2.2.2.1 hB.2.2.2.2.2.2.2.2.2.2.2.2.2.2.2.2.2.1 hg5 dX11_holder_15 ?_
      refine hz_iload_n hO dX11_holder_16 rfl 1 rfl ?_
      refine hz_icmp_ne (tgt := 22) hO dX11_holder_17 (by decide) (fun hc6 => ?_) (fun hc6 => ?_)
      · rw [if_neg hc6] at h
        obtain ⟨x7, h_x7, h⟩ := hz_lt_e h
        refine hz_iinc (k := 2) (v := x7) (ls1 := [(2, .int x7), (0, .ref (hz_ad w b)), (1, .int v1_1)]) hO dX11_holder_22 rfl (by rw [h_x7]; rfl) (Nat.le_of_ble_eq_true rfl) rfl ?_
        refine hz_goto (tgt := 2) hO dX11_holder_25 (by decide) ?_
        exact hz_ls [1, 2, 0] rfl (ih v1_1 x7 M3 h)
      · rw [if_pos hc6] at h
        refine hz_iload_n hO dX11_holder_20 rfl 2 rfl ?_
        exact hz_nameM (hz_some_e h).2.symm (hz_name (hz_some_e h).1.symm (hz_iret hO dX11_holder_21))
set_option maxRecDepth 100000 in
set_option maxHeartbeats 4000000 in
theorem c_X11_holder (l : Launch) (w : hz_C) {N : Nat} (hN : 178 ≤ N) {b : Nat} (hB : hz_Own N b) (a1 : Int32) {M : hz_M} {rE : Int32} {ME : hz_M} (h : f_X11_holder b a1 M = some (rE, ME)) : hz_Ct l yX11_holder cX11_holder 3 (some .int) 0 w N [.ref (hz_ad w b), .int a1] M (hz_Qi w N rE ME) := by
  refine hz_ofW (by decide) rfl (Nat.le_of_ble_eq_true rfl) tw_4_223 ?_
  intro p e s m args below meth c hO
  show hz_G p l e 0 hz_z0 s m args below meth c w N 3 _ M 0 [(0, .ref (hz_ad w b)), (1, .int a1)] []
  unfold f_X11_holder at h
  refine hz_iconst (v := (0 : Int32)) hO dX11_holder_0 (by decide) ?_
  refine hz_istore_n (ls1 := [(2, .int (0 : Int32)), (0, .ref (hz_ad w b)), (1, .int a1)]) hO dX11_holder_1 rfl (Nat.le_of_ble_eq_true rfl) rfl ?_
  exact hz_ls [1, 2, 0] rfl (g_X11_holder_L2 hN hB hO _ a1 (0 : Int32) M h)
def f_X11_isBasket (b : Nat) (a1 : Int32) (M : hz_M) : hz_O :=
  hz_ct (f_X11_pegOf b a1 M) fun r1 M2 =>
  if 0 ≤ r1 then
    some ((0 : Int32), M2)
  else
    hz_ct (f_X11_holder b a1 M2) fun r5 M6 =>
    if 0 ≤ r5 then
      some ((0 : Int32), M6)
    else
      some ((1 : Int32), M6)
set_option maxRecDepth 100000 in
set_option maxHeartbeats 4000000 in
theorem c_X11_isBasket (l : Launch) (w : hz_C) {N : Nat} (hN : 178 ≤ N) {b : Nat} (hB : hz_Own N b) (a1 : Int32) {M : hz_M} {rE : Int32} {ME : hz_M} (h : f_X11_isBasket b a1 M = some (rE, ME)) : hz_Ct l yX11_isBasket cX11_isBasket 2 (some .boolean) 1 w N [.ref (hz_ad w b), .int a1] M (hz_Qi w N rE ME) := by
  refine hz_ofW (by decide) rfl (Nat.le_of_ble_eq_true rfl) tw_4_215 ?_
  intro p e s m args below meth c hO
  show hz_G p l e 1 hz_z0 s m args below meth c w N 2 _ M 0 [(0, .ref (hz_ad w b)), (1, .int a1)] []
  unfold f_X11_isBasket at h
  refine hz_aload_n hO dX11_isBasket_0 rfl 0 rfl ?_
  refine hz_iload_n hO dX11_isBasket_1 rfl 1 rfl ?_
  obtain ⟨r1, M2, hq3, h⟩ := hz_ct_e h
  refine hz_callVi (as := [.int a1]) (rest := []) hO (c_X11_pegOf l w hN hB a1 hq3) hz_cal_X11_pegOf hz_K_11 hB.1 hB.2.1 tw_4_216 (Nat.le_of_ble_eq_true rfl) rfl rfl (Nat.le_of_ble_eq_true rfl) dX11_isBasket_2 ?_
  refine hz_if_ge (tgt := 20) hO dX11_isBasket_5 (by decide) (fun hc4 => ?_) (fun hc4 => ?_)
  · rw [if_pos hc4] at h
    refine hz_iconst (v := (0 : Int32)) hO dX11_isBasket_20 (by decide) ?_
    exact hz_nameM (hz_some_e h).2.symm (hz_name (hz_some_e h).1.symm (hz_zret hO (by rw [← (hz_some_e h).1]; decide) dX11_isBasket_21))
  · rw [if_neg hc4] at h
    refine hz_aload_n hO dX11_isBasket_8 rfl 0 rfl ?_
    refine hz_iload_n hO dX11_isBasket_9 rfl 1 rfl ?_
    obtain ⟨r5, M6, hq7, h⟩ := hz_ct_e h
    refine hz_callVi (as := [.int a1]) (rest := []) hO (c_X11_holder l w hN hB a1 hq7) hz_cal_X11_holder hz_K_11 hB.1 hB.2.1 tw_4_220 (Nat.le_of_ble_eq_true rfl) rfl rfl (Nat.le_of_ble_eq_true rfl) dX11_isBasket_10 ?_
    refine hz_if_ge (tgt := 20) hO dX11_isBasket_13 (by decide) (fun hc8 => ?_) (fun hc8 => ?_)
    · rw [if_pos hc8] at h
      refine hz_iconst (v := (0 : Int32)) hO dX11_isBasket_20 (by decide) ?_
      exact hz_nameM (hz_some_e h).2.symm (hz_name (hz_some_e h).1.symm (hz_zret hO (by rw [← (hz_some_e h).1]; decide) dX11_isBasket_21))
    · rw [if_neg hc8] at h
      refine hz_iconst (v := (1 : Int32)) hO dX11_isBasket_16 (by decide) ?_
      refine hz_goto (tgt := 21) hO dX11_isBasket_17 (by decide) ?_
      exact hz_nameM (hz_some_e h).2.symm (hz_name (hz_some_e h).1.symm (hz_zret hO (by rw [← (hz_some_e h).1]; decide) dX11_isBasket_21))
def f_X11_on_L4 (b : Nat) : Nat → Int32 → Int32 → Int32 → hz_M → hz_O
  | 0, _, _, _, _ => none
  | n + 1, v1_1, v2_2, v3_3, M4 =>
    if (M4 b 10) ≤ v3_3 then
      some (v2_2, M4)
    else
      hz_gd (hz_in v3_3 16) <|
      hz_jn (fun (v1_7 : Int32) (v3_8 : Int32) (q9 : Int32) (q10 : Int32) (M11 : hz_M) =>
        hz_lt ((q10 + q9)) fun x12 =>
        hz_lt (v3_8 + (1 : Int32)) fun x13 =>
        f_X11_on_L4 b n v1_7 x12 x13 M11
        ) fun k14 =>
      if (M4 (b + 7) (Int32.toNatClampNeg v3_3)) = v1_1 then
        k14 v1_1 v3_3 (1 : Int32) v2_2 M4
      else
        k14 v1_1 v3_3 (0 : Int32) v2_2 M4
def f_X11_on (b : Nat) (a1 : Int32) (M : hz_M) : hz_O :=
  f_X11_on_L4 b hz_FU a1 (0 : Int32) (0 : Int32) M
set_option maxRecDepth 100000 in
set_option maxHeartbeats 4000000 in
theorem g_X11_on_L4 {p : Program} {l : Launch} {e : Env} {s : State} {m : MethodId} {args : Array Value} {below : List Frame} {meth : Method} {c : Code} {w : hz_C} {N : Nat} (hN : 178 ≤ N) {b : Nat} (hB : hz_Own N b) {rE : Int32} {ME : hz_M} (hO : hz_Ok p s m args meth c w cX11_on 4 RX11 (some .int)) : ∀ (n : Nat) (v1_1 : Int32) (v2_2 : Int32) (v3_3 : Int32) (M4 : hz_M), f_X11_on_L4 b n v1_1 v2_2 v3_3 M4 = some (rE, ME) → hz_G p l e 0 hz_z0 s m args below meth c w N 4 (MQ below (hz_Qi w N rE ME) args s 0 0 (hz_A w)) M4 4 [(0, .ref (hz_ad w b)), (1, .int v1_1), (2, .int v2_2), (3, .int v3_3)] [] := by
  intro n
  induction n with
  | zero =>
    intro v1_1 v2_2 v3_3 M4 h
    rw [f_X11_on_L4] at h
    cases h
  | succ n ih =>
    intro v1_1 v2_2 v3_3 M4 h
    rw [f_X11_on_L4] at h
    refine hz_iload_n hO dX11_on_4 rfl 3 rfl ?_
    refine hz_aload_n hO dX11_on_5 rfl 0 rfl ?_
    refine hz_getI (k := 10) hO hz_K_11 hB.1 hB.2.1 rfl (Nat.le_of_ble_eq_true rfl) tw_3_198 rfl dX11_on_6 ?_
    refine hz_icmp_ge (tgt := 36) hO dX11_on_9 (by decide) (fun hc5 => ?_) (fun hc5 => ?_)
    · rw [if_pos hc5] at h
      refine hz_iload_n hO dX11_on_36 rfl 2 rfl ?_
      exact hz_nameM (hz_some_e h).2.symm (hz_name (hz_some_e h).1.symm (hz_iret hO dX11_on_37))
    · rw [if_neg hc5] at h
      refine hz_iload_n hO dX11_on_12 rfl 2 rfl ?_
      refine hz_aload_n hO dX11_on_13 rfl 0 rfl ?_
      refine hz_getR (k := 18) hO (b + 7) hz_K_11 hB.1 hB.2.1 rfl (Nat.le_of_ble_eq_true rfl) tw_3_213 rfl dX11_on_14 ?_
      refine hz_iload_n hO dX11_on_17 rfl 3 rfl ?_
      obtain ⟨hg6, h⟩ := hz_gd_e h
      refine hz_iald hO hB.2.2.2.2.2.2.2.2.2.2.2.2.2.2.1 hB.2.2.2.2.2.2.2.2.2.2.2.2.2.2.2.1 hg6 dX11_on_18 ?_
      refine hz_iload_n hO dX11_on_19 rfl 1 rfl ?_
      obtain ⟨k14, hk14, h⟩ := hz_jn_e h
      have gk14 : ∀ (v1_7 : Int32) (v3_8 : Int32) (q9 : Int32) (q10 : Int32) (M11 : hz_M), k14 v1_7 v3_8 q9 q10 M11 = some (rE, ME) → hz_G p l e 0 hz_z0 s m args below meth c w N 4 (MQ below (hz_Qi w N rE ME) args s 0 0 (hz_A w)) M11 28 [(0, .ref (hz_ad w b)), (1, .int v1_7), (3, .int v3_8)] [.int q9, .int q10] := by
        intro v1_7 v3_8 q9 q10 M11 h
        rw [hk14] at h
        dsimp only at h
        refine hz_iadd hO dX11_on_28 ?_
        obtain ⟨x12, h_x12, h⟩ := hz_lt_e h
        refine hz_name h_x12 ?_
        refine hz_istore_n (ls1 := [(2, .int x12), (0, .ref (hz_ad w b)), (1, .int v1_7), (3, .int v3_8)]) hO dX11_on_29 rfl (Nat.le_of_ble_eq_true rfl) rfl ?_
        obtain ⟨x13, h_x13, h⟩ := hz_lt_e h
        refine hz_iinc (k := 3) (v := x13) (ls1 := [(3, .int x13), (2, .int x12), (0, .ref (hz_ad w b)), (1, .int v1_7)]) hO dX11_on_30 rfl (by rw [h_x13]; rfl) (Nat.le_of_ble_eq_true rfl) rfl ?_
        refine hz_goto (tgt := 4) hO dX11_on_33 (by decide) ?_
        exact hz_ls [2, 3, 1, 0] rfl (ih v1_7 x12 x13 M11 h)
      clear hk14
      refine hz_icmp_ne (tgt := 27) hO dX11_on_20 (by decide) (fun hc15 => ?_) (fun hc15 => ?_)
      · rw [if_neg hc15] at h
        refine hz_iconst (v := (0 : Int32)) hO dX11_on_27 (by decide) ?_
        exact hz_ls [0, 1, 3] rfl (gk14 v1_1 v3_3 (0 : Int32) v2_2 M4 h)
      · rw [if_pos hc15] at h
        refine hz_iconst (v := (1 : Int32)) hO dX11_on_23 (by decide) ?_
        refine hz_goto (tgt := 28) hO dX11_on_24 (by decide) ?_
        exact hz_ls [0, 1, 3] rfl (gk14 v1_1 v3_3 (1 : Int32) v2_2 M4 h)
set_option maxRecDepth 100000 in
set_option maxHeartbeats 4000000 in
theorem c_X11_on (l : Launch) (w : hz_C) {N : Nat} (hN : 178 ≤ N) {b : Nat} (hB : hz_Own N b) (a1 : Int32) {M : hz_M} {rE : Int32} {ME : hz_M} (h : f_X11_on b a1 M = some (rE, ME)) : hz_Ct l yX11_on cX11_on 4 (some .int) 0 w N [.ref (hz_ad w b), .int a1] M (hz_Qi w N rE ME) := by
  refine hz_ofW (by decide) rfl (Nat.le_of_ble_eq_true rfl) tw_4_137 ?_
  intro p e s m args below meth c hO
  show hz_G p l e 0 hz_z0 s m args below meth c w N 4 _ M 0 [(0, .ref (hz_ad w b)), (1, .int a1)] []
  unfold f_X11_on at h
  refine hz_iconst (v := (0 : Int32)) hO dX11_on_0 (by decide) ?_
  refine hz_istore_n (ls1 := [(2, .int (0 : Int32)), (0, .ref (hz_ad w b)), (1, .int a1)]) hO dX11_on_1 rfl (Nat.le_of_ble_eq_true rfl) rfl ?_
  refine hz_iconst (v := (0 : Int32)) hO dX11_on_2 (by decide) ?_
  refine hz_istore_n (ls1 := [(3, .int (0 : Int32)), (2, .int (0 : Int32)), (0, .ref (hz_ad w b)), (1, .int a1)]) hO dX11_on_3 rfl (Nat.le_of_ble_eq_true rfl) rfl ?_
  exact hz_ls [2, 3, 1, 0] rfl (g_X11_on_L4 hN hB hO _ a1 (0 : Int32) (0 : Int32) M h)
def f_X11_inside (b : Nat) (M : hz_M) : hz_O :=
  hz_ct (f_X11_on b (-1 : Int32) M) fun r1 M2 =>
  some (((M b 10) - r1), M2)
set_option maxRecDepth 100000 in
set_option maxHeartbeats 4000000 in
theorem c_X11_inside (l : Launch) (w : hz_C) {N : Nat} (hN : 178 ≤ N) {b : Nat} (hB : hz_Own N b) {M : hz_M} {rE : Int32} {ME : hz_M} (h : f_X11_inside b M = some (rE, ME)) : hz_Ct l yX11_inside cX11_inside 1 (some .int) 1 w N [.ref (hz_ad w b)] M (hz_Qi w N rE ME) := by
  refine hz_ofW (by decide) rfl (Nat.le_of_ble_eq_true rfl) tw_4_133 ?_
  intro p e s m args below meth c hO
  show hz_G p l e 1 hz_z0 s m args below meth c w N 1 _ M 0 [(0, .ref (hz_ad w b))] []
  unfold f_X11_inside at h
  refine hz_aload_n hO dX11_inside_0 rfl 0 rfl ?_
  refine hz_getI (k := 10) hO hz_K_11 hB.1 hB.2.1 rfl (Nat.le_of_ble_eq_true rfl) tw_3_198 rfl dX11_inside_1 ?_
  refine hz_aload_n hO dX11_inside_4 rfl 0 rfl ?_
  refine hz_iconst (v := (-1 : Int32)) hO dX11_inside_5 (by decide) ?_
  obtain ⟨r1, M2, hq3, h⟩ := hz_ct_e h
  refine hz_callVi (as := [.int (-1 : Int32)]) (rest := [.int (M b 10)]) hO (c_X11_on l w hN hB (-1 : Int32) hq3) hz_cal_X11_on hz_K_11 hB.1 hB.2.1 tw_4_134 (Nat.le_of_ble_eq_true rfl) rfl rfl (Nat.le_of_ble_eq_true rfl) dX11_inside_6 ?_
  refine hz_isub hO dX11_inside_9 ?_
  exact hz_nameM (hz_some_e h).2.symm (hz_name (hz_some_e h).1.symm (hz_iret hO dX11_inside_10))
def f_X11_driest_L9 (b : Nat) : Nat → Int32 → Int32 → hz_M → hz_O
  | 0, _, _, _ => none
  | n + 1, v1_2, v2_3, M4 =>
    if v2_3 < 0 then
      some (v1_2, M4)
    else
      hz_gd (hz_in v2_3 16) <|
      hz_jn (fun (v1_7 : Int32) (v2_8 : Int32) (M9 : hz_M) =>
        hz_lt (v2_8 + (-1 : Int32)) fun x10 =>
        f_X11_driest_L9 b n v1_7 x10 M9
        ) fun k11 =>
      if (M4 (b + 2) (Int32.toNatClampNeg v2_3)) < 0 then
        k11 v1_2 v2_3 M4
      else
        hz_gd (hz_in v2_3 16) <|
        hz_gd (hz_in (M4 (b + 2) (Int32.toNatClampNeg v2_3)) 16) <|
        if (3 : Int32) ≤ (M4 (b + 4) (Int32.toNatClampNeg (M4 (b + 2) (Int32.toNatClampNeg v2_3)))) then
          k11 v1_2 v2_3 M4
        else
          hz_jn (fun (v2_16 : Int32) (M17 : hz_M) =>
            hz_gd (hz_in v2_16 16) <|
            hz_lt ((M17 (b + 2) (Int32.toNatClampNeg v2_16))) fun x19 =>
            k11 x19 v2_16 M17
            ) fun k20 =>
          if v1_2 < 0 then
            k20 v2_3 M4
          else
            hz_gd (hz_in v2_3 16) <|
            hz_gd (hz_in (M4 (b + 2) (Int32.toNatClampNeg v2_3)) 16) <|
            hz_gd (hz_in v1_2 16) <|
            if (M4 (b + 4) (Int32.toNatClampNeg v1_2)) < (M4 (b + 4) (Int32.toNatClampNeg (M4 (b + 2) (Int32.toNatClampNeg v2_3)))) then
              k11 v1_2 v2_3 M4
            else
              k20 v2_3 M4
def f_X11_driest (b : Nat) (M : hz_M) : hz_O :=
  hz_lt (((M b 1) - (1 : Int32))) fun x1 =>
  f_X11_driest_L9 b hz_FU (-1 : Int32) x1 M
set_option maxRecDepth 100000 in
set_option maxHeartbeats 4000000 in
theorem g_X11_driest_L9 {p : Program} {l : Launch} {e : Env} {s : State} {m : MethodId} {args : Array Value} {below : List Frame} {meth : Method} {c : Code} {w : hz_C} {N : Nat} (hN : 178 ≤ N) {b : Nat} (hB : hz_Own N b) {rE : Int32} {ME : hz_M} (hO : hz_Ok p s m args meth c w cX11_driest 3 RX11 (some .int)) : ∀ (n : Nat) (v1_2 : Int32) (v2_3 : Int32) (M4 : hz_M), f_X11_driest_L9 b n v1_2 v2_3 M4 = some (rE, ME) → hz_G p l e 0 hz_z0 s m args below meth c w N 3 (MQ below (hz_Qi w N rE ME) args s 0 0 (hz_A w)) M4 9 [(0, .ref (hz_ad w b)), (1, .int v1_2), (2, .int v2_3)] [] := by
  intro n
  induction n with
  | zero =>
    intro v1_2 v2_3 M4 h
    rw [f_X11_driest_L9] at h
    cases h
  | succ n ih =>
    intro v1_2 v2_3 M4 h
    rw [f_X11_driest_L9] at h
    refine hz_iload_n hO dX11_driest_9 rfl 2 rfl ?_
    refine hz_if_lt (tgt := 74) hO dX11_driest_10 (by decide) (fun hc5 => ?_) (fun hc5 => ?_)
    · rw [if_pos hc5] at h
      refine hz_iload_n hO dX11_driest_74 rfl 1 rfl ?_
      exact hz_nameM (hz_some_e h).2.symm (hz_name (hz_some_e h).1.symm (hz_iret hO dX11_driest_75))
    · rw [if_neg hc5] at h
      refine hz_aload_n hO dX11_driest_13 rfl 0 rfl ?_
      refine hz_getR (k := 13) hO (b + 2) hz_K_11 hB.1 hB.2.1 rfl (Nat.le_of_ble_eq_true rfl) tw_3_203 rfl dX11_driest_14 ?_
      refine hz_iload_n hO dX11_driest_17 rfl 2 rfl ?_
      obtain ⟨hg6, h⟩ := hz_gd_e h
      refine hz_iald hO hB.2.2.2.2.1 hB.2.2.2.2.2.1 hg6 dX11_driest_18 ?_
      obtain ⟨k11, hk11, h⟩ := hz_jn_e h
      have gk11 : ∀ (v1_7 : Int32) (v2_8 : Int32) (M9 : hz_M), k11 v1_7 v2_8 M9 = some (rE, ME) → hz_G p l e 0 hz_z0 s m args below meth c w N 3 (MQ below (hz_Qi w N rE ME) args s 0 0 (hz_A w)) M9 68 [(0, .ref (hz_ad w b)), (1, .int v1_7), (2, .int v2_8)] [] := by
        intro v1_7 v2_8 M9 h
        rw [hk11] at h
        dsimp only at h
        obtain ⟨x10, h_x10, h⟩ := hz_lt_e h
        refine hz_iinc (k := 2) (v := x10) (ls1 := [(2, .int x10), (0, .ref (hz_ad w b)), (1, .int v1_7)]) hO dX11_driest_68 rfl (by rw [h_x10]; rfl) (Nat.le_of_ble_eq_true rfl) rfl ?_
        refine hz_goto (tgt := 9) hO dX11_driest_71 (by decide) ?_
        exact hz_ls [1, 2, 0] rfl (ih v1_7 x10 M9 h)
      clear hk11
      refine hz_if_lt (tgt := 68) hO dX11_driest_19 (by decide) (fun hc12 => ?_) (fun hc12 => ?_)
      · rw [if_pos hc12] at h
        exact hz_ls [0, 1, 2] rfl (gk11 v1_2 v2_3 M4 h)
      · rw [if_neg hc12] at h
        refine hz_aload_n hO dX11_driest_22 rfl 0 rfl ?_
        refine hz_getR (k := 15) hO (b + 4) hz_K_11 hB.1 hB.2.1 rfl (Nat.le_of_ble_eq_true rfl) tw_3_207 rfl dX11_driest_23 ?_
        refine hz_aload_n hO dX11_driest_26 rfl 0 rfl ?_
        refine hz_getR (k := 13) hO (b + 2) hz_K_11 hB.1 hB.2.1 rfl (Nat.le_of_ble_eq_true rfl) tw_3_203 rfl dX11_driest_27 ?_
        refine hz_iload_n hO dX11_driest_30 rfl 2 rfl ?_
        obtain ⟨hg13, h⟩ := hz_gd_e h
        refine hz_iald hO hB.2.2.2.2.1 hB.2.2.2.2.2.1 hg13 dX11_driest_31 ?_
        obtain ⟨hg14, h⟩ := hz_gd_e h
        refine hz_iald hO hB.2.2.2.2.2.2.2.2.1 hB.2.2.2.2.2.2.2.2.2.1 hg14 dX11_driest_32 ?_
        refine hz_iconst (v := (3 : Int32)) hO dX11_driest_33 (by decide) ?_
        refine hz_icmp_ge (tgt := 68) hO dX11_driest_34 (by decide) (fun hc15 => ?_) (fun hc15 => ?_)
        · rw [if_pos hc15] at h
          exact hz_ls [0, 1, 2] rfl (gk11 v1_2 v2_3 M4 h)
        · rw [if_neg hc15] at h
          refine hz_iload_n hO dX11_driest_37 rfl 1 rfl ?_
          obtain ⟨k20, hk20, h⟩ := hz_jn_e h
          have gk20 : ∀ (v2_16 : Int32) (M17 : hz_M), k20 v2_16 M17 = some (rE, ME) → hz_G p l e 0 hz_z0 s m args below meth c w N 3 (MQ below (hz_Qi w N rE ME) args s 0 0 (hz_A w)) M17 61 [(0, .ref (hz_ad w b)), (2, .int v2_16)] [] := by
            intro v2_16 M17 h
            rw [hk20] at h
            dsimp only at h
            refine hz_aload_n hO dX11_driest_61 rfl 0 rfl ?_
            refine hz_getR (k := 13) hO (b + 2) hz_K_11 hB.1 hB.2.1 rfl (Nat.le_of_ble_eq_true rfl) tw_3_203 rfl dX11_driest_62 ?_
            refine hz_iload_n hO dX11_driest_65 rfl 1 rfl ?_
            obtain ⟨hg18, h⟩ := hz_gd_e h
            refine hz_iald hO hB.2.2.2.2.1 hB.2.2.2.2.2.1 hg18 dX11_driest_66 ?_
            obtain ⟨x19, h_x19, h⟩ := hz_lt_e h
            refine hz_name h_x19 ?_
            refine hz_istore_n (ls1 := [(1, .int x19), (0, .ref (hz_ad w b)), (2, .int v2_16)]) hO dX11_driest_67 rfl (Nat.le_of_ble_eq_true rfl) rfl ?_
            exact hz_ls [1, 0, 2] rfl (gk11 x19 v2_16 M17 h)
          clear hk20
          refine hz_if_lt (tgt := 61) hO dX11_driest_38 (by decide) (fun hc21 => ?_) (fun hc21 => ?_)
          · rw [if_pos hc21] at h
            exact hz_ls [0, 2] rfl (gk20 v2_3 M4 h)
          · rw [if_neg hc21] at h
            refine hz_aload_n hO dX11_driest_41 rfl 0 rfl ?_
            refine hz_getR (k := 15) hO (b + 4) hz_K_11 hB.1 hB.2.1 rfl (Nat.le_of_ble_eq_true rfl) tw_3_207 rfl dX11_driest_42 ?_
            refine hz_aload_n hO dX11_driest_45 rfl 0 rfl ?_
            refine hz_getR (k := 13) hO (b + 2) hz_K_11 hB.1 hB.2.1 rfl (Nat.le_of_ble_eq_true rfl) tw_3_203 rfl dX11_driest_46 ?_
            refine hz_iload_n hO dX11_driest_49 rfl 2 rfl ?_
            obtain ⟨hg22, h⟩ := hz_gd_e h
            refine hz_iald hO hB.2.2.2.2.1 hB.2.2.2.2.2.1 hg22 dX11_driest_50 ?_
            obtain ⟨hg23, h⟩ := hz_gd_e h
            refine hz_iald hO hB.2.2.2.2.2.2.2.2.1 hB.2.2.2.2.2.2.2.2.2.1 hg23 dX11_driest_51 ?_
            refine hz_aload_n hO dX11_driest_52 rfl 0 rfl ?_
            refine hz_getR (k := 15) hO (b + 4) hz_K_11 hB.1 hB.2.1 rfl (Nat.le_of_ble_eq_true rfl) tw_3_207 rfl dX11_driest_53 ?_
            refine hz_iload_n hO dX11_driest_56 rfl 1 rfl ?_
            obtain ⟨hg24, h⟩ := hz_gd_e h
            refine hz_iald hO hB.2.2.2.2.2.2.2.2.1 hB.2.2.2.2.2.2.2.2.2.1 hg24 dX11_driest_57 ?_
            refine hz_icmp_gt (tgt := 68) hO dX11_driest_58 (by decide) (fun hc25 => ?_) (fun hc25 => ?_)
            · rw [if_pos hc25] at h
              exact hz_ls [0, 1, 2] rfl (gk11 v1_2 v2_3 M4 h)
            · rw [if_neg hc25] at h
              exact hz_ls [0, 2] rfl (gk20 v2_3 M4 h)
set_option maxRecDepth 100000 in
set_option maxHeartbeats 4000000 in
theorem c_X11_driest (l : Launch) (w : hz_C) {N : Nat} (hN : 178 ≤ N) {b : Nat} (hB : hz_Own N b) {M : hz_M} {rE : Int32} {ME : hz_M} (h : f_X11_driest b M = some (rE, ME)) : hz_Ct l yX11_driest cX11_driest 3 (some .int) 0 w N [.ref (hz_ad w b)] M (hz_Qi w N rE ME) := by
  refine hz_ofW (by decide) rfl (Nat.le_of_ble_eq_true rfl) tw_4_141 ?_
  intro p e s m args below meth c hO
  show hz_G p l e 0 hz_z0 s m args below meth c w N 3 _ M 0 [(0, .ref (hz_ad w b))] []
  unfold f_X11_driest at h
  refine hz_iconst (v := (-1 : Int32)) hO dX11_driest_0 (by decide) ?_
  refine hz_istore_n (ls1 := [(1, .int (-1 : Int32)), (0, .ref (hz_ad w b))]) hO dX11_driest_1 rfl (Nat.le_of_ble_eq_true rfl) rfl ?_
  refine hz_aload_n hO dX11_driest_2 rfl 1 rfl ?_
  refine hz_getI (k := 1) hO hz_K_11 hB.1 hB.2.1 rfl (Nat.le_of_ble_eq_true rfl) tw_3_180 rfl dX11_driest_3 ?_
  refine hz_iconst (v := (1 : Int32)) hO dX11_driest_6 (by decide) ?_
  refine hz_isub hO dX11_driest_7 ?_
  obtain ⟨x1, h_x1, h⟩ := hz_lt_e h
  refine hz_name h_x1 ?_
  refine hz_istore_n (ls1 := [(2, .int x1), (1, .int (-1 : Int32)), (0, .ref (hz_ad w b))]) hO dX11_driest_8 rfl (Nat.le_of_ble_eq_true rfl) rfl ?_
  exact hz_ls [2, 1, 0] rfl (g_X11_driest_L9 hN hB hO _ (-1 : Int32) x1 M h)
def f_X11_isSilent (b : Nat) (M : hz_M) : hz_O :=
  if (M b 11) < 0 then
    some ((0 : Int32), M)
  else
    if (M b 7) ≤ ((M b 8) - (M b 11)) then
      some ((0 : Int32), M)
    else
      some ((1 : Int32), M)
set_option maxRecDepth 100000 in
set_option maxHeartbeats 4000000 in
theorem c_X11_isSilent (l : Launch) (w : hz_C) {N : Nat} (hN : 178 ≤ N) {b : Nat} (hB : hz_Own N b) {M : hz_M} {rE : Int32} {ME : hz_M} (h : f_X11_isSilent b M = some (rE, ME)) : hz_Ct l yX11_isSilent cX11_isSilent 1 (some .boolean) 0 w N [.ref (hz_ad w b)] M (hz_Qi w N rE ME) := by
  refine hz_ofW (by decide) rfl (Nat.le_of_ble_eq_true rfl) tw_5_25 ?_
  intro p e s m args below meth c hO
  show hz_G p l e 0 hz_z0 s m args below meth c w N 1 _ M 0 [(0, .ref (hz_ad w b))] []
  unfold f_X11_isSilent at h
  refine hz_aload_n hO dX11_isSilent_0 rfl 0 rfl ?_
  refine hz_getI (k := 11) hO hz_K_11 hB.1 hB.2.1 rfl (Nat.le_of_ble_eq_true rfl) tw_3_200 rfl dX11_isSilent_1 ?_
  refine hz_if_lt (tgt := 27) hO dX11_isSilent_4 (by decide) (fun hc1 => ?_) (fun hc1 => ?_)
  · rw [if_pos hc1] at h
    refine hz_iconst (v := (0 : Int32)) hO dX11_isSilent_27 (by decide) ?_
    exact hz_nameM (hz_some_e h).2.symm (hz_name (hz_some_e h).1.symm (hz_zret hO (by rw [← (hz_some_e h).1]; decide) dX11_isSilent_28))
  · rw [if_neg hc1] at h
    refine hz_aload_n hO dX11_isSilent_7 rfl 0 rfl ?_
    refine hz_getI (k := 8) hO hz_K_11 hB.1 hB.2.1 rfl (Nat.le_of_ble_eq_true rfl) tw_3_194 rfl dX11_isSilent_8 ?_
    refine hz_aload_n hO dX11_isSilent_11 rfl 0 rfl ?_
    refine hz_getI (k := 11) hO hz_K_11 hB.1 hB.2.1 rfl (Nat.le_of_ble_eq_true rfl) tw_3_200 rfl dX11_isSilent_12 ?_
    refine hz_isub hO dX11_isSilent_15 ?_
    refine hz_aload_n hO dX11_isSilent_16 rfl 0 rfl ?_
    refine hz_getI (k := 7) hO hz_K_11 hB.1 hB.2.1 rfl (Nat.le_of_ble_eq_true rfl) tw_3_192 rfl dX11_isSilent_17 ?_
    refine hz_icmp_ge (tgt := 27) hO dX11_isSilent_20 (by decide) (fun hc2 => ?_) (fun hc2 => ?_)
    · rw [if_pos hc2] at h
      refine hz_iconst (v := (0 : Int32)) hO dX11_isSilent_27 (by decide) ?_
      exact hz_nameM (hz_some_e h).2.symm (hz_name (hz_some_e h).1.symm (hz_zret hO (by rw [← (hz_some_e h).1]; decide) dX11_isSilent_28))
    · rw [if_neg hc2] at h
      refine hz_iconst (v := (1 : Int32)) hO dX11_isSilent_23 (by decide) ?_
      refine hz_goto (tgt := 28) hO dX11_isSilent_24 (by decide) ?_
      exact hz_nameM (hz_some_e h).2.symm (hz_name (hz_some_e h).1.symm (hz_zret hO (by rw [← (hz_some_e h).1]; decide) dX11_isSilent_28))
def f_X11_bears (b : Nat) (a1 : Int32) (M : hz_M) : hz_O :=
  hz_gd (hz_in a1 16) <|
  some (((60 : Int32) + ((M (b + 6) (Int32.toNatClampNeg a1)) / (4 : Int32))), M)
set_option maxRecDepth 100000 in
set_option maxHeartbeats 4000000 in
theorem c_X11_bears (l : Launch) (w : hz_C) {N : Nat} (hN : 178 ≤ N) {b : Nat} (hB : hz_Own N b) (a1 : Int32) {M : hz_M} {rE : Int32} {ME : hz_M} (h : f_X11_bears b a1 M = some (rE, ME)) : hz_Ct l yX11_bears cX11_bears 2 (some .int) 0 w N [.ref (hz_ad w b), .int a1] M (hz_Qi w N rE ME) := by
  refine hz_ofW (by decide) rfl (Nat.le_of_ble_eq_true rfl) tw_4_167 ?_
  intro p e s m args below meth c hO
  show hz_G p l e 0 hz_z0 s m args below meth c w N 2 _ M 0 [(0, .ref (hz_ad w b)), (1, .int a1)] []
  unfold f_X11_bears at h
  refine hz_bipush (v := (60 : Int32)) hO dX11_bears_0 (by decide) ?_
  refine hz_aload_n hO dX11_bears_2 rfl 0 rfl ?_
  refine hz_getR (k := 17) hO (b + 6) hz_K_11 hB.1 hB.2.1 rfl (Nat.le_of_ble_eq_true rfl) tw_3_211 rfl dX11_bears_3 ?_
  refine hz_iload_n hO dX11_bears_6 rfl 1 rfl ?_
  obtain ⟨hg1, h⟩ := hz_gd_e h
  refine hz_iald hO hB.2.2.2.2.2.2.2.2.2.2.2.2.1 hB.2.2.2.2.2.2.2.2.2.2.2.2.2.1 hg1 dX11_bears_7 ?_
  refine hz_iconst (v := (4 : Int32)) hO dX11_bears_8 (by decide) ?_
  refine hz_idiv hO dX11_bears_9 (by decide) ?_
  refine hz_iadd hO dX11_bears_10 ?_
  exact hz_nameM (hz_some_e h).2.symm (hz_name (hz_some_e h).1.symm (hz_iret hO dX11_bears_11))
def f_X11_no (b : Nat) (a1 : Int32) (a2 : Int32) (M : hz_M) : hz_O :=
  if a2 = 0 then
    hz_gd (hz_in a1 16) <|
    if (M (b + 7) (Int32.toNatClampNeg a1)) < 0 then
      hz_gd (hz_in a1 16) <|
      if (M (b + 11) (Int32.toNatClampNeg a1)) = ((M b 8) / (600 : Int32)) then
        some ((2 : Int32), M)
      else
        hz_ct (f_X11_inside b M) fun r41 M42 =>
        if r41 = (M42 b 0) then
          some ((3 : Int32), M42)
        else
          hz_ct (f_X11_driest b M42) fun r45 M46 =>
          if 0 ≤ r45 then
            some ((0 : Int32), M46)
          else
            some ((4 : Int32), M46)
    else
      some ((1 : Int32), M)
  else
    hz_gd (hz_in a1 16) <|
    if 0 ≤ (M (b + 7) (Int32.toNatClampNeg a1)) then
      hz_jn (fun (v1_4 : Int32) (v2_5 : Int32) (M6 : hz_M) =>
        hz_gd (hz_in v1_4 16) <|
        if (M6 (b + 7) (Int32.toNatClampNeg v1_4)) ≤ 0 then
          if v2_5 = (1 : Int32) then
            some ((0 : Int32), M6)
          else
            if (40 : Int32) ≤ v2_5 then
              hz_gd (hz_in v1_4 16) <|
              if (M6 (b + 8) (Int32.toNatClampNeg v1_4)) < 0 then
                hz_gd (hz_in (v2_5 - (40 : Int32)) 16) <|
                if 0 ≤ (M6 (b + 2) (Int32.toNatClampNeg (v2_5 - (40 : Int32)))) then
                  some ((0 : Int32), M6)
                else
                  some ((12 : Int32), M6)
              else
                some ((11 : Int32), M6)
            else
              hz_gd (hz_in v1_4 16) <|
              if 0 ≤ (M6 (b + 8) (Int32.toNatClampNeg v1_4)) then
                hz_gd (hz_in (v2_5 - (20 : Int32)) 16) <|
                if (M6 (b + 2) (Int32.toNatClampNeg (v2_5 - (20 : Int32)))) < 0 then
                  some ((0 : Int32), M6)
                else
                  some ((10 : Int32), M6)
              else
                some ((6 : Int32), M6)
        else
          some ((9 : Int32), M6)
        ) fun k19 =>
      if a2 ≤ (9 : Int32) then
        k19 a1 a2 M
      else
        if (20 : Int32) ≤ a2 then
          k19 a1 a2 M
        else
          hz_lt ((a2 - (10 : Int32))) fun x22 =>
          hz_gd (hz_in a1 16) <|
          if 0 ≤ (M (b + 8) (Int32.toNatClampNeg a1)) then
            hz_gd (hz_in a1 16) <|
            if (((5 : Int32) * x22) - (5 : Int32)) ≤ (M (b + 6) (Int32.toNatClampNeg a1)) then
              hz_ct (f_X11_on b x22 M) fun r27 M28 =>
              hz_gd (hz_in a1 16) <|
              hz_jn (fun (q31 : Int32) (q32 : Int32) (M33 : hz_M) =>
                if (q32 - q31) < (M33 b 5) then
                  some ((0 : Int32), M33)
                else
                  some ((8 : Int32), M33)
                ) fun k35 =>
              if (M28 (b + 7) (Int32.toNatClampNeg a1)) = x22 then
                k35 (1 : Int32) r27 M28
              else
                k35 (0 : Int32) r27 M28
            else
              some ((7 : Int32), M)
          else
            some ((6 : Int32), M)
    else
      some ((5 : Int32), M)
set_option maxRecDepth 100000 in
set_option maxHeartbeats 4000000 in
theorem c_X11_no (l : Launch) (w : hz_C) {N : Nat} (hN : 178 ≤ N) {b : Nat} (hB : hz_Own N b) (a1 : Int32) (a2 : Int32) {M : hz_M} {rE : Int32} {ME : hz_M} (h : f_X11_no b a1 a2 M = some (rE, ME)) : hz_Ct l yX11_no cX11_no 4 (some .int) 2 w N [.ref (hz_ad w b), .int a1, .int a2] M (hz_Qi w N rE ME) := by
  refine hz_ofW (by decide) rfl (Nat.le_of_ble_eq_true rfl) tw_4_129 ?_
  intro p e s m args below meth c hO
  show hz_G p l e 2 hz_z0 s m args below meth c w N 4 _ M 0 [(0, .ref (hz_ad w b)), (1, .int a1), (2, .int a2)] []
  unfold f_X11_no at h
  refine hz_iload_n hO dX11_no_0 rfl 2 rfl ?_
  refine hz_if_ne (tgt := 66) hO dX11_no_1 (by decide) (fun hc1 => ?_) (fun hc1 => ?_)
  · rw [if_neg hc1] at h
    refine hz_aload_n hO dX11_no_66 rfl 0 rfl ?_
    refine hz_getR (k := 18) hO (b + 7) hz_K_11 hB.1 hB.2.1 rfl (Nat.le_of_ble_eq_true rfl) tw_3_213 rfl dX11_no_67 ?_
    refine hz_iload_n hO dX11_no_70 rfl 1 rfl ?_
    obtain ⟨hg2, h⟩ := hz_gd_e h
    refine hz_iald hO hB.2.2.2.2.2.2.2.2.2.2.2.2.2.2.1 hB.2.2.2.2.2.2.2.2.2.2.2.2.2.2.2.1 hg2 dX11_no_71 ?_
    refine hz_if_ge (tgt := 77) hO dX11_no_72 (by decide) (fun hc3 => ?_) (fun hc3 => ?_)
    · rw [if_pos hc3] at h
      refine hz_iload_n hO dX11_no_77 rfl 2 rfl ?_
      refine hz_bipush (v := (9 : Int32)) hO dX11_no_78 (by decide) ?_
      obtain ⟨k19, hk19, h⟩ := hz_jn_e h
      have gk19 : ∀ (v1_4 : Int32) (v2_5 : Int32) (M6 : hz_M), k19 v1_4 v2_5 M6 = some (rE, ME) → hz_G p l e 2 hz_z0 s m args below meth c w N 4 (MQ below (hz_Qi w N rE ME) args s 0 0 (hz_A w)) M6 162 [(0, .ref (hz_ad w b)), (1, .int v1_4), (2, .int v2_5)] [] := by
        intro v1_4 v2_5 M6 h
        rw [hk19] at h
        dsimp only at h
        refine hz_aload_n hO dX11_no_162 rfl 0 rfl ?_
        refine hz_getR (k := 18) hO (b + 7) hz_K_11 hB.1 hB.2.1 rfl (Nat.le_of_ble_eq_true rfl) tw_3_213 rfl dX11_no_163 ?_
        refine hz_iload_n hO dX11_no_166 rfl 1 rfl ?_
        obtain ⟨hg7, h⟩ := hz_gd_e h
        refine hz_iald hO hB.2.2.2.2.2.2.2.2.2.2.2.2.2.2.1 hB.2.2.2.2.2.2.2.2.2.2.2.2.2.2.2.1 hg7 dX11_no_167 ?_
        refine hz_if_le (tgt := 174) hO dX11_no_168 (by decide) (fun hc8 => ?_) (fun hc8 => ?_)
        · rw [if_pos hc8] at h
          refine hz_iload_n hO dX11_no_174 rfl 2 rfl ?_
          refine hz_iconst (v := (1 : Int32)) hO dX11_no_175 (by decide) ?_
          refine hz_icmp_ne (tgt := 181) hO dX11_no_176 (by decide) (fun hc9 => ?_) (fun hc9 => ?_)
          · rw [if_neg hc9] at h
            refine hz_iload_n hO dX11_no_181 rfl 2 rfl ?_
            refine hz_bipush (v := (40 : Int32)) hO dX11_no_182 (by decide) ?_
            refine hz_icmp_ge (tgt := 220) hO dX11_no_184 (by decide) (fun hc10 => ?_) (fun hc10 => ?_)
            · rw [if_pos hc10] at h
              refine hz_aload_n hO dX11_no_220 rfl 0 rfl ?_
              refine hz_getR (k := 19) hO (b + 8) hz_K_11 hB.1 hB.2.1 rfl (Nat.le_of_ble_eq_true rfl) tw_3_215 rfl dX11_no_221 ?_
              refine hz_iload_n hO dX11_no_224 rfl 1 rfl ?_
              obtain ⟨hg11, h⟩ := hz_gd_e h
              refine hz_iald hO hB.2.2.2.2.2.2.2.2.2.2.2.2.2.2.2.2.1 hB.2.2.2.2.2.2.2.2.2.2.2.2.2.2.2.2.2.1 hg11 dX11_no_225 ?_
              refine hz_if_lt (tgt := 234) hO dX11_no_226 (by decide) (fun hc12 => ?_) (fun hc12 => ?_)
              · rw [if_pos hc12] at h
                refine hz_aload_n hO dX11_no_234 rfl 0 rfl ?_
                refine hz_getR (k := 13) hO (b + 2) hz_K_11 hB.1 hB.2.1 rfl (Nat.le_of_ble_eq_true rfl) tw_3_203 rfl dX11_no_235 ?_
                refine hz_iload_n hO dX11_no_238 rfl 2 rfl ?_
                refine hz_bipush (v := (40 : Int32)) hO dX11_no_239 (by decide) ?_
                refine hz_isub hO dX11_no_241 ?_
                obtain ⟨hg13, h⟩ := hz_gd_e h
                refine hz_iald hO hB.2.2.2.2.1 hB.2.2.2.2.2.1 hg13 dX11_no_242 ?_
                refine hz_if_ge (tgt := 251) hO dX11_no_243 (by decide) (fun hc14 => ?_) (fun hc14 => ?_)
                · rw [if_pos hc14] at h
                  refine hz_iconst (v := (0 : Int32)) hO dX11_no_251 (by decide) ?_
                  exact hz_nameM (hz_some_e h).2.symm (hz_name (hz_some_e h).1.symm (hz_iret hO dX11_no_252))
                · rw [if_neg hc14] at h
                  refine hz_bipush (v := (12 : Int32)) hO dX11_no_246 (by decide) ?_
                  refine hz_goto (tgt := 252) hO dX11_no_248 (by decide) ?_
                  exact hz_nameM (hz_some_e h).2.symm (hz_name (hz_some_e h).1.symm (hz_iret hO dX11_no_252))
              · rw [if_neg hc12] at h
                refine hz_bipush (v := (11 : Int32)) hO dX11_no_229 (by decide) ?_
                refine hz_goto (tgt := 252) hO dX11_no_231 (by decide) ?_
                exact hz_nameM (hz_some_e h).2.symm (hz_name (hz_some_e h).1.symm (hz_iret hO dX11_no_252))
            · rw [if_neg hc10] at h
              refine hz_aload_n hO dX11_no_187 rfl 0 rfl ?_
              refine hz_getR (k := 19) hO (b + 8) hz_K_11 hB.1 hB.2.1 rfl (Nat.le_of_ble_eq_true rfl) tw_3_215 rfl dX11_no_188 ?_
              refine hz_iload_n hO dX11_no_191 rfl 1 rfl ?_
              obtain ⟨hg15, h⟩ := hz_gd_e h
              refine hz_iald hO hB.2.2.2.2.2.2.2.2.2.2.2.2.2.2.2.2.1 hB.2.2.2.2.2.2.2.2.2.2.2.2.2.2.2.2.2.1 hg15 dX11_no_192 ?_
              refine hz_if_ge (tgt := 201) hO dX11_no_193 (by decide) (fun hc16 => ?_) (fun hc16 => ?_)
              · rw [if_pos hc16] at h
                refine hz_aload_n hO dX11_no_201 rfl 0 rfl ?_
                refine hz_getR (k := 13) hO (b + 2) hz_K_11 hB.1 hB.2.1 rfl (Nat.le_of_ble_eq_true rfl) tw_3_203 rfl dX11_no_202 ?_
                refine hz_iload_n hO dX11_no_205 rfl 2 rfl ?_
                refine hz_bipush (v := (20 : Int32)) hO dX11_no_206 (by decide) ?_
                refine hz_isub hO dX11_no_208 ?_
                obtain ⟨hg17, h⟩ := hz_gd_e h
                refine hz_iald hO hB.2.2.2.2.1 hB.2.2.2.2.2.1 hg17 dX11_no_209 ?_
                refine hz_if_lt (tgt := 218) hO dX11_no_210 (by decide) (fun hc18 => ?_) (fun hc18 => ?_)
                · rw [if_pos hc18] at h
                  refine hz_iconst (v := (0 : Int32)) hO dX11_no_218 (by decide) ?_
                  exact hz_nameM (hz_some_e h).2.symm (hz_name (hz_some_e h).1.symm (hz_iret hO dX11_no_219))
                · rw [if_neg hc18] at h
                  refine hz_bipush (v := (10 : Int32)) hO dX11_no_213 (by decide) ?_
                  refine hz_goto (tgt := 219) hO dX11_no_215 (by decide) ?_
                  exact hz_nameM (hz_some_e h).2.symm (hz_name (hz_some_e h).1.symm (hz_iret hO dX11_no_219))
              · rw [if_neg hc16] at h
                refine hz_bipush (v := (6 : Int32)) hO dX11_no_196 (by decide) ?_
                refine hz_goto (tgt := 219) hO dX11_no_198 (by decide) ?_
                exact hz_nameM (hz_some_e h).2.symm (hz_name (hz_some_e h).1.symm (hz_iret hO dX11_no_219))
          · rw [if_pos hc9] at h
            refine hz_iconst (v := (0 : Int32)) hO dX11_no_179 (by decide) ?_
            exact hz_nameM (hz_some_e h).2.symm (hz_name (hz_some_e h).1.symm (hz_iret hO dX11_no_180))
        · rw [if_neg hc8] at h
          refine hz_bipush (v := (9 : Int32)) hO dX11_no_171 (by decide) ?_
          exact hz_nameM (hz_some_e h).2.symm (hz_name (hz_some_e h).1.symm (hz_iret hO dX11_no_173))
      clear hk19
      refine hz_icmp_le (tgt := 162) hO dX11_no_80 (by decide) (fun hc20 => ?_) (fun hc20 => ?_)
      · rw [if_pos hc20] at h
        exact hz_ls [0, 1, 2] rfl (gk19 a1 a2 M h)
      · rw [if_neg hc20] at h
        refine hz_iload_n hO dX11_no_83 rfl 2 rfl ?_
        refine hz_bipush (v := (20 : Int32)) hO dX11_no_84 (by decide) ?_
        refine hz_icmp_ge (tgt := 162) hO dX11_no_86 (by decide) (fun hc21 => ?_) (fun hc21 => ?_)
        · rw [if_pos hc21] at h
          exact hz_ls [0, 1, 2] rfl (gk19 a1 a2 M h)
        · rw [if_neg hc21] at h
          refine hz_iload_n hO dX11_no_89 rfl 2 rfl ?_
          refine hz_bipush (v := (10 : Int32)) hO dX11_no_90 (by decide) ?_
          refine hz_isub hO dX11_no_92 ?_
          obtain ⟨x22, h_x22, h⟩ := hz_lt_e h
          refine hz_name h_x22 ?_
          refine hz_istore_n (ls1 := [(3, .int x22), (0, .ref (hz_ad w b)), (1, .int a1), (2, .int a2)]) hO dX11_no_93 rfl (Nat.le_of_ble_eq_true rfl) rfl ?_
          refine hz_aload_n hO dX11_no_94 rfl 1 rfl ?_
          refine hz_getR (k := 19) hO (b + 8) hz_K_11 hB.1 hB.2.1 rfl (Nat.le_of_ble_eq_true rfl) tw_3_215 rfl dX11_no_95 ?_
          refine hz_iload_n hO dX11_no_98 rfl 2 rfl ?_
          obtain ⟨hg23, h⟩ := hz_gd_e h
          refine hz_iald hO hB.2.2.2.2.2.2.2.2.2.2.2.2.2.2.2.2.1 hB.2.2.2.2.2.2.2.2.2.2.2.2.2.2.2.2.2.1 hg23 dX11_no_99 ?_
          refine hz_if_ge (tgt := 108) hO dX11_no_100 (by decide) (fun hc24 => ?_) (fun hc24 => ?_)
          · rw [if_pos hc24] at h
            refine hz_aload_n hO dX11_no_108 rfl 1 rfl ?_
            refine hz_getR (k := 17) hO (b + 6) hz_K_11 hB.1 hB.2.1 rfl (Nat.le_of_ble_eq_true rfl) tw_3_211 rfl dX11_no_109 ?_
            refine hz_iload_n hO dX11_no_112 rfl 2 rfl ?_
            obtain ⟨hg25, h⟩ := hz_gd_e h
            refine hz_iald hO hB.2.2.2.2.2.2.2.2.2.2.2.2.1 hB.2.2.2.2.2.2.2.2.2.2.2.2.2.1 hg25 dX11_no_113 ?_
            refine hz_iconst (v := (5 : Int32)) hO dX11_no_114 (by decide) ?_
            refine hz_iload_n hO dX11_no_115 rfl 0 rfl ?_
            refine hz_imul hO dX11_no_116 ?_
            refine hz_iconst (v := (5 : Int32)) hO dX11_no_117 (by decide) ?_
            refine hz_isub hO dX11_no_118 ?_
            refine hz_icmp_ge (tgt := 127) hO dX11_no_119 (by decide) (fun hc26 => ?_) (fun hc26 => ?_)
            · rw [if_pos hc26] at h
              refine hz_aload_n hO dX11_no_127 rfl 1 rfl ?_
              refine hz_iload_n hO dX11_no_128 rfl 0 rfl ?_
              obtain ⟨r27, M28, hq29, h⟩ := hz_ct_e h
              refine hz_callVi (as := [.int x22]) (rest := []) hO (c_X11_on l w hN hB x22 hq29) hz_cal_X11_on hz_K_11 hB.1 hB.2.1 tw_4_134 (Nat.le_of_ble_eq_true rfl) rfl rfl (Nat.le_of_ble_eq_true rfl) dX11_no_129 ?_
              refine hz_aload_n hO dX11_no_132 rfl 1 rfl ?_
              refine hz_getR (k := 18) hO (b + 7) hz_K_11 hB.1 hB.2.1 rfl (Nat.le_of_ble_eq_true rfl) tw_3_213 rfl dX11_no_133 ?_
              refine hz_iload_n hO dX11_no_136 rfl 2 rfl ?_
              obtain ⟨hg30, h⟩ := hz_gd_e h
              refine hz_iald hO hB.2.2.2.2.2.2.2.2.2.2.2.2.2.2.1 hB.2.2.2.2.2.2.2.2.2.2.2.2.2.2.2.1 hg30 dX11_no_137 ?_
              refine hz_iload_n hO dX11_no_138 rfl 0 rfl ?_
              obtain ⟨k35, hk35, h⟩ := hz_jn_e h
              have gk35 : ∀ (q31 : Int32) (q32 : Int32) (M33 : hz_M), k35 q31 q32 M33 = some (rE, ME) → hz_G p l e 2 hz_z0 s m args below meth c w N 4 (MQ below (hz_Qi w N rE ME) args s 0 0 (hz_A w)) M33 147 [(0, .ref (hz_ad w b))] [.int q31, .int q32] := by
                intro q31 q32 M33 h
                rw [hk35] at h
                dsimp only at h
                refine hz_isub hO dX11_no_147 ?_
                refine hz_aload_n hO dX11_no_148 rfl 0 rfl ?_
                refine hz_getI (k := 5) hO hz_K_11 hB.1 hB.2.1 rfl (Nat.le_of_ble_eq_true rfl) tw_3_188 rfl dX11_no_149 ?_
                refine hz_icmp_lt (tgt := 160) hO dX11_no_152 (by decide) (fun hc34 => ?_) (fun hc34 => ?_)
                · rw [if_pos hc34] at h
                  refine hz_iconst (v := (0 : Int32)) hO dX11_no_160 (by decide) ?_
                  exact hz_nameM (hz_some_e h).2.symm (hz_name (hz_some_e h).1.symm (hz_iret hO dX11_no_161))
                · rw [if_neg hc34] at h
                  refine hz_bipush (v := (8 : Int32)) hO dX11_no_155 (by decide) ?_
                  refine hz_goto (tgt := 161) hO dX11_no_157 (by decide) ?_
                  exact hz_nameM (hz_some_e h).2.symm (hz_name (hz_some_e h).1.symm (hz_iret hO dX11_no_161))
              clear hk35
              refine hz_icmp_ne (tgt := 146) hO dX11_no_139 (by decide) (fun hc36 => ?_) (fun hc36 => ?_)
              · rw [if_neg hc36] at h
                refine hz_iconst (v := (0 : Int32)) hO dX11_no_146 (by decide) ?_
                exact hz_ls [1] rfl (gk35 (0 : Int32) r27 M28 h)
              · rw [if_pos hc36] at h
                refine hz_iconst (v := (1 : Int32)) hO dX11_no_142 (by decide) ?_
                refine hz_goto (tgt := 147) hO dX11_no_143 (by decide) ?_
                exact hz_ls [1] rfl (gk35 (1 : Int32) r27 M28 h)
            · rw [if_neg hc26] at h
              refine hz_bipush (v := (7 : Int32)) hO dX11_no_122 (by decide) ?_
              refine hz_goto (tgt := 161) hO dX11_no_124 (by decide) ?_
              exact hz_nameM (hz_some_e h).2.symm (hz_name (hz_some_e h).1.symm (hz_iret hO dX11_no_161))
          · rw [if_neg hc24] at h
            refine hz_bipush (v := (6 : Int32)) hO dX11_no_103 (by decide) ?_
            refine hz_goto (tgt := 161) hO dX11_no_105 (by decide) ?_
            exact hz_nameM (hz_some_e h).2.symm (hz_name (hz_some_e h).1.symm (hz_iret hO dX11_no_161))
    · rw [if_neg hc3] at h
      refine hz_iconst (v := (5 : Int32)) hO dX11_no_75 (by decide) ?_
      exact hz_nameM (hz_some_e h).2.symm (hz_name (hz_some_e h).1.symm (hz_iret hO dX11_no_76))
  · rw [if_pos hc1] at h
    refine hz_aload_n hO dX11_no_4 rfl 0 rfl ?_
    refine hz_getR (k := 18) hO (b + 7) hz_K_11 hB.1 hB.2.1 rfl (Nat.le_of_ble_eq_true rfl) tw_3_213 rfl dX11_no_5 ?_
    refine hz_iload_n hO dX11_no_8 rfl 1 rfl ?_
    obtain ⟨hg37, h⟩ := hz_gd_e h
    refine hz_iald hO hB.2.2.2.2.2.2.2.2.2.2.2.2.2.2.1 hB.2.2.2.2.2.2.2.2.2.2.2.2.2.2.2.1 hg37 dX11_no_9 ?_
    refine hz_if_lt (tgt := 17) hO dX11_no_10 (by decide) (fun hc38 => ?_) (fun hc38 => ?_)
    · rw [if_pos hc38] at h
      refine hz_aload_n hO dX11_no_17 rfl 0 rfl ?_
      refine hz_getR (k := 22) hO (b + 11) hz_K_11 hB.1 hB.2.1 rfl (Nat.le_of_ble_eq_true rfl) tw_3_221 rfl dX11_no_18 ?_
      refine hz_iload_n hO dX11_no_21 rfl 1 rfl ?_
      obtain ⟨hg39, h⟩ := hz_gd_e h
      refine hz_iald hO hB.2.2.2.2.2.2.2.2.2.2.2.2.2.2.2.2.2.2.2.2.2.2.1 hB.2.2.2.2.2.2.2.2.2.2.2.2.2.2.2.2.2.2.2.2.2.2.2 hg39 dX11_no_22 ?_
      refine hz_aload_n hO dX11_no_23 rfl 0 rfl ?_
      refine hz_getI (k := 8) hO hz_K_11 hB.1 hB.2.1 rfl (Nat.le_of_ble_eq_true rfl) tw_3_194 rfl dX11_no_24 ?_
      refine hz_sipush (v := (600 : Int32)) hO dX11_no_27 (by decide) ?_
      refine hz_idiv hO dX11_no_30 (by decide) ?_
      refine hz_icmp_ne (tgt := 38) hO dX11_no_31 (by decide) (fun hc40 => ?_) (fun hc40 => ?_)
      · rw [if_neg hc40] at h
        refine hz_aload_n hO dX11_no_38 rfl 0 rfl ?_
        obtain ⟨r41, M42, hq43, h⟩ := hz_ct_e h
        refine hz_callVi (as := []) (rest := []) hO (c_X11_inside l w hN hB hq43) hz_cal_X11_inside hz_K_11 hB.1 hB.2.1 tw_4_130 (Nat.le_of_ble_eq_true rfl) rfl rfl (Nat.le_of_ble_eq_true rfl) dX11_no_39 ?_
        refine hz_aload_n hO dX11_no_42 rfl 0 rfl ?_
        refine hz_getI (k := 0) hO hz_K_11 hB.1 hB.2.1 rfl (Nat.le_of_ble_eq_true rfl) tw_3_178 rfl dX11_no_43 ?_
        refine hz_icmp_ne (tgt := 53) hO dX11_no_46 (by decide) (fun hc44 => ?_) (fun hc44 => ?_)
        · rw [if_neg hc44] at h
          refine hz_aload_n hO dX11_no_53 rfl 0 rfl ?_
          obtain ⟨r45, M46, hq47, h⟩ := hz_ct_e h
          refine hz_callVi (as := []) (rest := []) hO (c_X11_driest l w hN hB hq47) hz_cal_X11_driest hz_K_11 hB.1 hB.2.1 tw_4_138 (Nat.le_of_ble_eq_true rfl) rfl rfl (Nat.le_of_ble_eq_true rfl) dX11_no_54 ?_
          refine hz_if_ge (tgt := 64) hO dX11_no_57 (by decide) (fun hc48 => ?_) (fun hc48 => ?_)
          · rw [if_pos hc48] at h
            refine hz_iconst (v := (0 : Int32)) hO dX11_no_64 (by decide) ?_
            exact hz_nameM (hz_some_e h).2.symm (hz_name (hz_some_e h).1.symm (hz_iret hO dX11_no_65))
          · rw [if_neg hc48] at h
            refine hz_iconst (v := (4 : Int32)) hO dX11_no_60 (by decide) ?_
            refine hz_goto (tgt := 65) hO dX11_no_61 (by decide) ?_
            exact hz_nameM (hz_some_e h).2.symm (hz_name (hz_some_e h).1.symm (hz_iret hO dX11_no_65))
        · rw [if_pos hc44] at h
          refine hz_iconst (v := (3 : Int32)) hO dX11_no_49 (by decide) ?_
          refine hz_goto (tgt := 65) hO dX11_no_50 (by decide) ?_
          exact hz_nameM (hz_some_e h).2.symm (hz_name (hz_some_e h).1.symm (hz_iret hO dX11_no_65))
      · rw [if_pos hc40] at h
        refine hz_iconst (v := (2 : Int32)) hO dX11_no_34 (by decide) ?_
        refine hz_goto (tgt := 65) hO dX11_no_35 (by decide) ?_
        exact hz_nameM (hz_some_e h).2.symm (hz_name (hz_some_e h).1.symm (hz_iret hO dX11_no_65))
    · rw [if_neg hc38] at h
      refine hz_iconst (v := (1 : Int32)) hO dX11_no_13 (by decide) ?_
      refine hz_goto (tgt := 65) hO dX11_no_14 (by decide) ?_
      exact hz_nameM (hz_some_e h).2.symm (hz_name (hz_some_e h).1.symm (hz_iret hO dX11_no_65))
def f_X11_cause_L18 (b : Nat) (kk64 : Int32 → Int32 → Int32 → Int32 → hz_M → hz_O) : Nat → Int32 → Int32 → Int32 → Int32 → Int32 → hz_M → hz_O
  | 0, _, _, _, _, _, _ => none
  | n + 1, v1_20, v2_21, v3_22, v4_23, v5_24, M25 =>
    if v5_24 < 0 then
      kk64 v1_20 v2_21 v3_22 v4_23 M25
    else
      if v3_22 = (8 : Int32) then
        hz_jn (fun (v1_28 : Int32) (v2_29 : Int32) (v3_30 : Int32) (v5_31 : Int32) (q32 : Int32) (M33 : hz_M) =>
          hz_lt (v5_31 + (-1 : Int32)) fun x34 =>
          f_X11_cause_L18 b kk64 n v1_28 v2_29 v3_30 q32 x34 M33
          ) fun k35 =>
        hz_jn (fun (v1_36 : Int32) (v2_37 : Int32) (v3_38 : Int32) (v4_39 : Int32) (v5_40 : Int32) (M41 : hz_M) =>
          k35 v1_36 v2_37 v3_38 v5_40 v4_39 M41
          ) fun k42 =>
        if v5_24 = v1_20 then
          k42 v1_20 v2_21 v3_22 v4_23 v5_24 M25
        else
          hz_gd (hz_in v5_24 16) <|
          if (M25 (b + 7) (Int32.toNatClampNeg v5_24)) = (v2_21 - (10 : Int32)) then
            k35 v1_20 v2_21 v3_22 v5_24 v5_24 M25
          else
            k42 v1_20 v2_21 v3_22 v4_23 v5_24 M25
      else
        kk64 v1_20 v2_21 v3_22 v4_23 M25
def f_X11_cause (b : Nat) (a1 : Int32) (a2 : Int32) (M : hz_M) : hz_O :=
  hz_ct (f_X11_no b a1 a2 M) fun r1 M2 =>
  hz_lt (((M2 b 10) - (1 : Int32))) fun x4 =>
  hz_jn (fun (v1_5 : Int32) (v2_6 : Int32) (v3_7 : Int32) (v4_8 : Int32) (M9 : hz_M) =>
    if v3_7 = (2 : Int32) then
      some (((700 : Int32) - ((M9 b 8) - (M9 b 8) / (600 : Int32) * (600 : Int32))), M9)
    else
      if v3_7 = (3 : Int32) then
        some (((200 : Int32) + (M9 b 0)), M9)
      else
        if v3_7 = (7 : Int32) then
          hz_gd (hz_in v1_5 16) <|
          some ((((300 : Int32) + ((5 : Int32) * (v2_6 - (11 : Int32)))) - (M9 (b + 6) (Int32.toNatClampNeg v1_5))), M9)
        else
          if v3_7 = (8 : Int32) then
            some (((400 : Int32) + v4_8), M9)
          else
            if v3_7 = (9 : Int32) then
              hz_gd (hz_in v1_5 16) <|
              some (((500 : Int32) + (M9 (b + 7) (Int32.toNatClampNeg v1_5))), M9)
            else
              if v3_7 = (10 : Int32) then
                hz_gd (hz_in (v2_6 - (20 : Int32)) 16) <|
                some (((600 : Int32) + (M9 (b + 2) (Int32.toNatClampNeg (v2_6 - (20 : Int32))))), M9)
              else
                some ((0 : Int32), M9)
    ) fun k19 =>
  f_X11_cause_L18 b k19 hz_FU a1 a2 r1 (-1 : Int32) x4 M2
set_option maxRecDepth 100000 in
set_option maxHeartbeats 4000000 in
theorem g_X11_cause_L18 {p : Program} {l : Launch} {e : Env} {s : State} {m : MethodId} {args : Array Value} {below : List Frame} {meth : Method} {c : Code} {w : hz_C} {N : Nat} (hN : 178 ≤ N) {b : Nat} (hB : hz_Own N b) {rE : Int32} {ME : hz_M} (hO : hz_Ok p s m args meth c w cX11_cause 6 RX11 (some .int)) (kk64 : Int32 → Int32 → Int32 → Int32 → hz_M → hz_O) (gkk64 : ∀ (v1_5 : Int32) (v2_6 : Int32) (v3_7 : Int32) (v4_8 : Int32) (M : hz_M), kk64 v1_5 v2_6 v3_7 v4_8 M = some (rE, ME) → hz_G p l e 3 hz_z0 s m args below meth c w N 6 (MQ below (hz_Qi w N rE ME) args s 0 0 (hz_A w)) M 64 [(0, .ref (hz_ad w b)), (1, .int v1_5), (2, .int v2_6), (3, .int v3_7), (4, .int v4_8)] []) : ∀ (n : Nat) (v1_20 : Int32) (v2_21 : Int32) (v3_22 : Int32) (v4_23 : Int32) (v5_24 : Int32) (M25 : hz_M), f_X11_cause_L18 b kk64 n v1_20 v2_21 v3_22 v4_23 v5_24 M25 = some (rE, ME) → hz_G p l e 3 hz_z0 s m args below meth c w N 6 (MQ below (hz_Qi w N rE ME) args s 0 0 (hz_A w)) M25 18 [(0, .ref (hz_ad w b)), (1, .int v1_20), (2, .int v2_21), (3, .int v3_22), (4, .int v4_23), (5, .int v5_24)] [] := by
  intro n
  induction n with
  | zero =>
    intro v1_20 v2_21 v3_22 v4_23 v5_24 M25 h
    rw [f_X11_cause_L18] at h
    cases h
  | succ n ih =>
    intro v1_20 v2_21 v3_22 v4_23 v5_24 M25 h
    rw [f_X11_cause_L18] at h
    refine hz_iload hO dX11_cause_18 5 rfl ?_
    refine hz_if_lt (tgt := 64) hO dX11_cause_20 (by decide) (fun hc26 => ?_) (fun hc26 => ?_)
    · rw [if_pos hc26] at h
      exact hz_ls [0, 1, 2, 3, 4] rfl (gkk64 v1_20 v2_21 v3_22 v4_23 M25 h)
    · rw [if_neg hc26] at h
      refine hz_iload_n hO dX11_cause_23 rfl 3 rfl ?_
      refine hz_bipush (v := (8 : Int32)) hO dX11_cause_24 (by decide) ?_
      refine hz_icmp_ne (tgt := 64) hO dX11_cause_26 (by decide) (fun hc27 => ?_) (fun hc27 => ?_)
      · rw [if_neg hc27] at h
        exact hz_ls [0, 1, 2, 3, 4] rfl (gkk64 v1_20 v2_21 v3_22 v4_23 M25 h)
      · rw [if_pos hc27] at h
        refine hz_iload hO dX11_cause_29 5 rfl ?_
        refine hz_iload_n hO dX11_cause_31 rfl 1 rfl ?_
        obtain ⟨k35, hk35, h⟩ := hz_jn_e h
        have gk35 : ∀ (v1_28 : Int32) (v2_29 : Int32) (v3_30 : Int32) (v5_31 : Int32) (q32 : Int32) (M33 : hz_M), k35 v1_28 v2_29 v3_30 v5_31 q32 M33 = some (rE, ME) → hz_G p l e 3 hz_z0 s m args below meth c w N 6 (MQ below (hz_Qi w N rE ME) args s 0 0 (hz_A w)) M33 56 [(0, .ref (hz_ad w b)), (1, .int v1_28), (2, .int v2_29), (3, .int v3_30), (5, .int v5_31)] [.int q32] := by
          intro v1_28 v2_29 v3_30 v5_31 q32 M33 h
          rw [hk35] at h
          dsimp only at h
          refine hz_istore (ls1 := [(4, .int q32), (0, .ref (hz_ad w b)), (1, .int v1_28), (2, .int v2_29), (3, .int v3_30), (5, .int v5_31)]) hO dX11_cause_56 (Nat.le_of_ble_eq_true rfl) rfl ?_
          obtain ⟨x34, h_x34, h⟩ := hz_lt_e h
          refine hz_iinc (k := 5) (v := x34) (ls1 := [(5, .int x34), (4, .int q32), (0, .ref (hz_ad w b)), (1, .int v1_28), (2, .int v2_29), (3, .int v3_30)]) hO dX11_cause_58 rfl (by rw [h_x34]; rfl) (Nat.le_of_ble_eq_true rfl) rfl ?_
          refine hz_goto (tgt := 18) hO dX11_cause_61 (by decide) ?_
          exact hz_ls [2, 3, 4, 5, 1, 0] rfl (ih v1_28 v2_29 v3_30 q32 x34 M33 h)
        clear hk35
        obtain ⟨k42, hk42, h⟩ := hz_jn_e h
        have gk42 : ∀ (v1_36 : Int32) (v2_37 : Int32) (v3_38 : Int32) (v4_39 : Int32) (v5_40 : Int32) (M41 : hz_M), k42 v1_36 v2_37 v3_38 v4_39 v5_40 M41 = some (rE, ME) → hz_G p l e 3 hz_z0 s m args below meth c w N 6 (MQ below (hz_Qi w N rE ME) args s 0 0 (hz_A w)) M41 54 [(0, .ref (hz_ad w b)), (1, .int v1_36), (2, .int v2_37), (3, .int v3_38), (4, .int v4_39), (5, .int v5_40)] [] := by
          intro v1_36 v2_37 v3_38 v4_39 v5_40 M41 h
          rw [hk42] at h
          dsimp only at h
          refine hz_iload hO dX11_cause_54 4 rfl ?_
          exact hz_ls [0, 1, 2, 3, 5] rfl (gk35 v1_36 v2_37 v3_38 v5_40 v4_39 M41 h)
        clear hk42
        refine hz_icmp_eq (tgt := 54) hO dX11_cause_32 (by decide) (fun hc43 => ?_) (fun hc43 => ?_)
        · rw [if_pos hc43] at h
          exact hz_ls [0, 1, 2, 3, 4, 5] rfl (gk42 v1_20 v2_21 v3_22 v4_23 v5_24 M25 h)
        · rw [if_neg hc43] at h
          refine hz_aload_n hO dX11_cause_35 rfl 0 rfl ?_
          refine hz_getR (k := 18) hO (b + 7) hz_K_11 hB.1 hB.2.1 rfl (Nat.le_of_ble_eq_true rfl) tw_3_213 rfl dX11_cause_36 ?_
          refine hz_iload hO dX11_cause_39 5 rfl ?_
          obtain ⟨hg44, h⟩ := hz_gd_e h
          refine hz_iald hO hB.2.2.2.2.2.2.2.2.2.2.2.2.2.2.1 hB.2.2.2.2.2.2.2.2.2.2.2.2.2.2.2.1 hg44 dX11_cause_41 ?_
          refine hz_iload_n hO dX11_cause_42 rfl 2 rfl ?_
          refine hz_bipush (v := (10 : Int32)) hO dX11_cause_43 (by decide) ?_
          refine hz_isub hO dX11_cause_45 ?_
          refine hz_icmp_ne (tgt := 54) hO dX11_cause_46 (by decide) (fun hc45 => ?_) (fun hc45 => ?_)
          · rw [if_neg hc45] at h
            exact hz_ls [0, 1, 2, 3, 4, 5] rfl (gk42 v1_20 v2_21 v3_22 v4_23 v5_24 M25 h)
          · rw [if_pos hc45] at h
            refine hz_iload hO dX11_cause_49 5 rfl ?_
            refine hz_goto (tgt := 56) hO dX11_cause_51 (by decide) ?_
            exact hz_ls [0, 1, 2, 3, 5] rfl (gk35 v1_20 v2_21 v3_22 v5_24 v5_24 M25 h)
set_option maxRecDepth 100000 in
set_option maxHeartbeats 4000000 in
theorem c_X11_cause (l : Launch) (w : hz_C) {N : Nat} (hN : 178 ≤ N) {b : Nat} (hB : hz_Own N b) (a1 : Int32) (a2 : Int32) {M : hz_M} {rE : Int32} {ME : hz_M} (h : f_X11_cause b a1 a2 M = some (rE, ME)) : hz_Ct l yX11_cause cX11_cause 6 (some .int) 3 w N [.ref (hz_ad w b), .int a1, .int a2] M (hz_Qi w N rE ME) := by
  refine hz_ofW (by decide) rfl (Nat.le_of_ble_eq_true rfl) tw_4_145 ?_
  intro p e s m args below meth c hO
  show hz_G p l e 3 hz_z0 s m args below meth c w N 6 _ M 0 [(0, .ref (hz_ad w b)), (1, .int a1), (2, .int a2)] []
  unfold f_X11_cause at h
  refine hz_aload_n hO dX11_cause_0 rfl 0 rfl ?_
  refine hz_iload_n hO dX11_cause_1 rfl 1 rfl ?_
  refine hz_iload_n hO dX11_cause_2 rfl 2 rfl ?_
  obtain ⟨r1, M2, hq3, h⟩ := hz_ct_e h
  refine hz_callVi (as := [.int a1, .int a2]) (rest := []) hO (c_X11_no l w hN hB a1 a2 hq3) hz_cal_X11_no hz_K_11 hB.1 hB.2.1 tw_4_146 (Nat.le_of_ble_eq_true rfl) rfl rfl (Nat.le_of_ble_eq_true rfl) dX11_cause_3 ?_
  refine hz_istore_n (ls1 := [(3, .int r1), (0, .ref (hz_ad w b)), (1, .int a1), (2, .int a2)]) hO dX11_cause_6 rfl (Nat.le_of_ble_eq_true rfl) rfl ?_
  refine hz_iconst (v := (-1 : Int32)) hO dX11_cause_7 (by decide) ?_
  refine hz_istore (ls1 := [(4, .int (-1 : Int32)), (3, .int r1), (0, .ref (hz_ad w b)), (1, .int a1), (2, .int a2)]) hO dX11_cause_8 (Nat.le_of_ble_eq_true rfl) rfl ?_
  refine hz_aload_n hO dX11_cause_10 rfl 2 rfl ?_
  refine hz_getI (k := 10) hO hz_K_11 hB.1 hB.2.1 rfl (Nat.le_of_ble_eq_true rfl) tw_3_198 rfl dX11_cause_11 ?_
  refine hz_iconst (v := (1 : Int32)) hO dX11_cause_14 (by decide) ?_
  refine hz_isub hO dX11_cause_15 ?_
  obtain ⟨x4, h_x4, h⟩ := hz_lt_e h
  refine hz_name h_x4 ?_
  refine hz_istore (ls1 := [(5, .int x4), (4, .int (-1 : Int32)), (3, .int r1), (0, .ref (hz_ad w b)), (1, .int a1), (2, .int a2)]) hO dX11_cause_16 (Nat.le_of_ble_eq_true rfl) rfl ?_
  obtain ⟨k19, hk19, h⟩ := hz_jn_e h
  have gk19 : ∀ (v1_5 : Int32) (v2_6 : Int32) (v3_7 : Int32) (v4_8 : Int32) (M9 : hz_M), k19 v1_5 v2_6 v3_7 v4_8 M9 = some (rE, ME) → hz_G p l e 3 hz_z0 s m args below meth c w N 6 (MQ below (hz_Qi w N rE ME) args s 0 0 (hz_A w)) M9 64 [(0, .ref (hz_ad w b)), (1, .int v1_5), (2, .int v2_6), (3, .int v3_7), (4, .int v4_8)] [] := by
    intro v1_5 v2_6 v3_7 v4_8 M9 h
    rw [hk19] at h
    dsimp only at h
    refine hz_iload_n hO dX11_cause_64 rfl 3 rfl ?_
    refine hz_iconst (v := (2 : Int32)) hO dX11_cause_65 (by decide) ?_
    refine hz_icmp_ne (tgt := 84) hO dX11_cause_66 (by decide) (fun hc10 => ?_) (fun hc10 => ?_)
    · rw [if_neg hc10] at h
      refine hz_iload_n hO dX11_cause_84 rfl 3 rfl ?_
      refine hz_iconst (v := (3 : Int32)) hO dX11_cause_85 (by decide) ?_
      refine hz_icmp_ne (tgt := 100) hO dX11_cause_86 (by decide) (fun hc11 => ?_) (fun hc11 => ?_)
      · rw [if_neg hc11] at h
        refine hz_iload_n hO dX11_cause_100 rfl 3 rfl ?_
        refine hz_bipush (v := (7 : Int32)) hO dX11_cause_101 (by decide) ?_
        refine hz_icmp_ne (tgt := 126) hO dX11_cause_103 (by decide) (fun hc12 => ?_) (fun hc12 => ?_)
        · rw [if_neg hc12] at h
          refine hz_iload_n hO dX11_cause_126 rfl 3 rfl ?_
          refine hz_bipush (v := (8 : Int32)) hO dX11_cause_127 (by decide) ?_
          refine hz_icmp_ne (tgt := 141) hO dX11_cause_129 (by decide) (fun hc13 => ?_) (fun hc13 => ?_)
          · rw [if_neg hc13] at h
            refine hz_iload_n hO dX11_cause_141 rfl 3 rfl ?_
            refine hz_bipush (v := (9 : Int32)) hO dX11_cause_142 (by decide) ?_
            refine hz_icmp_ne (tgt := 160) hO dX11_cause_144 (by decide) (fun hc14 => ?_) (fun hc14 => ?_)
            · rw [if_neg hc14] at h
              refine hz_iload_n hO dX11_cause_160 rfl 3 rfl ?_
              refine hz_bipush (v := (10 : Int32)) hO dX11_cause_161 (by decide) ?_
              refine hz_icmp_ne (tgt := 182) hO dX11_cause_163 (by decide) (fun hc15 => ?_) (fun hc15 => ?_)
              · rw [if_neg hc15] at h
                refine hz_iconst (v := (0 : Int32)) hO dX11_cause_182 (by decide) ?_
                exact hz_nameM (hz_some_e h).2.symm (hz_name (hz_some_e h).1.symm (hz_iret hO dX11_cause_183))
              · rw [if_pos hc15] at h
                refine hz_sipush (v := (600 : Int32)) hO dX11_cause_166 (by decide) ?_
                refine hz_aload_n hO dX11_cause_169 rfl 0 rfl ?_
                refine hz_getR (k := 13) hO (b + 2) hz_K_11 hB.1 hB.2.1 rfl (Nat.le_of_ble_eq_true rfl) tw_3_203 rfl dX11_cause_170 ?_
                refine hz_iload_n hO dX11_cause_173 rfl 2 rfl ?_
                refine hz_bipush (v := (20 : Int32)) hO dX11_cause_174 (by decide) ?_
                refine hz_isub hO dX11_cause_176 ?_
                obtain ⟨hg16, h⟩ := hz_gd_e h
                refine hz_iald hO hB.2.2.2.2.1 hB.2.2.2.2.2.1 hg16 dX11_cause_177 ?_
                refine hz_iadd hO dX11_cause_178 ?_
                refine hz_goto (tgt := 183) hO dX11_cause_179 (by decide) ?_
                exact hz_nameM (hz_some_e h).2.symm (hz_name (hz_some_e h).1.symm (hz_iret hO dX11_cause_183))
            · rw [if_pos hc14] at h
              refine hz_sipush (v := (500 : Int32)) hO dX11_cause_147 (by decide) ?_
              refine hz_aload_n hO dX11_cause_150 rfl 0 rfl ?_
              refine hz_getR (k := 18) hO (b + 7) hz_K_11 hB.1 hB.2.1 rfl (Nat.le_of_ble_eq_true rfl) tw_3_213 rfl dX11_cause_151 ?_
              refine hz_iload_n hO dX11_cause_154 rfl 1 rfl ?_
              obtain ⟨hg17, h⟩ := hz_gd_e h
              refine hz_iald hO hB.2.2.2.2.2.2.2.2.2.2.2.2.2.2.1 hB.2.2.2.2.2.2.2.2.2.2.2.2.2.2.2.1 hg17 dX11_cause_155 ?_
              refine hz_iadd hO dX11_cause_156 ?_
              refine hz_goto (tgt := 183) hO dX11_cause_157 (by decide) ?_
              exact hz_nameM (hz_some_e h).2.symm (hz_name (hz_some_e h).1.symm (hz_iret hO dX11_cause_183))
          · rw [if_pos hc13] at h
            refine hz_sipush (v := (400 : Int32)) hO dX11_cause_132 (by decide) ?_
            refine hz_iload hO dX11_cause_135 4 rfl ?_
            refine hz_iadd hO dX11_cause_137 ?_
            refine hz_goto (tgt := 183) hO dX11_cause_138 (by decide) ?_
            exact hz_nameM (hz_some_e h).2.symm (hz_name (hz_some_e h).1.symm (hz_iret hO dX11_cause_183))
        · rw [if_pos hc12] at h
          refine hz_sipush (v := (300 : Int32)) hO dX11_cause_106 (by decide) ?_
          refine hz_iconst (v := (5 : Int32)) hO dX11_cause_109 (by decide) ?_
          refine hz_iload_n hO dX11_cause_110 rfl 2 rfl ?_
          refine hz_bipush (v := (11 : Int32)) hO dX11_cause_111 (by decide) ?_
          refine hz_isub hO dX11_cause_113 ?_
          refine hz_imul hO dX11_cause_114 ?_
          refine hz_iadd hO dX11_cause_115 ?_
          refine hz_aload_n hO dX11_cause_116 rfl 0 rfl ?_
          refine hz_getR (k := 17) hO (b + 6) hz_K_11 hB.1 hB.2.1 rfl (Nat.le_of_ble_eq_true rfl) tw_3_211 rfl dX11_cause_117 ?_
          refine hz_iload_n hO dX11_cause_120 rfl 1 rfl ?_
          obtain ⟨hg18, h⟩ := hz_gd_e h
          refine hz_iald hO hB.2.2.2.2.2.2.2.2.2.2.2.2.1 hB.2.2.2.2.2.2.2.2.2.2.2.2.2.1 hg18 dX11_cause_121 ?_
          refine hz_isub hO dX11_cause_122 ?_
          refine hz_goto (tgt := 183) hO dX11_cause_123 (by decide) ?_
          exact hz_nameM (hz_some_e h).2.symm (hz_name (hz_some_e h).1.symm (hz_iret hO dX11_cause_183))
      · rw [if_pos hc11] at h
        refine hz_sipush (v := (200 : Int32)) hO dX11_cause_89 (by decide) ?_
        refine hz_aload_n hO dX11_cause_92 rfl 0 rfl ?_
        refine hz_getI (k := 0) hO hz_K_11 hB.1 hB.2.1 rfl (Nat.le_of_ble_eq_true rfl) tw_3_178 rfl dX11_cause_93 ?_
        refine hz_iadd hO dX11_cause_96 ?_
        refine hz_goto (tgt := 183) hO dX11_cause_97 (by decide) ?_
        exact hz_nameM (hz_some_e h).2.symm (hz_name (hz_some_e h).1.symm (hz_iret hO dX11_cause_183))
    · rw [if_pos hc10] at h
      refine hz_sipush (v := (700 : Int32)) hO dX11_cause_69 (by decide) ?_
      refine hz_aload_n hO dX11_cause_72 rfl 0 rfl ?_
      refine hz_getI (k := 8) hO hz_K_11 hB.1 hB.2.1 rfl (Nat.le_of_ble_eq_true rfl) tw_3_194 rfl dX11_cause_73 ?_
      refine hz_sipush (v := (600 : Int32)) hO dX11_cause_76 (by decide) ?_
      refine hz_irem hO dX11_cause_79 (by decide) ?_
      refine hz_isub hO dX11_cause_80 ?_
      refine hz_goto (tgt := 183) hO dX11_cause_81 (by decide) ?_
      exact hz_nameM (hz_some_e h).2.symm (hz_name (hz_some_e h).1.symm (hz_iret hO dX11_cause_183))
  clear hk19
  exact hz_ls [3, 4, 5, 2, 1, 0] rfl (g_X11_cause_L18 hN hB hO _ gk19 _ a1 a2 r1 (-1 : Int32) x4 M2 h)
def f_X11_highest_L5 (b : Nat) : Nat → Int32 → Int32 → hz_M → hz_O
  | 0, _, _, _ => none
  | n + 1, v1_2, v2_3, M4 =>
    if v2_3 ≤ 0 then
      some ((0 : Int32), M4)
    else
      hz_ct (f_X11_no b v1_2 ((10 : Int32) + v2_3) M4) fun r6 M7 =>
      if r6 = 0 then
        some (v2_3, M7)
      else
        hz_lt (v2_3 + (-1 : Int32)) fun x10 =>
        f_X11_highest_L5 b n v1_2 x10 M7
def f_X11_highest (b : Nat) (a1 : Int32) (M : hz_M) : hz_O :=
  hz_lt ((M b 4)) fun x1 =>
  f_X11_highest_L5 b hz_FU a1 x1 M
set_option maxRecDepth 100000 in
set_option maxHeartbeats 4000000 in
theorem g_X11_highest_L5 {p : Program} {l : Launch} {e : Env} {s : State} {m : MethodId} {args : Array Value} {below : List Frame} {meth : Method} {c : Code} {w : hz_C} {N : Nat} (hN : 178 ≤ N) {b : Nat} (hB : hz_Own N b) {rE : Int32} {ME : hz_M} (hO : hz_Ok p s m args meth c w cX11_highest 3 RX11 (some .int)) : ∀ (n : Nat) (v1_2 : Int32) (v2_3 : Int32) (M4 : hz_M), f_X11_highest_L5 b n v1_2 v2_3 M4 = some (rE, ME) → hz_G p l e 3 hz_z0 s m args below meth c w N 3 (MQ below (hz_Qi w N rE ME) args s 0 0 (hz_A w)) M4 5 [(0, .ref (hz_ad w b)), (1, .int v1_2), (2, .int v2_3)] [] := by
  intro n
  induction n with
  | zero =>
    intro v1_2 v2_3 M4 h
    rw [f_X11_highest_L5] at h
    cases h
  | succ n ih =>
    intro v1_2 v2_3 M4 h
    rw [f_X11_highest_L5] at h
    refine hz_iload_n hO dX11_highest_5 rfl 2 rfl ?_
    refine hz_if_le (tgt := 29) hO dX11_highest_6 (by decide) (fun hc5 => ?_) (fun hc5 => ?_)
    · rw [if_pos hc5] at h
      refine hz_iconst (v := (0 : Int32)) hO dX11_highest_29 (by decide) ?_
      exact hz_nameM (hz_some_e h).2.symm (hz_name (hz_some_e h).1.symm (hz_iret hO dX11_highest_30))
    · rw [if_neg hc5] at h
      refine hz_aload_n hO dX11_highest_9 rfl 0 rfl ?_
      refine hz_iload_n hO dX11_highest_10 rfl 1 rfl ?_
      refine hz_bipush (v := (10 : Int32)) hO dX11_highest_11 (by decide) ?_
      refine hz_iload_n hO dX11_highest_13 rfl 2 rfl ?_
      refine hz_iadd hO dX11_highest_14 ?_
      obtain ⟨r6, M7, hq8, h⟩ := hz_ct_e h
      refine hz_callVi (as := [.int v1_2, .int ((10 : Int32) + v2_3)]) (rest := []) hO (c_X11_no l w hN hB v1_2 ((10 : Int32) + v2_3) hq8) hz_cal_X11_no hz_K_11 hB.1 hB.2.1 tw_4_146 (Nat.le_of_ble_eq_true rfl) rfl rfl (Nat.le_of_ble_eq_true rfl) dX11_highest_15 ?_
      refine hz_if_ne (tgt := 23) hO dX11_highest_18 (by decide) (fun hc9 => ?_) (fun hc9 => ?_)
      · rw [if_neg hc9] at h
        obtain ⟨x10, h_x10, h⟩ := hz_lt_e h
        refine hz_iinc (k := 2) (v := x10) (ls1 := [(2, .int x10), (0, .ref (hz_ad w b)), (1, .int v1_2)]) hO dX11_highest_23 rfl (by rw [h_x10]; rfl) (Nat.le_of_ble_eq_true rfl) rfl ?_
        refine hz_goto (tgt := 5) hO dX11_highest_26 (by decide) ?_
        exact hz_ls [1, 2, 0] rfl (ih v1_2 x10 M7 h)
      · rw [if_pos hc9] at h
        refine hz_iload_n hO dX11_highest_21 rfl 2 rfl ?_
        exact hz_nameM (hz_some_e h).2.symm (hz_name (hz_some_e h).1.symm (hz_iret hO dX11_highest_22))
set_option maxRecDepth 100000 in
set_option maxHeartbeats 4000000 in
theorem c_X11_highest (l : Launch) (w : hz_C) {N : Nat} (hN : 178 ≤ N) {b : Nat} (hB : hz_Own N b) (a1 : Int32) {M : hz_M} {rE : Int32} {ME : hz_M} (h : f_X11_highest b a1 M = some (rE, ME)) : hz_Ct l yX11_highest cX11_highest 3 (some .int) 3 w N [.ref (hz_ad w b), .int a1] M (hz_Qi w N rE ME) := by
  refine hz_ofW (by decide) rfl (Nat.le_of_ble_eq_true rfl) tw_4_176 ?_
  intro p e s m args below meth c hO
  show hz_G p l e 3 hz_z0 s m args below meth c w N 3 _ M 0 [(0, .ref (hz_ad w b)), (1, .int a1)] []
  unfold f_X11_highest at h
  refine hz_aload_n hO dX11_highest_0 rfl 0 rfl ?_
  refine hz_getI (k := 4) hO hz_K_11 hB.1 hB.2.1 rfl (Nat.le_of_ble_eq_true rfl) tw_3_186 rfl dX11_highest_1 ?_
  obtain ⟨x1, h_x1, h⟩ := hz_lt_e h
  refine hz_name h_x1 ?_
  refine hz_istore_n (ls1 := [(2, .int x1), (0, .ref (hz_ad w b)), (1, .int a1)]) hO dX11_highest_4 rfl (Nat.le_of_ble_eq_true rfl) rfl ?_
  exact hz_ls [1, 2, 0] rfl (g_X11_highest_L5 hN hB hO _ a1 x1 M h)
def f_X11_nextHeat_L17 (b : Nat) (kk40 : Int32 → hz_M → hz_O) : Nat → Int32 → Int32 → hz_M → hz_O
  | 0, _, _, _ => none
  | n + 1, v1_5, v2_6, M7 =>
    if (M7 b 3) ≤ v2_6 then
      kk40 v1_5 M7
    else
      hz_gd (hz_in v2_6 4) <|
      hz_lt ((v1_5 + (M7 (b + 1) (Int32.toNatClampNeg v2_6)))) fun x10 =>
      hz_lt (v2_6 + (1 : Int32)) fun x11 =>
      f_X11_nextHeat_L17 b kk40 n x10 x11 M7
def f_X11_nextHeat (b : Nat) (M : hz_M) : hz_O :=
  hz_lt ((((M b 9) - (3 : Int32)) - ((M b 9) / (20 : Int32)))) fun x1 =>
  hz_jn (fun (v1_2 : Int32) (M3 : hz_M) =>
    some ((if (0 : Int32) < (if v1_2 < (100 : Int32) then v1_2 else (100 : Int32)) then (if v1_2 < (100 : Int32) then v1_2 else (100 : Int32)) else (0 : Int32)), M3)
    ) fun k4 =>
  f_X11_nextHeat_L17 b k4 hz_FU x1 (0 : Int32) M
set_option maxRecDepth 100000 in
set_option maxHeartbeats 4000000 in
theorem g_X11_nextHeat_L17 {p : Program} {l : Launch} {e : Env} {s : State} {m : MethodId} {args : Array Value} {below : List Frame} {meth : Method} {c : Code} {w : hz_C} {N : Nat} (hN : 178 ≤ N) {b : Nat} (hB : hz_Own N b) {rE : Int32} {ME : hz_M} (hO : hz_Ok p s m args meth c w cX11_nextHeat 3 RX11 (some .int)) (kk40 : Int32 → hz_M → hz_O) (gkk40 : ∀ (v1_2 : Int32) (M : hz_M), kk40 v1_2 M = some (rE, ME) → hz_G p l e 1 hz_z0 s m args below meth c w N 3 (MQ below (hz_Qi w N rE ME) args s 0 0 (hz_A w)) M 40 [(1, .int v1_2)] []) : ∀ (n : Nat) (v1_5 : Int32) (v2_6 : Int32) (M7 : hz_M), f_X11_nextHeat_L17 b kk40 n v1_5 v2_6 M7 = some (rE, ME) → hz_G p l e 1 hz_z0 s m args below meth c w N 3 (MQ below (hz_Qi w N rE ME) args s 0 0 (hz_A w)) M7 17 [(0, .ref (hz_ad w b)), (1, .int v1_5), (2, .int v2_6)] [] := by
  intro n
  induction n with
  | zero =>
    intro v1_5 v2_6 M7 h
    rw [f_X11_nextHeat_L17] at h
    cases h
  | succ n ih =>
    intro v1_5 v2_6 M7 h
    rw [f_X11_nextHeat_L17] at h
    refine hz_iload_n hO dX11_nextHeat_17 rfl 2 rfl ?_
    refine hz_aload_n hO dX11_nextHeat_18 rfl 0 rfl ?_
    refine hz_getI (k := 3) hO hz_K_11 hB.1 hB.2.1 rfl (Nat.le_of_ble_eq_true rfl) tw_3_184 rfl dX11_nextHeat_19 ?_
    refine hz_icmp_ge (tgt := 40) hO dX11_nextHeat_22 (by decide) (fun hc8 => ?_) (fun hc8 => ?_)
    · rw [if_pos hc8] at h
      exact hz_ls [1] rfl (gkk40 v1_5 M7 h)
    · rw [if_neg hc8] at h
      refine hz_iload_n hO dX11_nextHeat_25 rfl 1 rfl ?_
      refine hz_aload_n hO dX11_nextHeat_26 rfl 0 rfl ?_
      refine hz_getR (k := 12) hO (b + 1) hz_K_11 hB.1 hB.2.1 rfl (Nat.le_of_ble_eq_true rfl) tw_3_201 rfl dX11_nextHeat_27 ?_
      refine hz_iload_n hO dX11_nextHeat_30 rfl 2 rfl ?_
      obtain ⟨hg9, h⟩ := hz_gd_e h
      refine hz_iald hO hB.2.2.1 hB.2.2.2.1 hg9 dX11_nextHeat_31 ?_
      refine hz_iadd hO dX11_nextHeat_32 ?_
      obtain ⟨x10, h_x10, h⟩ := hz_lt_e h
      refine hz_name h_x10 ?_
      refine hz_istore_n (ls1 := [(1, .int x10), (0, .ref (hz_ad w b)), (2, .int v2_6)]) hO dX11_nextHeat_33 rfl (Nat.le_of_ble_eq_true rfl) rfl ?_
      obtain ⟨x11, h_x11, h⟩ := hz_lt_e h
      refine hz_iinc (k := 2) (v := x11) (ls1 := [(2, .int x11), (1, .int x10), (0, .ref (hz_ad w b))]) hO dX11_nextHeat_34 rfl (by rw [h_x11]; rfl) (Nat.le_of_ble_eq_true rfl) rfl ?_
      refine hz_goto (tgt := 17) hO dX11_nextHeat_37 (by decide) ?_
      exact hz_ls [2, 1, 0] rfl (ih x10 x11 M7 h)
set_option maxRecDepth 100000 in
set_option maxHeartbeats 4000000 in
theorem c_X11_nextHeat (l : Launch) (w : hz_C) {N : Nat} (hN : 178 ≤ N) {b : Nat} (hB : hz_Own N b) {M : hz_M} {rE : Int32} {ME : hz_M} (h : f_X11_nextHeat b M = some (rE, ME)) : hz_Ct l yX11_nextHeat cX11_nextHeat 3 (some .int) 1 w N [.ref (hz_ad w b)] M (hz_Qi w N rE ME) := by
  refine hz_ofW (by decide) rfl (Nat.le_of_ble_eq_true rfl) tw_5_104 ?_
  intro p e s m args below meth c hO
  show hz_G p l e 1 hz_z0 s m args below meth c w N 3 _ M 0 [(0, .ref (hz_ad w b))] []
  unfold f_X11_nextHeat at h
  refine hz_aload_n hO dX11_nextHeat_0 rfl 0 rfl ?_
  refine hz_getI (k := 9) hO hz_K_11 hB.1 hB.2.1 rfl (Nat.le_of_ble_eq_true rfl) tw_3_196 rfl dX11_nextHeat_1 ?_
  refine hz_iconst (v := (3 : Int32)) hO dX11_nextHeat_4 (by decide) ?_
  refine hz_isub hO dX11_nextHeat_5 ?_
  refine hz_aload_n hO dX11_nextHeat_6 rfl 0 rfl ?_
  refine hz_getI (k := 9) hO hz_K_11 hB.1 hB.2.1 rfl (Nat.le_of_ble_eq_true rfl) tw_3_196 rfl dX11_nextHeat_7 ?_
  refine hz_bipush (v := (20 : Int32)) hO dX11_nextHeat_10 (by decide) ?_
  refine hz_idiv hO dX11_nextHeat_12 (by decide) ?_
  refine hz_isub hO dX11_nextHeat_13 ?_
  obtain ⟨x1, h_x1, h⟩ := hz_lt_e h
  refine hz_name h_x1 ?_
  refine hz_istore_n (ls1 := [(1, .int x1), (0, .ref (hz_ad w b))]) hO dX11_nextHeat_14 rfl (Nat.le_of_ble_eq_true rfl) rfl ?_
  refine hz_iconst (v := (0 : Int32)) hO dX11_nextHeat_15 (by decide) ?_
  refine hz_istore_n (ls1 := [(2, .int (0 : Int32)), (1, .int x1), (0, .ref (hz_ad w b))]) hO dX11_nextHeat_16 rfl (Nat.le_of_ble_eq_true rfl) rfl ?_
  obtain ⟨k4, hk4, h⟩ := hz_jn_e h
  have gk4 : ∀ (v1_2 : Int32) (M3 : hz_M), k4 v1_2 M3 = some (rE, ME) → hz_G p l e 1 hz_z0 s m args below meth c w N 3 (MQ below (hz_Qi w N rE ME) args s 0 0 (hz_A w)) M3 40 [(1, .int v1_2)] [] := by
    intro v1_2 M3 h
    rw [hk4] at h
    dsimp only at h
    refine hz_iconst (v := (0 : Int32)) hO dX11_nextHeat_40 (by decide) ?_
    refine hz_bipush (v := (100 : Int32)) hO dX11_nextHeat_41 (by decide) ?_
    refine hz_iload_n hO dX11_nextHeat_43 rfl 0 rfl ?_
    refine hz_mmin hO tw_5_105 (Nat.le_of_ble_eq_true rfl) (Nat.le_of_ble_eq_true rfl) dX11_nextHeat_44 ?_
    refine hz_mmax hO tw_5_106 (Nat.le_of_ble_eq_true rfl) (Nat.le_of_ble_eq_true rfl) dX11_nextHeat_47 ?_
    exact hz_nameM (hz_some_e h).2.symm (hz_name (hz_some_e h).1.symm (hz_iret hO dX11_nextHeat_50))
  clear hk4
  exact hz_ls [2, 1, 0] rfl (g_X11_nextHeat_L17 hN hB hO _ gk4 _ x1 (0 : Int32) M h)
def f_X11_minute_L329 (b : Nat) (kk353 : Int32 → Int32 → Int32 → hz_M → hz_O) : Nat → Int32 → Int32 → Int32 → hz_M → hz_O
  | 0, _, _, _, _ => none
  | n + 1, v1_53, v2_54, v4_55, M56 =>
    if v4_55 ≤ 0 then
      kk353 v1_53 v2_54 v4_55 M56
    else
      hz_ct (f_X11_on b v4_55 M56) fun r58 M59 =>
      if r58 < (M59 b 5) then
        kk353 v1_53 v2_54 v4_55 M59
      else
        hz_lt (v4_55 + (-1 : Int32)) fun x62 =>
        f_X11_minute_L329 b kk353 n v1_53 v2_54 x62 M59
def f_X11_minute_L207 (b : Nat) : Nat → Int32 → Int32 → hz_M → hz_O
  | 0, _, _, _ => none
  | n + 1, v1_11, v2_12, M13 =>
    if (M13 b 10) ≤ v2_12 then
      some (v1_11, M13)
    else
      hz_gd (hz_in v2_12 16) <|
      hz_jn (fun (v1_16 : Int32) (v2_17 : Int32) (M18 : hz_M) =>
        hz_lt (v2_17 + (1 : Int32)) fun x19 =>
        f_X11_minute_L207 b n v1_16 x19 M18
        ) fun k20 =>
      if 0 ≤ (M13 (b + 7) (Int32.toNatClampNeg v2_12)) then
        hz_gd (hz_in v2_12 16) <|
        hz_jn (fun (v1_23 : Int32) (v2_24 : Int32) (q25 : Int32) (M26 : hz_M) =>
          hz_gd (hz_in v2_24 16) <|
          hz_jn (fun (v1_28 : Int32) (v2_29 : Int32) (q30 : Int32) (q31 : Int32) (q32 : Int32) (M33 : hz_M) =>
            hz_gd (hz_in q32 16) <|
            hz_lm (hz_set M33 (b + 9) (Int32.toNatClampNeg q32) (q31 + q30)) fun M35 =>
            hz_gd (hz_in v2_29 16) <|
            if (M35 (b + 7) (Int32.toNatClampNeg v2_29)) = 0 then
              k20 v1_28 v2_29 M35
            else
              hz_gd (hz_in v2_29 16) <|
              if (10 : Int32) ≤ (M35 (b + 9) (Int32.toNatClampNeg v2_29)) then
                hz_gd (hz_in v2_29 16) <|
                hz_lt (((M35 (b + 7) (Int32.toNatClampNeg v2_29)) - (1 : Int32))) fun x41 =>
                hz_jn (fun (v1_42 : Int32) (v2_43 : Int32) (v4_44 : Int32) (M45 : hz_M) =>
                  hz_gd (hz_in v2_43 16) <|
                  hz_lm (hz_set M45 (b + 7) (Int32.toNatClampNeg v2_43) v4_44) fun M47 =>
                  hz_gd (hz_in v2_43 16) <|
                  hz_lm (hz_set M47 (b + 9) (Int32.toNatClampNeg v2_43) (5 : Int32)) fun M49 =>
                  hz_lm (hz_set M49 (b + 5) (Int32.toNatClampNeg (4 : Int32)) ((M49 (b + 5) (Int32.toNatClampNeg (4 : Int32))) + (1 : Int32))) fun M50 =>
                  hz_lt ((v1_42 ||| ((1 : Int32) <<< (v2_43 &&& 31)))) fun x51 =>
                  k20 x51 v2_43 M50
                  ) fun k52 =>
                f_X11_minute_L329 b k52 hz_FU v1_28 v2_29 x41 M35
              else
                k20 v1_28 v2_29 M35
            ) fun k63 =>
          if q25 ≤ 0 then
            hz_gd (hz_in v2_24 16) <|
            if (M26 (b + 9) (Int32.toNatClampNeg v2_24)) ≤ 0 then
              k63 v1_23 v2_24 (0 : Int32) (M26 (b + 9) (Int32.toNatClampNeg v2_24)) v2_24 M26
            else
              k63 v1_23 v2_24 (-1 : Int32) (M26 (b + 9) (Int32.toNatClampNeg v2_24)) v2_24 M26
          else
            k63 v1_23 v2_24 ((q25 / (5 : Int32)) + (1 : Int32)) (M26 (b + 9) (Int32.toNatClampNeg v2_24)) v2_24 M26
          ) fun k67 =>
        if (M13 (b + 7) (Int32.toNatClampNeg v2_12)) = 0 then
          k67 v1_11 v2_12 (-1 : Int32) M13
        else
          hz_gd (hz_in v2_12 16) <|
          hz_ct (f_X11_bears b v2_12 M13) fun r70 M71 =>
          k67 v1_11 v2_12 (((M13 b 9) + ((6 : Int32) * (M13 (b + 7) (Int32.toNatClampNeg v2_12)))) - r70) M71
      else
        k20 v1_11 v2_12 M13
def f_X11_minute_L142 (b : Nat) (kk203 : hz_M → hz_O) : Nat → Int32 → hz_M → hz_O
  | 0, _, _ => none
  | n + 1, v1_74, M75 =>
    if (M75 b 1) ≤ v1_74 then
      kk203 M75
    else
      hz_gd (hz_in v1_74 16) <|
      hz_jn (fun (v1_78 : Int32) (M79 : hz_M) =>
        hz_lt (v1_78 + (1 : Int32)) fun x80 =>
        f_X11_minute_L142 b kk203 n x80 M79
        ) fun k81 =>
      if (M75 (b + 2) (Int32.toNatClampNeg v1_74)) < 0 then
        k81 v1_74 M75
      else
        if (60 : Int32) ≤ (M75 b 9) then
          k81 v1_74 M75
        else
          hz_gd (hz_in v1_74 16) <|
          hz_gd (hz_in (M75 (b + 2) (Int32.toNatClampNeg v1_74)) 16) <|
          if (M75 (b + 4) (Int32.toNatClampNeg (M75 (b + 2) (Int32.toNatClampNeg v1_74)))) ≤ 0 then
            k81 v1_74 M75
          else
            hz_gd (hz_in v1_74 16) <|
            hz_lt ((M75 (b + 2) (Int32.toNatClampNeg v1_74))) fun x88 =>
            hz_gd (hz_in x88 16) <|
            hz_gd (hz_in x88 16) <|
            hz_lm (hz_set M75 (b + 4) (Int32.toNatClampNeg x88) ((M75 (b + 4) (Int32.toNatClampNeg x88)) - (1 : Int32))) fun M91 =>
            k81 v1_74 M91
def f_X11_minute_L62 (b : Nat) (kk140 : hz_M → hz_O) : Nat → Int32 → hz_M → hz_O
  | 0, _, _ => none
  | n + 1, v1_93, M94 =>
    if (M94 b 10) ≤ v1_93 then
      kk140 M94
    else
      hz_gd (hz_in v1_93 16) <|
      hz_jn (fun (v1_97 : Int32) (M98 : hz_M) =>
        hz_lt (v1_97 + (1 : Int32)) fun x99 =>
        f_X11_minute_L62 b kk140 n x99 M98
        ) fun k100 =>
      if (M94 (b + 7) (Int32.toNatClampNeg v1_93)) < (1 : Int32) then
        k100 v1_93 M94
      else
        hz_gd (hz_in v1_93 16) <|
        if (M94 (b + 8) (Int32.toNatClampNeg v1_93)) < 0 then
          k100 v1_93 M94
        else
          hz_gd (hz_in v1_93 16) <|
          hz_gd (hz_in (M94 (b + 8) (Int32.toNatClampNeg v1_93)) 16) <|
          if (M94 (b + 4) (Int32.toNatClampNeg (M94 (b + 8) (Int32.toNatClampNeg v1_93)))) = (9 : Int32) then
            k100 v1_93 M94
          else
            hz_gd (hz_in v1_93 16) <|
            hz_lt ((M94 (b + 8) (Int32.toNatClampNeg v1_93))) fun x108 =>
            hz_gd (hz_in x108 16) <|
            hz_gd (hz_in x108 16) <|
            hz_lm (hz_set M94 (b + 4) (Int32.toNatClampNeg x108) ((M94 (b + 4) (Int32.toNatClampNeg x108)) + (1 : Int32))) fun M111 =>
            hz_lm (hz_set M111 (b + 5) (Int32.toNatClampNeg (6 : Int32)) ((M111 (b + 5) (Int32.toNatClampNeg (6 : Int32))) + (1 : Int32))) fun M112 =>
            k100 v1_93 M112
def f_X11_minute (b : Nat) (M : hz_M) : hz_O :=
  hz_lm (hz_set M b 8 ((M b 8) + (1 : Int32))) fun M1 =>
  hz_lm (hz_set M1 (b + 5) (Int32.toNatClampNeg (8 : Int32)) ((M1 (b + 5) (Int32.toNatClampNeg (8 : Int32))) + (1 : Int32))) fun M2 =>
  hz_gd (hz_nz (M2 b 6)) <|
  hz_jn (fun  (M4 : hz_M) =>
    hz_ct (f_X11_nextHeat b M4) fun r5 M6 =>
    hz_lm (hz_set M6 b 9 r5) fun M8 =>
    hz_jn (fun  (M9 : hz_M) =>
      hz_jn (fun  (M10 : hz_M) =>
        f_X11_minute_L207 b hz_FU (0 : Int32) (0 : Int32) M10
        ) fun k73 =>
      f_X11_minute_L142 b k73 hz_FU (0 : Int32) M9
      ) fun k92 =>
    f_X11_minute_L62 b k92 hz_FU (0 : Int32) M8
    ) fun k113 =>
  if ((M2 b 8) - (M2 b 8) / (M2 b 6) * (M2 b 6)) = 0 then
    hz_lm (hz_set M2 b 11 (M2 b 8)) fun M115 =>
    hz_lm (hz_set M115 (b + 5) (Int32.toNatClampNeg (7 : Int32)) ((M115 (b + 5) (Int32.toNatClampNeg (7 : Int32))) + (1 : Int32))) fun M116 =>
    k113 M116
  else
    k113 M2
set_option maxRecDepth 100000 in
set_option maxHeartbeats 4000000 in
theorem g_X11_minute_L329 {p : Program} {l : Launch} {e : Env} {s : State} {m : MethodId} {args : Array Value} {below : List Frame} {meth : Method} {c : Code} {w : hz_C} {N : Nat} (hN : 178 ≤ N) {b : Nat} (hB : hz_Own N b) {rE : Int32} {ME : hz_M} (hO : hz_Ok p s m args meth c w cX11_minute 5 RX11 (some .int)) (kk353 : Int32 → Int32 → Int32 → hz_M → hz_O) (gkk353 : ∀ (v1_42 : Int32) (v2_43 : Int32) (v4_44 : Int32) (M : hz_M), kk353 v1_42 v2_43 v4_44 M = some (rE, ME) → hz_G p l e 2 hz_z0 s m args below meth c w N 5 (MQ below (hz_Qi w N rE ME) args s 0 0 (hz_A w)) M 353 [(0, .ref (hz_ad w b)), (1, .int v1_42), (2, .int v2_43), (4, .int v4_44)] []) : ∀ (n : Nat) (v1_53 : Int32) (v2_54 : Int32) (v4_55 : Int32) (M56 : hz_M), f_X11_minute_L329 b kk353 n v1_53 v2_54 v4_55 M56 = some (rE, ME) → hz_G p l e 2 hz_z0 s m args below meth c w N 5 (MQ below (hz_Qi w N rE ME) args s 0 0 (hz_A w)) M56 329 [(0, .ref (hz_ad w b)), (1, .int v1_53), (2, .int v2_54), (4, .int v4_55)] [] := by
  intro n
  induction n with
  | zero =>
    intro v1_53 v2_54 v4_55 M56 h
    rw [f_X11_minute_L329] at h
    cases h
  | succ n ih =>
    intro v1_53 v2_54 v4_55 M56 h
    rw [f_X11_minute_L329] at h
    refine hz_iload hO dX11_minute_329 3 rfl ?_
    refine hz_if_le (tgt := 353) hO dX11_minute_331 (by decide) (fun hc57 => ?_) (fun hc57 => ?_)
    · rw [if_pos hc57] at h
      exact hz_ls [0, 1, 2, 3] rfl (gkk353 v1_53 v2_54 v4_55 M56 h)
    · rw [if_neg hc57] at h
      refine hz_aload_n hO dX11_minute_334 rfl 0 rfl ?_
      refine hz_iload hO dX11_minute_335 3 rfl ?_
      obtain ⟨r58, M59, hq60, h⟩ := hz_ct_e h
      refine hz_callVi (as := [.int v4_55]) (rest := []) hO (c_X11_on l w hN hB v4_55 hq60) hz_cal_X11_on hz_K_11 hB.1 hB.2.1 tw_4_134 (Nat.le_of_ble_eq_true rfl) rfl rfl (Nat.le_of_ble_eq_true rfl) dX11_minute_337 ?_
      refine hz_aload_n hO dX11_minute_340 rfl 0 rfl ?_
      refine hz_getI (k := 5) hO hz_K_11 hB.1 hB.2.1 rfl (Nat.le_of_ble_eq_true rfl) tw_3_188 rfl dX11_minute_341 ?_
      refine hz_icmp_lt (tgt := 353) hO dX11_minute_344 (by decide) (fun hc61 => ?_) (fun hc61 => ?_)
      · rw [if_pos hc61] at h
        exact hz_ls [0, 1, 2, 3] rfl (gkk353 v1_53 v2_54 v4_55 M59 h)
      · rw [if_neg hc61] at h
        obtain ⟨x62, h_x62, h⟩ := hz_lt_e h
        refine hz_iinc (k := 3) (v := x62) (ls1 := [(4, .int x62), (0, .ref (hz_ad w b)), (1, .int v1_53), (2, .int v2_54)]) hO dX11_minute_347 rfl (by rw [h_x62]; rfl) (Nat.le_of_ble_eq_true rfl) rfl ?_
        refine hz_goto (tgt := 329) hO dX11_minute_350 (by decide) ?_
        exact hz_ls [1, 2, 3, 0] rfl (ih v1_53 v2_54 x62 M59 h)
set_option maxRecDepth 100000 in
set_option maxHeartbeats 4000000 in
theorem g_X11_minute_L207 {p : Program} {l : Launch} {e : Env} {s : State} {m : MethodId} {args : Array Value} {below : List Frame} {meth : Method} {c : Code} {w : hz_C} {N : Nat} (hN : 178 ≤ N) {b : Nat} (hB : hz_Own N b) {rE : Int32} {ME : hz_M} (hO : hz_Ok p s m args meth c w cX11_minute 5 RX11 (some .int)) : ∀ (n : Nat) (v1_11 : Int32) (v2_12 : Int32) (M13 : hz_M), f_X11_minute_L207 b n v1_11 v2_12 M13 = some (rE, ME) → hz_G p l e 2 hz_z0 s m args below meth c w N 5 (MQ below (hz_Qi w N rE ME) args s 0 0 (hz_A w)) M13 207 [(0, .ref (hz_ad w b)), (1, .int v1_11), (2, .int v2_12)] [] := by
  intro n
  induction n with
  | zero =>
    intro v1_11 v2_12 M13 h
    rw [f_X11_minute_L207] at h
    cases h
  | succ n ih =>
    intro v1_11 v2_12 M13 h
    rw [f_X11_minute_L207] at h
    refine hz_iload_n hO dX11_minute_207 rfl 2 rfl ?_
    refine hz_aload_n hO dX11_minute_208 rfl 0 rfl ?_
    refine hz_getI (k := 10) hO hz_K_11 hB.1 hB.2.1 rfl (Nat.le_of_ble_eq_true rfl) tw_3_198 rfl dX11_minute_209 ?_
    refine hz_icmp_ge (tgt := 390) hO dX11_minute_212 (by decide) (fun hc14 => ?_) (fun hc14 => ?_)
    · rw [if_pos hc14] at h
      refine hz_iload_n hO dX11_minute_390 rfl 1 rfl ?_
      exact hz_nameM (hz_some_e h).2.symm (hz_name (hz_some_e h).1.symm (hz_iret hO dX11_minute_391))
    · rw [if_neg hc14] at h
      refine hz_aload_n hO dX11_minute_215 rfl 0 rfl ?_
      refine hz_getR (k := 18) hO (b + 7) hz_K_11 hB.1 hB.2.1 rfl (Nat.le_of_ble_eq_true rfl) tw_3_213 rfl dX11_minute_216 ?_
      refine hz_iload_n hO dX11_minute_219 rfl 2 rfl ?_
      obtain ⟨hg15, h⟩ := hz_gd_e h
      refine hz_iald hO hB.2.2.2.2.2.2.2.2.2.2.2.2.2.2.1 hB.2.2.2.2.2.2.2.2.2.2.2.2.2.2.2.1 hg15 dX11_minute_220 ?_
      obtain ⟨k20, hk20, h⟩ := hz_jn_e h
      have gk20 : ∀ (v1_16 : Int32) (v2_17 : Int32) (M18 : hz_M), k20 v1_16 v2_17 M18 = some (rE, ME) → hz_G p l e 2 hz_z0 s m args below meth c w N 5 (MQ below (hz_Qi w N rE ME) args s 0 0 (hz_A w)) M18 384 [(0, .ref (hz_ad w b)), (1, .int v1_16), (2, .int v2_17)] [] := by
        intro v1_16 v2_17 M18 h
        rw [hk20] at h
        dsimp only at h
        obtain ⟨x19, h_x19, h⟩ := hz_lt_e h
        refine hz_iinc (k := 2) (v := x19) (ls1 := [(2, .int x19), (0, .ref (hz_ad w b)), (1, .int v1_16)]) hO dX11_minute_384 rfl (by rw [h_x19]; rfl) (Nat.le_of_ble_eq_true rfl) rfl ?_
        refine hz_goto (tgt := 207) hO dX11_minute_387 (by decide) ?_
        exact hz_ls [1, 2, 0] rfl (ih v1_16 x19 M18 h)
      clear hk20
      refine hz_if_ge (tgt := 227) hO dX11_minute_221 (by decide) (fun hc21 => ?_) (fun hc21 => ?_)
      · rw [if_pos hc21] at h
        refine hz_aload_n hO dX11_minute_227 rfl 0 rfl ?_
        refine hz_getR (k := 18) hO (b + 7) hz_K_11 hB.1 hB.2.1 rfl (Nat.le_of_ble_eq_true rfl) tw_3_213 rfl dX11_minute_228 ?_
        refine hz_iload_n hO dX11_minute_231 rfl 2 rfl ?_
        obtain ⟨hg22, h⟩ := hz_gd_e h
        refine hz_iald hO hB.2.2.2.2.2.2.2.2.2.2.2.2.2.2.1 hB.2.2.2.2.2.2.2.2.2.2.2.2.2.2.2.1 hg22 dX11_minute_232 ?_
        obtain ⟨k67, hk67, h⟩ := hz_jn_e h
        have gk67 : ∀ (v1_23 : Int32) (v2_24 : Int32) (q25 : Int32) (M26 : hz_M), k67 v1_23 v2_24 q25 M26 = some (rE, ME) → hz_G p l e 2 hz_z0 s m args below meth c w N 5 (MQ below (hz_Qi w N rE ME) args s 0 0 (hz_A w)) M26 260 [(0, .ref (hz_ad w b)), (1, .int v1_23), (2, .int v2_24)] [.int q25] := by
          intro v1_23 v2_24 q25 M26 h
          rw [hk67] at h
          dsimp only at h
          refine hz_istore_n (ls1 := [(3, .int q25), (0, .ref (hz_ad w b)), (1, .int v1_23), (2, .int v2_24)]) hO dX11_minute_260 rfl (Nat.le_of_ble_eq_true rfl) rfl ?_
          refine hz_aload_n hO dX11_minute_261 rfl 1 rfl ?_
          refine hz_getR (k := 20) hO (b + 9) hz_K_11 hB.1 hB.2.1 rfl (Nat.le_of_ble_eq_true rfl) tw_3_217 rfl dX11_minute_262 ?_
          refine hz_iload_n hO dX11_minute_265 rfl 3 rfl ?_
          refine hz_dup2 hO dX11_minute_266 rfl rfl ?_
          obtain ⟨hg27, h⟩ := hz_gd_e h
          refine hz_iald hO hB.2.2.2.2.2.2.2.2.2.2.2.2.2.2.2.2.2.2.1 hB.2.2.2.2.2.2.2.2.2.2.2.2.2.2.2.2.2.2.2.1 hg27 dX11_minute_267 ?_
          refine hz_iload_n hO dX11_minute_268 rfl 0 rfl ?_
          obtain ⟨k63, hk63, h⟩ := hz_jn_e h
          have gk63 : ∀ (v1_28 : Int32) (v2_29 : Int32) (q30 : Int32) (q31 : Int32) (q32 : Int32) (M33 : hz_M), k63 v1_28 v2_29 q30 q31 q32 M33 = some (rE, ME) → hz_G p l e 2 hz_z0 s m args below meth c w N 5 (MQ below (hz_Qi w N rE ME) args s 0 0 (hz_A w)) M33 294 [(0, .ref (hz_ad w b)), (1, .int v1_28), (2, .int v2_29)] [.int q30, .int q31, .int q32, .ref (hz_ad w (b + 9))] := by
            intro v1_28 v2_29 q30 q31 q32 M33 h
            rw [hk63] at h
            dsimp only at h
            refine hz_iadd hO dX11_minute_294 ?_
            obtain ⟨hg34, h⟩ := hz_gd_e h
            obtain ⟨M35, h_M35, h⟩ := hz_lm_e h
            refine hz_iast hO hB.2.2.2.2.2.2.2.2.2.2.2.2.2.2.2.2.2.2.1 hB.2.2.2.2.2.2.2.2.2.2.2.2.2.2.2.2.2.2.2.1 hg34 dX11_minute_295 ?_
            refine hz_nameM h_M35 ?_
            refine hz_aload_n hO dX11_minute_296 rfl 0 rfl ?_
            refine hz_getR (k := 18) hO (b + 7) hz_K_11 hB.1 hB.2.1 rfl (Nat.le_of_ble_eq_true rfl) tw_3_213 rfl dX11_minute_297 ?_
            refine hz_iload_n hO dX11_minute_300 rfl 2 rfl ?_
            obtain ⟨hg36, h⟩ := hz_gd_e h
            refine hz_iald hO hB.2.2.2.2.2.2.2.2.2.2.2.2.2.2.1 hB.2.2.2.2.2.2.2.2.2.2.2.2.2.2.2.1 hg36 dX11_minute_301 ?_
            refine hz_if_eq (tgt := 384) hO dX11_minute_302 (by decide) (fun hc37 => ?_) (fun hc37 => ?_)
            · rw [if_pos hc37] at h
              exact hz_ls [0, 1, 2] rfl (gk20 v1_28 v2_29 M35 h)
            · rw [if_neg hc37] at h
              refine hz_aload_n hO dX11_minute_305 rfl 0 rfl ?_
              refine hz_getR (k := 20) hO (b + 9) hz_K_11 hB.1 hB.2.1 rfl (Nat.le_of_ble_eq_true rfl) tw_3_217 rfl dX11_minute_306 ?_
              refine hz_iload_n hO dX11_minute_309 rfl 2 rfl ?_
              obtain ⟨hg38, h⟩ := hz_gd_e h
              refine hz_iald hO hB.2.2.2.2.2.2.2.2.2.2.2.2.2.2.2.2.2.2.1 hB.2.2.2.2.2.2.2.2.2.2.2.2.2.2.2.2.2.2.2.1 hg38 dX11_minute_310 ?_
              refine hz_bipush (v := (10 : Int32)) hO dX11_minute_311 (by decide) ?_
              refine hz_icmp_ge (tgt := 319) hO dX11_minute_313 (by decide) (fun hc39 => ?_) (fun hc39 => ?_)
              · rw [if_pos hc39] at h
                refine hz_aload_n hO dX11_minute_319 rfl 0 rfl ?_
                refine hz_getR (k := 18) hO (b + 7) hz_K_11 hB.1 hB.2.1 rfl (Nat.le_of_ble_eq_true rfl) tw_3_213 rfl dX11_minute_320 ?_
                refine hz_iload_n hO dX11_minute_323 rfl 2 rfl ?_
                obtain ⟨hg40, h⟩ := hz_gd_e h
                refine hz_iald hO hB.2.2.2.2.2.2.2.2.2.2.2.2.2.2.1 hB.2.2.2.2.2.2.2.2.2.2.2.2.2.2.2.1 hg40 dX11_minute_324 ?_
                refine hz_iconst (v := (1 : Int32)) hO dX11_minute_325 (by decide) ?_
                refine hz_isub hO dX11_minute_326 ?_
                obtain ⟨x41, h_x41, h⟩ := hz_lt_e h
                refine hz_name h_x41 ?_
                refine hz_istore (ls1 := [(4, .int x41), (0, .ref (hz_ad w b)), (1, .int v1_28), (2, .int v2_29)]) hO dX11_minute_327 (Nat.le_of_ble_eq_true rfl) rfl ?_
                obtain ⟨k52, hk52, h⟩ := hz_jn_e h
                have gk52 : ∀ (v1_42 : Int32) (v2_43 : Int32) (v4_44 : Int32) (M45 : hz_M), k52 v1_42 v2_43 v4_44 M45 = some (rE, ME) → hz_G p l e 2 hz_z0 s m args below meth c w N 5 (MQ below (hz_Qi w N rE ME) args s 0 0 (hz_A w)) M45 353 [(0, .ref (hz_ad w b)), (1, .int v1_42), (2, .int v2_43), (4, .int v4_44)] [] := by
                  intro v1_42 v2_43 v4_44 M45 h
                  rw [hk52] at h
                  dsimp only at h
                  refine hz_aload_n hO dX11_minute_353 rfl 0 rfl ?_
                  refine hz_getR (k := 18) hO (b + 7) hz_K_11 hB.1 hB.2.1 rfl (Nat.le_of_ble_eq_true rfl) tw_3_213 rfl dX11_minute_354 ?_
                  refine hz_iload_n hO dX11_minute_357 rfl 2 rfl ?_
                  refine hz_iload hO dX11_minute_358 3 rfl ?_
                  obtain ⟨hg46, h⟩ := hz_gd_e h
                  obtain ⟨M47, h_M47, h⟩ := hz_lm_e h
                  refine hz_iast hO hB.2.2.2.2.2.2.2.2.2.2.2.2.2.2.1 hB.2.2.2.2.2.2.2.2.2.2.2.2.2.2.2.1 hg46 dX11_minute_360 ?_
                  refine hz_nameM h_M47 ?_
                  refine hz_aload_n hO dX11_minute_361 rfl 0 rfl ?_
                  refine hz_getR (k := 20) hO (b + 9) hz_K_11 hB.1 hB.2.1 rfl (Nat.le_of_ble_eq_true rfl) tw_3_217 rfl dX11_minute_362 ?_
                  refine hz_iload_n hO dX11_minute_365 rfl 2 rfl ?_
                  refine hz_iconst (v := (5 : Int32)) hO dX11_minute_366 (by decide) ?_
                  obtain ⟨hg48, h⟩ := hz_gd_e h
                  obtain ⟨M49, h_M49, h⟩ := hz_lm_e h
                  refine hz_iast hO hB.2.2.2.2.2.2.2.2.2.2.2.2.2.2.2.2.2.2.1 hB.2.2.2.2.2.2.2.2.2.2.2.2.2.2.2.2.2.2.2.1 hg48 dX11_minute_367 ?_
                  refine hz_nameM h_M49 ?_
                  refine hz_aload_n hO dX11_minute_368 rfl 0 rfl ?_
                  refine hz_getR (k := 16) hO (b + 5) hz_K_11 hB.1 hB.2.1 rfl (Nat.le_of_ble_eq_true rfl) tw_3_209 rfl dX11_minute_369 ?_
                  refine hz_iconst (v := (4 : Int32)) hO dX11_minute_372 (by decide) ?_
                  refine hz_dup2 hO dX11_minute_373 rfl rfl ?_
                  refine hz_iald hO hB.2.2.2.2.2.2.2.2.2.2.1 hB.2.2.2.2.2.2.2.2.2.2.2.1 (by decide) dX11_minute_374 ?_
                  refine hz_iconst (v := (1 : Int32)) hO dX11_minute_375 (by decide) ?_
                  refine hz_iadd hO dX11_minute_376 ?_
                  obtain ⟨M50, h_M50, h⟩ := hz_lm_e h
                  refine hz_iast hO hB.2.2.2.2.2.2.2.2.2.2.1 hB.2.2.2.2.2.2.2.2.2.2.2.1 (by decide) dX11_minute_377 ?_
                  refine hz_nameM h_M50 ?_
                  refine hz_iload_n hO dX11_minute_378 rfl 1 rfl ?_
                  refine hz_iconst (v := (1 : Int32)) hO dX11_minute_379 (by decide) ?_
                  refine hz_iload_n hO dX11_minute_380 rfl 2 rfl ?_
                  refine hz_ishl hO dX11_minute_381 ?_
                  refine hz_ior hO dX11_minute_382 ?_
                  obtain ⟨x51, h_x51, h⟩ := hz_lt_e h
                  refine hz_name h_x51 ?_
                  refine hz_istore_n (ls1 := [(1, .int x51), (0, .ref (hz_ad w b)), (2, .int v2_43), (4, .int v4_44)]) hO dX11_minute_383 rfl (Nat.le_of_ble_eq_true rfl) rfl ?_
                  exact hz_ls [1, 0, 2] rfl (gk20 x51 v2_43 M50 h)
                clear hk52
                exact hz_ls [1, 2, 3, 0] rfl (g_X11_minute_L329 hN hB hO _ gk52 _ v1_28 v2_29 x41 M35 h)
              · rw [if_neg hc39] at h
                refine hz_goto (tgt := 384) hO dX11_minute_316 (by decide) ?_
                exact hz_ls [0, 1, 2] rfl (gk20 v1_28 v2_29 M35 h)
          clear hk63
          refine hz_if_le (tgt := 280) hO dX11_minute_269 (by decide) (fun hc64 => ?_) (fun hc64 => ?_)
          · rw [if_pos hc64] at h
            refine hz_aload_n hO dX11_minute_280 rfl 1 rfl ?_
            refine hz_getR (k := 20) hO (b + 9) hz_K_11 hB.1 hB.2.1 rfl (Nat.le_of_ble_eq_true rfl) tw_3_217 rfl dX11_minute_281 ?_
            refine hz_iload_n hO dX11_minute_284 rfl 3 rfl ?_
            obtain ⟨hg65, h⟩ := hz_gd_e h
            refine hz_iald hO hB.2.2.2.2.2.2.2.2.2.2.2.2.2.2.2.2.2.2.1 hB.2.2.2.2.2.2.2.2.2.2.2.2.2.2.2.2.2.2.2.1 hg65 dX11_minute_285 ?_
            refine hz_if_le (tgt := 293) hO dX11_minute_286 (by decide) (fun hc66 => ?_) (fun hc66 => ?_)
            · rw [if_pos hc66] at h
              refine hz_iconst (v := (0 : Int32)) hO dX11_minute_293 (by decide) ?_
              exact hz_ls [1, 2, 3] rfl (gk63 v1_23 v2_24 (0 : Int32) (M26 (b + 9) (Int32.toNatClampNeg v2_24)) v2_24 M26 h)
            · rw [if_neg hc66] at h
              refine hz_iconst (v := (-1 : Int32)) hO dX11_minute_289 (by decide) ?_
              refine hz_goto (tgt := 294) hO dX11_minute_290 (by decide) ?_
              exact hz_ls [1, 2, 3] rfl (gk63 v1_23 v2_24 (-1 : Int32) (M26 (b + 9) (Int32.toNatClampNeg v2_24)) v2_24 M26 h)
          · rw [if_neg hc64] at h
            refine hz_iload_n hO dX11_minute_272 rfl 0 rfl ?_
            refine hz_iconst (v := (5 : Int32)) hO dX11_minute_273 (by decide) ?_
            refine hz_idiv hO dX11_minute_274 (by decide) ?_
            refine hz_iconst (v := (1 : Int32)) hO dX11_minute_275 (by decide) ?_
            refine hz_iadd hO dX11_minute_276 ?_
            refine hz_goto (tgt := 294) hO dX11_minute_277 (by decide) ?_
            exact hz_ls [1, 2, 3] rfl (gk63 v1_23 v2_24 ((q25 / (5 : Int32)) + (1 : Int32)) (M26 (b + 9) (Int32.toNatClampNeg v2_24)) v2_24 M26 h)
        clear hk67
        refine hz_if_ne (tgt := 240) hO dX11_minute_233 (by decide) (fun hc68 => ?_) (fun hc68 => ?_)
        · rw [if_neg hc68] at h
          refine hz_aload_n hO dX11_minute_240 rfl 0 rfl ?_
          refine hz_getI (k := 9) hO hz_K_11 hB.1 hB.2.1 rfl (Nat.le_of_ble_eq_true rfl) tw_3_196 rfl dX11_minute_241 ?_
          refine hz_bipush (v := (6 : Int32)) hO dX11_minute_244 (by decide) ?_
          refine hz_aload_n hO dX11_minute_246 rfl 0 rfl ?_
          refine hz_getR (k := 18) hO (b + 7) hz_K_11 hB.1 hB.2.1 rfl (Nat.le_of_ble_eq_true rfl) tw_3_213 rfl dX11_minute_247 ?_
          refine hz_iload_n hO dX11_minute_250 rfl 2 rfl ?_
          obtain ⟨hg69, h⟩ := hz_gd_e h
          refine hz_iald hO hB.2.2.2.2.2.2.2.2.2.2.2.2.2.2.1 hB.2.2.2.2.2.2.2.2.2.2.2.2.2.2.2.1 hg69 dX11_minute_251 ?_
          refine hz_imul hO dX11_minute_252 ?_
          refine hz_iadd hO dX11_minute_253 ?_
          refine hz_aload_n hO dX11_minute_254 rfl 0 rfl ?_
          refine hz_iload_n hO dX11_minute_255 rfl 2 rfl ?_
          obtain ⟨r70, M71, hq72, h⟩ := hz_ct_e h
          refine hz_callVi (as := [.int v2_12]) (rest := [.int ((M13 b 9) + ((6 : Int32) * (M13 (b + 7) (Int32.toNatClampNeg v2_12))))]) hO (c_X11_bears l w hN hB v2_12 hq72) hz_cal_X11_bears hz_K_11 hB.1 hB.2.1 tw_5_107 (Nat.le_of_ble_eq_true rfl) rfl rfl (Nat.le_of_ble_eq_true rfl) dX11_minute_256 ?_
          refine hz_isub hO dX11_minute_259 ?_
          exact hz_ls [0, 1, 2] rfl (gk67 v1_11 v2_12 (((M13 b 9) + ((6 : Int32) * (M13 (b + 7) (Int32.toNatClampNeg v2_12)))) - r70) M71 h)
        · rw [if_pos hc68] at h
          refine hz_iconst (v := (-1 : Int32)) hO dX11_minute_236 (by decide) ?_
          refine hz_goto (tgt := 260) hO dX11_minute_237 (by decide) ?_
          exact hz_ls [0, 1, 2] rfl (gk67 v1_11 v2_12 (-1 : Int32) M13 h)
      · rw [if_neg hc21] at h
        refine hz_goto (tgt := 384) hO dX11_minute_224 (by decide) ?_
        exact hz_ls [0, 1, 2] rfl (gk20 v1_11 v2_12 M13 h)
set_option maxRecDepth 100000 in
set_option maxHeartbeats 4000000 in
theorem g_X11_minute_L142 {p : Program} {l : Launch} {e : Env} {s : State} {m : MethodId} {args : Array Value} {below : List Frame} {meth : Method} {c : Code} {w : hz_C} {N : Nat} (hN : 178 ≤ N) {b : Nat} (hB : hz_Own N b) {rE : Int32} {ME : hz_M} (hO : hz_Ok p s m args meth c w cX11_minute 5 RX11 (some .int)) (kk203 : hz_M → hz_O) (gkk203 : ∀  (M : hz_M), kk203 M = some (rE, ME) → hz_G p l e 2 hz_z0 s m args below meth c w N 5 (MQ below (hz_Qi w N rE ME) args s 0 0 (hz_A w)) M 203 [(0, .ref (hz_ad w b))] []) : ∀ (n : Nat) (v1_74 : Int32) (M75 : hz_M), f_X11_minute_L142 b kk203 n v1_74 M75 = some (rE, ME) → hz_G p l e 2 hz_z0 s m args below meth c w N 5 (MQ below (hz_Qi w N rE ME) args s 0 0 (hz_A w)) M75 142 [(0, .ref (hz_ad w b)), (1, .int v1_74)] [] := by
  intro n
  induction n with
  | zero =>
    intro v1_74 M75 h
    rw [f_X11_minute_L142] at h
    cases h
  | succ n ih =>
    intro v1_74 M75 h
    rw [f_X11_minute_L142] at h
    refine hz_iload_n hO dX11_minute_142 rfl 1 rfl ?_
    refine hz_aload_n hO dX11_minute_143 rfl 0 rfl ?_
    refine hz_getI (k := 1) hO hz_K_11 hB.1 hB.2.1 rfl (Nat.le_of_ble_eq_true rfl) tw_3_180 rfl dX11_minute_144 ?_
    refine hz_icmp_ge (tgt := 203) hO dX11_minute_147 (by decide) (fun hc76 => ?_) (fun hc76 => ?_)
    · rw [if_pos hc76] at h
      exact hz_ls [0] rfl (gkk203 M75 h)
    · rw [if_neg hc76] at h
      refine hz_aload_n hO dX11_minute_150 rfl 0 rfl ?_
      refine hz_getR (k := 13) hO (b + 2) hz_K_11 hB.1 hB.2.1 rfl (Nat.le_of_ble_eq_true rfl) tw_3_203 rfl dX11_minute_151 ?_
      refine hz_iload_n hO dX11_minute_154 rfl 1 rfl ?_
      obtain ⟨hg77, h⟩ := hz_gd_e h
      refine hz_iald hO hB.2.2.2.2.1 hB.2.2.2.2.2.1 hg77 dX11_minute_155 ?_
      obtain ⟨k81, hk81, h⟩ := hz_jn_e h
      have gk81 : ∀ (v1_78 : Int32) (M79 : hz_M), k81 v1_78 M79 = some (rE, ME) → hz_G p l e 2 hz_z0 s m args below meth c w N 5 (MQ below (hz_Qi w N rE ME) args s 0 0 (hz_A w)) M79 197 [(0, .ref (hz_ad w b)), (1, .int v1_78)] [] := by
        intro v1_78 M79 h
        rw [hk81] at h
        dsimp only at h
        obtain ⟨x80, h_x80, h⟩ := hz_lt_e h
        refine hz_iinc (k := 1) (v := x80) (ls1 := [(1, .int x80), (0, .ref (hz_ad w b))]) hO dX11_minute_197 rfl (by rw [h_x80]; rfl) (Nat.le_of_ble_eq_true rfl) rfl ?_
        refine hz_goto (tgt := 142) hO dX11_minute_200 (by decide) ?_
        exact hz_ls [1, 0] rfl (ih x80 M79 h)
      clear hk81
      refine hz_if_lt (tgt := 197) hO dX11_minute_156 (by decide) (fun hc82 => ?_) (fun hc82 => ?_)
      · rw [if_pos hc82] at h
        exact hz_ls [0, 1] rfl (gk81 v1_74 M75 h)
      · rw [if_neg hc82] at h
        refine hz_aload_n hO dX11_minute_159 rfl 0 rfl ?_
        refine hz_getI (k := 9) hO hz_K_11 hB.1 hB.2.1 rfl (Nat.le_of_ble_eq_true rfl) tw_3_196 rfl dX11_minute_160 ?_
        refine hz_bipush (v := (60 : Int32)) hO dX11_minute_163 (by decide) ?_
        refine hz_icmp_ge (tgt := 197) hO dX11_minute_165 (by decide) (fun hc83 => ?_) (fun hc83 => ?_)
        · rw [if_pos hc83] at h
          exact hz_ls [0, 1] rfl (gk81 v1_74 M75 h)
        · rw [if_neg hc83] at h
          refine hz_aload_n hO dX11_minute_168 rfl 0 rfl ?_
          refine hz_getR (k := 15) hO (b + 4) hz_K_11 hB.1 hB.2.1 rfl (Nat.le_of_ble_eq_true rfl) tw_3_207 rfl dX11_minute_169 ?_
          refine hz_aload_n hO dX11_minute_172 rfl 0 rfl ?_
          refine hz_getR (k := 13) hO (b + 2) hz_K_11 hB.1 hB.2.1 rfl (Nat.le_of_ble_eq_true rfl) tw_3_203 rfl dX11_minute_173 ?_
          refine hz_iload_n hO dX11_minute_176 rfl 1 rfl ?_
          obtain ⟨hg84, h⟩ := hz_gd_e h
          refine hz_iald hO hB.2.2.2.2.1 hB.2.2.2.2.2.1 hg84 dX11_minute_177 ?_
          obtain ⟨hg85, h⟩ := hz_gd_e h
          refine hz_iald hO hB.2.2.2.2.2.2.2.2.1 hB.2.2.2.2.2.2.2.2.2.1 hg85 dX11_minute_178 ?_
          refine hz_if_le (tgt := 197) hO dX11_minute_179 (by decide) (fun hc86 => ?_) (fun hc86 => ?_)
          · rw [if_pos hc86] at h
            exact hz_ls [0, 1] rfl (gk81 v1_74 M75 h)
          · rw [if_neg hc86] at h
            refine hz_aload_n hO dX11_minute_182 rfl 0 rfl ?_
            refine hz_getR (k := 15) hO (b + 4) hz_K_11 hB.1 hB.2.1 rfl (Nat.le_of_ble_eq_true rfl) tw_3_207 rfl dX11_minute_183 ?_
            refine hz_aload_n hO dX11_minute_186 rfl 0 rfl ?_
            refine hz_getR (k := 13) hO (b + 2) hz_K_11 hB.1 hB.2.1 rfl (Nat.le_of_ble_eq_true rfl) tw_3_203 rfl dX11_minute_187 ?_
            refine hz_iload_n hO dX11_minute_190 rfl 1 rfl ?_
            obtain ⟨hg87, h⟩ := hz_gd_e h
            refine hz_iald hO hB.2.2.2.2.1 hB.2.2.2.2.2.1 hg87 dX11_minute_191 ?_
            obtain ⟨x88, h_x88, h⟩ := hz_lt_e h
            refine hz_name h_x88 ?_
            refine hz_dup2 hO dX11_minute_192 rfl rfl ?_
            obtain ⟨hg89, h⟩ := hz_gd_e h
            refine hz_iald hO hB.2.2.2.2.2.2.2.2.1 hB.2.2.2.2.2.2.2.2.2.1 hg89 dX11_minute_193 ?_
            refine hz_iconst (v := (1 : Int32)) hO dX11_minute_194 (by decide) ?_
            refine hz_isub hO dX11_minute_195 ?_
            obtain ⟨hg90, h⟩ := hz_gd_e h
            obtain ⟨M91, h_M91, h⟩ := hz_lm_e h
            refine hz_iast hO hB.2.2.2.2.2.2.2.2.1 hB.2.2.2.2.2.2.2.2.2.1 hg90 dX11_minute_196 ?_
            refine hz_nameM h_M91 ?_
            exact hz_ls [0, 1] rfl (gk81 v1_74 M91 h)
set_option maxRecDepth 100000 in
set_option maxHeartbeats 4000000 in
theorem g_X11_minute_L62 {p : Program} {l : Launch} {e : Env} {s : State} {m : MethodId} {args : Array Value} {below : List Frame} {meth : Method} {c : Code} {w : hz_C} {N : Nat} (hN : 178 ≤ N) {b : Nat} (hB : hz_Own N b) {rE : Int32} {ME : hz_M} (hO : hz_Ok p s m args meth c w cX11_minute 5 RX11 (some .int)) (kk140 : hz_M → hz_O) (gkk140 : ∀  (M : hz_M), kk140 M = some (rE, ME) → hz_G p l e 2 hz_z0 s m args below meth c w N 5 (MQ below (hz_Qi w N rE ME) args s 0 0 (hz_A w)) M 140 [(0, .ref (hz_ad w b))] []) : ∀ (n : Nat) (v1_93 : Int32) (M94 : hz_M), f_X11_minute_L62 b kk140 n v1_93 M94 = some (rE, ME) → hz_G p l e 2 hz_z0 s m args below meth c w N 5 (MQ below (hz_Qi w N rE ME) args s 0 0 (hz_A w)) M94 62 [(0, .ref (hz_ad w b)), (1, .int v1_93)] [] := by
  intro n
  induction n with
  | zero =>
    intro v1_93 M94 h
    rw [f_X11_minute_L62] at h
    cases h
  | succ n ih =>
    intro v1_93 M94 h
    rw [f_X11_minute_L62] at h
    refine hz_iload_n hO dX11_minute_62 rfl 1 rfl ?_
    refine hz_aload_n hO dX11_minute_63 rfl 0 rfl ?_
    refine hz_getI (k := 10) hO hz_K_11 hB.1 hB.2.1 rfl (Nat.le_of_ble_eq_true rfl) tw_3_198 rfl dX11_minute_64 ?_
    refine hz_icmp_ge (tgt := 140) hO dX11_minute_67 (by decide) (fun hc95 => ?_) (fun hc95 => ?_)
    · rw [if_pos hc95] at h
      exact hz_ls [0] rfl (gkk140 M94 h)
    · rw [if_neg hc95] at h
      refine hz_aload_n hO dX11_minute_70 rfl 0 rfl ?_
      refine hz_getR (k := 18) hO (b + 7) hz_K_11 hB.1 hB.2.1 rfl (Nat.le_of_ble_eq_true rfl) tw_3_213 rfl dX11_minute_71 ?_
      refine hz_iload_n hO dX11_minute_74 rfl 1 rfl ?_
      obtain ⟨hg96, h⟩ := hz_gd_e h
      refine hz_iald hO hB.2.2.2.2.2.2.2.2.2.2.2.2.2.2.1 hB.2.2.2.2.2.2.2.2.2.2.2.2.2.2.2.1 hg96 dX11_minute_75 ?_
      refine hz_iconst (v := (1 : Int32)) hO dX11_minute_76 (by decide) ?_
      obtain ⟨k100, hk100, h⟩ := hz_jn_e h
      have gk100 : ∀ (v1_97 : Int32) (M98 : hz_M), k100 v1_97 M98 = some (rE, ME) → hz_G p l e 2 hz_z0 s m args below meth c w N 5 (MQ below (hz_Qi w N rE ME) args s 0 0 (hz_A w)) M98 134 [(0, .ref (hz_ad w b)), (1, .int v1_97)] [] := by
        intro v1_97 M98 h
        rw [hk100] at h
        dsimp only at h
        obtain ⟨x99, h_x99, h⟩ := hz_lt_e h
        refine hz_iinc (k := 1) (v := x99) (ls1 := [(1, .int x99), (0, .ref (hz_ad w b))]) hO dX11_minute_134 rfl (by rw [h_x99]; rfl) (Nat.le_of_ble_eq_true rfl) rfl ?_
        refine hz_goto (tgt := 62) hO dX11_minute_137 (by decide) ?_
        exact hz_ls [1, 0] rfl (ih x99 M98 h)
      clear hk100
      refine hz_icmp_lt (tgt := 134) hO dX11_minute_77 (by decide) (fun hc101 => ?_) (fun hc101 => ?_)
      · rw [if_pos hc101] at h
        exact hz_ls [0, 1] rfl (gk100 v1_93 M94 h)
      · rw [if_neg hc101] at h
        refine hz_aload_n hO dX11_minute_80 rfl 0 rfl ?_
        refine hz_getR (k := 19) hO (b + 8) hz_K_11 hB.1 hB.2.1 rfl (Nat.le_of_ble_eq_true rfl) tw_3_215 rfl dX11_minute_81 ?_
        refine hz_iload_n hO dX11_minute_84 rfl 1 rfl ?_
        obtain ⟨hg102, h⟩ := hz_gd_e h
        refine hz_iald hO hB.2.2.2.2.2.2.2.2.2.2.2.2.2.2.2.2.1 hB.2.2.2.2.2.2.2.2.2.2.2.2.2.2.2.2.2.1 hg102 dX11_minute_85 ?_
        refine hz_if_lt (tgt := 134) hO dX11_minute_86 (by decide) (fun hc103 => ?_) (fun hc103 => ?_)
        · rw [if_pos hc103] at h
          exact hz_ls [0, 1] rfl (gk100 v1_93 M94 h)
        · rw [if_neg hc103] at h
          refine hz_aload_n hO dX11_minute_89 rfl 0 rfl ?_
          refine hz_getR (k := 15) hO (b + 4) hz_K_11 hB.1 hB.2.1 rfl (Nat.le_of_ble_eq_true rfl) tw_3_207 rfl dX11_minute_90 ?_
          refine hz_aload_n hO dX11_minute_93 rfl 0 rfl ?_
          refine hz_getR (k := 19) hO (b + 8) hz_K_11 hB.1 hB.2.1 rfl (Nat.le_of_ble_eq_true rfl) tw_3_215 rfl dX11_minute_94 ?_
          refine hz_iload_n hO dX11_minute_97 rfl 1 rfl ?_
          obtain ⟨hg104, h⟩ := hz_gd_e h
          refine hz_iald hO hB.2.2.2.2.2.2.2.2.2.2.2.2.2.2.2.2.1 hB.2.2.2.2.2.2.2.2.2.2.2.2.2.2.2.2.2.1 hg104 dX11_minute_98 ?_
          obtain ⟨hg105, h⟩ := hz_gd_e h
          refine hz_iald hO hB.2.2.2.2.2.2.2.2.1 hB.2.2.2.2.2.2.2.2.2.1 hg105 dX11_minute_99 ?_
          refine hz_bipush (v := (9 : Int32)) hO dX11_minute_100 (by decide) ?_
          refine hz_icmp_ne (tgt := 108) hO dX11_minute_102 (by decide) (fun hc106 => ?_) (fun hc106 => ?_)
          · rw [if_neg hc106] at h
            refine hz_aload_n hO dX11_minute_108 rfl 0 rfl ?_
            refine hz_getR (k := 15) hO (b + 4) hz_K_11 hB.1 hB.2.1 rfl (Nat.le_of_ble_eq_true rfl) tw_3_207 rfl dX11_minute_109 ?_
            refine hz_aload_n hO dX11_minute_112 rfl 0 rfl ?_
            refine hz_getR (k := 19) hO (b + 8) hz_K_11 hB.1 hB.2.1 rfl (Nat.le_of_ble_eq_true rfl) tw_3_215 rfl dX11_minute_113 ?_
            refine hz_iload_n hO dX11_minute_116 rfl 1 rfl ?_
            obtain ⟨hg107, h⟩ := hz_gd_e h
            refine hz_iald hO hB.2.2.2.2.2.2.2.2.2.2.2.2.2.2.2.2.1 hB.2.2.2.2.2.2.2.2.2.2.2.2.2.2.2.2.2.1 hg107 dX11_minute_117 ?_
            obtain ⟨x108, h_x108, h⟩ := hz_lt_e h
            refine hz_name h_x108 ?_
            refine hz_dup2 hO dX11_minute_118 rfl rfl ?_
            obtain ⟨hg109, h⟩ := hz_gd_e h
            refine hz_iald hO hB.2.2.2.2.2.2.2.2.1 hB.2.2.2.2.2.2.2.2.2.1 hg109 dX11_minute_119 ?_
            refine hz_iconst (v := (1 : Int32)) hO dX11_minute_120 (by decide) ?_
            refine hz_iadd hO dX11_minute_121 ?_
            obtain ⟨hg110, h⟩ := hz_gd_e h
            obtain ⟨M111, h_M111, h⟩ := hz_lm_e h
            refine hz_iast hO hB.2.2.2.2.2.2.2.2.1 hB.2.2.2.2.2.2.2.2.2.1 hg110 dX11_minute_122 ?_
            refine hz_nameM h_M111 ?_
            refine hz_aload_n hO dX11_minute_123 rfl 0 rfl ?_
            refine hz_getR (k := 16) hO (b + 5) hz_K_11 hB.1 hB.2.1 rfl (Nat.le_of_ble_eq_true rfl) tw_3_209 rfl dX11_minute_124 ?_
            refine hz_bipush (v := (6 : Int32)) hO dX11_minute_127 (by decide) ?_
            refine hz_dup2 hO dX11_minute_129 rfl rfl ?_
            refine hz_iald hO hB.2.2.2.2.2.2.2.2.2.2.1 hB.2.2.2.2.2.2.2.2.2.2.2.1 (by decide) dX11_minute_130 ?_
            refine hz_iconst (v := (1 : Int32)) hO dX11_minute_131 (by decide) ?_
            refine hz_iadd hO dX11_minute_132 ?_
            obtain ⟨M112, h_M112, h⟩ := hz_lm_e h
            refine hz_iast hO hB.2.2.2.2.2.2.2.2.2.2.1 hB.2.2.2.2.2.2.2.2.2.2.2.1 (by decide) dX11_minute_133 ?_
            refine hz_nameM h_M112 ?_
            exact hz_ls [0, 1] rfl (gk100 v1_93 M112 h)
          · rw [if_pos hc106] at h
            refine hz_goto (tgt := 134) hO dX11_minute_105 (by decide) ?_
            exact hz_ls [0, 1] rfl (gk100 v1_93 M94 h)
set_option maxRecDepth 100000 in
set_option maxHeartbeats 4000000 in
theorem c_X11_minute (l : Launch) (w : hz_C) {N : Nat} (hN : 178 ≤ N) {b : Nat} (hB : hz_Own N b) {M : hz_M} {rE : Int32} {ME : hz_M} (h : f_X11_minute b M = some (rE, ME)) : hz_Ct l yX11_minute cX11_minute 5 (some .int) 2 w N [.ref (hz_ad w b)] M (hz_Qi w N rE ME) := by
  refine hz_ofW (by decide) rfl (Nat.le_of_ble_eq_true rfl) tw_5_100 ?_
  intro p e s m args below meth c hO
  show hz_G p l e 2 hz_z0 s m args below meth c w N 5 _ M 0 [(0, .ref (hz_ad w b))] []
  unfold f_X11_minute at h
  refine hz_aload_n hO dX11_minute_0 rfl 0 rfl ?_
  refine hz_dup hO dX11_minute_1 rfl ?_
  refine hz_getI (k := 8) hO hz_K_11 hB.1 hB.2.1 rfl (Nat.le_of_ble_eq_true rfl) tw_3_194 rfl dX11_minute_2 ?_
  refine hz_iconst (v := (1 : Int32)) hO dX11_minute_5 (by decide) ?_
  refine hz_iadd hO dX11_minute_6 ?_
  obtain ⟨M1, h_M1, h⟩ := hz_lm_e h
  refine hz_putI (k := 8) (ty := .int) hO hz_K_11 tyX11_ok nmX11 hB.1 hB.2.1 rfl (Nat.le_of_ble_eq_true rfl) tw_3_194 rfl rfl rfl rfl rfl dX11_minute_7 ?_
  refine hz_nameM h_M1 ?_
  refine hz_aload_n hO dX11_minute_10 rfl 0 rfl ?_
  refine hz_getR (k := 16) hO (b + 5) hz_K_11 hB.1 hB.2.1 rfl (Nat.le_of_ble_eq_true rfl) tw_3_209 rfl dX11_minute_11 ?_
  refine hz_bipush (v := (8 : Int32)) hO dX11_minute_14 (by decide) ?_
  refine hz_dup2 hO dX11_minute_16 rfl rfl ?_
  refine hz_iald hO hB.2.2.2.2.2.2.2.2.2.2.1 hB.2.2.2.2.2.2.2.2.2.2.2.1 (by decide) dX11_minute_17 ?_
  refine hz_iconst (v := (1 : Int32)) hO dX11_minute_18 (by decide) ?_
  refine hz_iadd hO dX11_minute_19 ?_
  obtain ⟨M2, h_M2, h⟩ := hz_lm_e h
  refine hz_iast hO hB.2.2.2.2.2.2.2.2.2.2.1 hB.2.2.2.2.2.2.2.2.2.2.2.1 (by decide) dX11_minute_20 ?_
  refine hz_nameM h_M2 ?_
  refine hz_aload_n hO dX11_minute_21 rfl 0 rfl ?_
  refine hz_getI (k := 8) hO hz_K_11 hB.1 hB.2.1 rfl (Nat.le_of_ble_eq_true rfl) tw_3_194 rfl dX11_minute_22 ?_
  refine hz_aload_n hO dX11_minute_25 rfl 0 rfl ?_
  refine hz_getI (k := 6) hO hz_K_11 hB.1 hB.2.1 rfl (Nat.le_of_ble_eq_true rfl) tw_3_190 rfl dX11_minute_26 ?_
  obtain ⟨hg3, h⟩ := hz_gd_e h
  refine hz_irem hO dX11_minute_29 (hz_nz_e hg3) ?_
  obtain ⟨k113, hk113, h⟩ := hz_jn_e h
  have gk113 : ∀  (M4 : hz_M), k113 M4 = some (rE, ME) → hz_G p l e 2 hz_z0 s m args below meth c w N 5 (MQ below (hz_Qi w N rE ME) args s 0 0 (hz_A w)) M4 52 [(0, .ref (hz_ad w b))] [] := by
    intro M4 h
    rw [hk113] at h
    dsimp only at h
    refine hz_aload_n hO dX11_minute_52 rfl 0 rfl ?_
    refine hz_aload_n hO dX11_minute_53 rfl 0 rfl ?_
    obtain ⟨r5, M6, hq7, h⟩ := hz_ct_e h
    refine hz_callVi (as := []) (rest := [.ref (hz_ad w b)]) hO (c_X11_nextHeat l w hN hB hq7) hz_cal_X11_nextHeat hz_K_11 hB.1 hB.2.1 tw_5_101 (Nat.le_of_ble_eq_true rfl) rfl rfl (Nat.le_of_ble_eq_true rfl) dX11_minute_54 ?_
    obtain ⟨M8, h_M8, h⟩ := hz_lm_e h
    refine hz_putI (k := 9) (ty := .int) hO hz_K_11 tyX11_ok nmX11 hB.1 hB.2.1 rfl (Nat.le_of_ble_eq_true rfl) tw_3_196 rfl rfl rfl rfl rfl dX11_minute_57 ?_
    refine hz_nameM h_M8 ?_
    refine hz_iconst (v := (0 : Int32)) hO dX11_minute_60 (by decide) ?_
    refine hz_istore_n (ls1 := [(1, .int (0 : Int32)), (0, .ref (hz_ad w b))]) hO dX11_minute_61 rfl (Nat.le_of_ble_eq_true rfl) rfl ?_
    obtain ⟨k92, hk92, h⟩ := hz_jn_e h
    have gk92 : ∀  (M9 : hz_M), k92 M9 = some (rE, ME) → hz_G p l e 2 hz_z0 s m args below meth c w N 5 (MQ below (hz_Qi w N rE ME) args s 0 0 (hz_A w)) M9 140 [(0, .ref (hz_ad w b))] [] := by
      intro M9 h
      rw [hk92] at h
      dsimp only at h
      refine hz_iconst (v := (0 : Int32)) hO dX11_minute_140 (by decide) ?_
      refine hz_istore_n (ls1 := [(1, .int (0 : Int32)), (0, .ref (hz_ad w b))]) hO dX11_minute_141 rfl (Nat.le_of_ble_eq_true rfl) rfl ?_
      obtain ⟨k73, hk73, h⟩ := hz_jn_e h
      have gk73 : ∀  (M10 : hz_M), k73 M10 = some (rE, ME) → hz_G p l e 2 hz_z0 s m args below meth c w N 5 (MQ below (hz_Qi w N rE ME) args s 0 0 (hz_A w)) M10 203 [(0, .ref (hz_ad w b))] [] := by
        intro M10 h
        rw [hk73] at h
        dsimp only at h
        refine hz_iconst (v := (0 : Int32)) hO dX11_minute_203 (by decide) ?_
        refine hz_istore_n (ls1 := [(1, .int (0 : Int32)), (0, .ref (hz_ad w b))]) hO dX11_minute_204 rfl (Nat.le_of_ble_eq_true rfl) rfl ?_
        refine hz_iconst (v := (0 : Int32)) hO dX11_minute_205 (by decide) ?_
        refine hz_istore_n (ls1 := [(2, .int (0 : Int32)), (1, .int (0 : Int32)), (0, .ref (hz_ad w b))]) hO dX11_minute_206 rfl (Nat.le_of_ble_eq_true rfl) rfl ?_
        exact hz_ls [2, 1, 0] rfl (g_X11_minute_L207 hN hB hO _ (0 : Int32) (0 : Int32) M10 h)
      clear hk73
      exact hz_ls [1, 0] rfl (g_X11_minute_L142 hN hB hO _ gk73 _ (0 : Int32) M9 h)
    clear hk92
    exact hz_ls [1, 0] rfl (g_X11_minute_L62 hN hB hO _ gk92 _ (0 : Int32) M8 h)
  clear hk113
  refine hz_if_ne (tgt := 52) hO dX11_minute_30 (by decide) (fun hc114 => ?_) (fun hc114 => ?_)
  · rw [if_neg hc114] at h
    exact hz_ls [0] rfl (gk113 M2 h)
  · rw [if_pos hc114] at h
    refine hz_aload_n hO dX11_minute_33 rfl 0 rfl ?_
    refine hz_aload_n hO dX11_minute_34 rfl 0 rfl ?_
    refine hz_getI (k := 8) hO hz_K_11 hB.1 hB.2.1 rfl (Nat.le_of_ble_eq_true rfl) tw_3_194 rfl dX11_minute_35 ?_
    obtain ⟨M115, h_M115, h⟩ := hz_lm_e h
    refine hz_putI (k := 11) (ty := .int) hO hz_K_11 tyX11_ok nmX11 hB.1 hB.2.1 rfl (Nat.le_of_ble_eq_true rfl) tw_3_200 rfl rfl rfl rfl rfl dX11_minute_38 ?_
    refine hz_nameM h_M115 ?_
    refine hz_aload_n hO dX11_minute_41 rfl 0 rfl ?_
    refine hz_getR (k := 16) hO (b + 5) hz_K_11 hB.1 hB.2.1 rfl (Nat.le_of_ble_eq_true rfl) tw_3_209 rfl dX11_minute_42 ?_
    refine hz_bipush (v := (7 : Int32)) hO dX11_minute_45 (by decide) ?_
    refine hz_dup2 hO dX11_minute_47 rfl rfl ?_
    refine hz_iald hO hB.2.2.2.2.2.2.2.2.2.2.1 hB.2.2.2.2.2.2.2.2.2.2.2.1 (by decide) dX11_minute_48 ?_
    refine hz_iconst (v := (1 : Int32)) hO dX11_minute_49 (by decide) ?_
    refine hz_iadd hO dX11_minute_50 ?_
    obtain ⟨M116, h_M116, h⟩ := hz_lm_e h
    refine hz_iast hO hB.2.2.2.2.2.2.2.2.2.2.1 hB.2.2.2.2.2.2.2.2.2.2.2.1 (by decide) dX11_minute_51 ?_
    refine hz_nameM h_M116 ?_
    exact hz_ls [0] rfl (gk113 M116 h)
def f_X11_enters_L2 (b : Nat) (kk17 : Int32 → Int32 → hz_M → hz_O) : Nat → Int32 → Int32 → hz_M → hz_O
  | 0, _, _, _ => none
  | n + 1, v1_23, v2_24, M25 =>
    hz_gd (hz_in v2_24 12) <|
    if (M25 (b + 3) (Int32.toNatClampNeg v2_24)) < 0 then
      kk17 v1_23 v2_24 M25
    else
      hz_lt (v2_24 + (1 : Int32)) fun x28 =>
      f_X11_enters_L2 b kk17 n v1_23 x28 M25
def f_X11_enters (b : Nat) (a1 : Int32) (M : hz_M) : hz_O :=
  hz_jn (fun (v1_1 : Int32) (v2_2 : Int32) (M3 : hz_M) =>
    hz_gd (hz_in v2_2 12) <|
    hz_lm (hz_set M3 (b + 3) (Int32.toNatClampNeg v2_2) v1_1) fun M5 =>
    hz_ct (f_X11_driest b M5) fun r6 M7 =>
    hz_gd (hz_in v1_1 16) <|
    hz_lm (hz_set M7 (b + 8) (Int32.toNatClampNeg v1_1) r6) fun M10 =>
    hz_gd (hz_in v1_1 16) <|
    hz_ct (f_X11_pegOf b (M10 (b + 8) (Int32.toNatClampNeg v1_1)) M10) fun r12 M13 =>
    hz_gd (hz_in r12 16) <|
    hz_lm (hz_set M13 (b + 2) (Int32.toNatClampNeg r12) (-1 : Int32)) fun M16 =>
    hz_gd (hz_in v1_1 16) <|
    hz_lm (hz_set M16 (b + 7) (Int32.toNatClampNeg v1_1) (0 : Int32)) fun M18 =>
    hz_gd (hz_in v1_1 16) <|
    hz_lm (hz_set M18 (b + 9) (Int32.toNatClampNeg v1_1) (0 : Int32)) fun M20 =>
    hz_lm (hz_set M20 (b + 5) (Int32.toNatClampNeg (0 : Int32)) ((M20 (b + 5) (Int32.toNatClampNeg (0 : Int32))) + (1 : Int32))) fun M21 =>
    some (v2_2, M21)
    ) fun k22 =>
  f_X11_enters_L2 b k22 hz_FU a1 (0 : Int32) M
set_option maxRecDepth 100000 in
set_option maxHeartbeats 4000000 in
theorem g_X11_enters_L2 {p : Program} {l : Launch} {e : Env} {s : State} {m : MethodId} {args : Array Value} {below : List Frame} {meth : Method} {c : Code} {w : hz_C} {N : Nat} (hN : 178 ≤ N) {b : Nat} (hB : hz_Own N b) {rE : Int32} {ME : hz_M} (hO : hz_Ok p s m args meth c w cX11_enters 3 RX11 (some .int)) (kk17 : Int32 → Int32 → hz_M → hz_O) (gkk17 : ∀ (v1_1 : Int32) (v2_2 : Int32) (M : hz_M), kk17 v1_1 v2_2 M = some (rE, ME) → hz_G p l e 1 hz_z0 s m args below meth c w N 3 (MQ below (hz_Qi w N rE ME) args s 0 0 (hz_A w)) M 17 [(0, .ref (hz_ad w b)), (1, .int v1_1), (2, .int v2_2)] []) : ∀ (n : Nat) (v1_23 : Int32) (v2_24 : Int32) (M25 : hz_M), f_X11_enters_L2 b kk17 n v1_23 v2_24 M25 = some (rE, ME) → hz_G p l e 1 hz_z0 s m args below meth c w N 3 (MQ below (hz_Qi w N rE ME) args s 0 0 (hz_A w)) M25 2 [(0, .ref (hz_ad w b)), (1, .int v1_23), (2, .int v2_24)] [] := by
  intro n
  induction n with
  | zero =>
    intro v1_23 v2_24 M25 h
    rw [f_X11_enters_L2] at h
    cases h
  | succ n ih =>
    intro v1_23 v2_24 M25 h
    rw [f_X11_enters_L2] at h
    refine hz_aload_n hO dX11_enters_2 rfl 0 rfl ?_
    refine hz_getR (k := 14) hO (b + 3) hz_K_11 hB.1 hB.2.1 rfl (Nat.le_of_ble_eq_true rfl) tw_3_205 rfl dX11_enters_3 ?_
    refine hz_iload_n hO dX11_enters_6 rfl 2 rfl ?_
    obtain ⟨hg26, h⟩ := hz_gd_e h
    refine hz_iald hO hB.2.2.2.2.2.2.1 hB.2.2.2.2.2.2.2.1 hg26 dX11_enters_7 ?_
    refine hz_if_lt (tgt := 17) hO dX11_enters_8 (by decide) (fun hc27 => ?_) (fun hc27 => ?_)
    · rw [if_pos hc27] at h
      exact hz_ls [0, 1, 2] rfl (gkk17 v1_23 v2_24 M25 h)
    · rw [if_neg hc27] at h
      obtain ⟨x28, h_x28, h⟩ := hz_lt_e h
      refine hz_iinc (k := 2) (v := x28) (ls1 := [(2, .int x28), (0, .ref (hz_ad w b)), (1, .int v1_23)]) hO dX11_enters_11 rfl (by rw [h_x28]; rfl) (Nat.le_of_ble_eq_true rfl) rfl ?_
      refine hz_goto (tgt := 2) hO dX11_enters_14 (by decide) ?_
      exact hz_ls [1, 2, 0] rfl (ih v1_23 x28 M25 h)
set_option maxRecDepth 100000 in
set_option maxHeartbeats 4000000 in
theorem c_X11_enters (l : Launch) (w : hz_C) {N : Nat} (hN : 178 ≤ N) {b : Nat} (hB : hz_Own N b) (a1 : Int32) {M : hz_M} {rE : Int32} {ME : hz_M} (h : f_X11_enters b a1 M = some (rE, ME)) : hz_Ct l yX11_enters cX11_enters 3 (some .int) 1 w N [.ref (hz_ad w b), .int a1] M (hz_Qi w N rE ME) := by
  refine hz_ofW (by decide) rfl (Nat.le_of_ble_eq_true rfl) tw_6_22 ?_
  intro p e s m args below meth c hO
  show hz_G p l e 1 hz_z0 s m args below meth c w N 3 _ M 0 [(0, .ref (hz_ad w b)), (1, .int a1)] []
  unfold f_X11_enters at h
  refine hz_iconst (v := (0 : Int32)) hO dX11_enters_0 (by decide) ?_
  refine hz_istore_n (ls1 := [(2, .int (0 : Int32)), (0, .ref (hz_ad w b)), (1, .int a1)]) hO dX11_enters_1 rfl (Nat.le_of_ble_eq_true rfl) rfl ?_
  obtain ⟨k22, hk22, h⟩ := hz_jn_e h
  have gk22 : ∀ (v1_1 : Int32) (v2_2 : Int32) (M3 : hz_M), k22 v1_1 v2_2 M3 = some (rE, ME) → hz_G p l e 1 hz_z0 s m args below meth c w N 3 (MQ below (hz_Qi w N rE ME) args s 0 0 (hz_A w)) M3 17 [(0, .ref (hz_ad w b)), (1, .int v1_1), (2, .int v2_2)] [] := by
    intro v1_1 v2_2 M3 h
    rw [hk22] at h
    dsimp only at h
    refine hz_aload_n hO dX11_enters_17 rfl 0 rfl ?_
    refine hz_getR (k := 14) hO (b + 3) hz_K_11 hB.1 hB.2.1 rfl (Nat.le_of_ble_eq_true rfl) tw_3_205 rfl dX11_enters_18 ?_
    refine hz_iload_n hO dX11_enters_21 rfl 2 rfl ?_
    refine hz_iload_n hO dX11_enters_22 rfl 1 rfl ?_
    obtain ⟨hg4, h⟩ := hz_gd_e h
    obtain ⟨M5, h_M5, h⟩ := hz_lm_e h
    refine hz_iast hO hB.2.2.2.2.2.2.1 hB.2.2.2.2.2.2.2.1 hg4 dX11_enters_23 ?_
    refine hz_nameM h_M5 ?_
    refine hz_aload_n hO dX11_enters_24 rfl 0 rfl ?_
    refine hz_getR (k := 19) hO (b + 8) hz_K_11 hB.1 hB.2.1 rfl (Nat.le_of_ble_eq_true rfl) tw_3_215 rfl dX11_enters_25 ?_
    refine hz_iload_n hO dX11_enters_28 rfl 1 rfl ?_
    refine hz_aload_n hO dX11_enters_29 rfl 0 rfl ?_
    obtain ⟨r6, M7, hq8, h⟩ := hz_ct_e h
    refine hz_callVi (as := []) (rest := [.int v1_1, .ref (hz_ad w (b + 8))]) hO (c_X11_driest l w hN hB hq8) hz_cal_X11_driest hz_K_11 hB.1 hB.2.1 tw_4_138 (Nat.le_of_ble_eq_true rfl) rfl rfl (Nat.le_of_ble_eq_true rfl) dX11_enters_30 ?_
    obtain ⟨hg9, h⟩ := hz_gd_e h
    obtain ⟨M10, h_M10, h⟩ := hz_lm_e h
    refine hz_iast hO hB.2.2.2.2.2.2.2.2.2.2.2.2.2.2.2.2.1 hB.2.2.2.2.2.2.2.2.2.2.2.2.2.2.2.2.2.1 hg9 dX11_enters_33 ?_
    refine hz_nameM h_M10 ?_
    refine hz_aload_n hO dX11_enters_34 rfl 0 rfl ?_
    refine hz_getR (k := 13) hO (b + 2) hz_K_11 hB.1 hB.2.1 rfl (Nat.le_of_ble_eq_true rfl) tw_3_203 rfl dX11_enters_35 ?_
    refine hz_aload_n hO dX11_enters_38 rfl 0 rfl ?_
    refine hz_aload_n hO dX11_enters_39 rfl 0 rfl ?_
    refine hz_getR (k := 19) hO (b + 8) hz_K_11 hB.1 hB.2.1 rfl (Nat.le_of_ble_eq_true rfl) tw_3_215 rfl dX11_enters_40 ?_
    refine hz_iload_n hO dX11_enters_43 rfl 1 rfl ?_
    obtain ⟨hg11, h⟩ := hz_gd_e h
    refine hz_iald hO hB.2.2.2.2.2.2.2.2.2.2.2.2.2.2.2.2.1 hB.2.2.2.2.2.2.2.2.2.2.2.2.2.2.2.2.2.1 hg11 dX11_enters_44 ?_
    obtain ⟨r12, M13, hq14, h⟩ := hz_ct_e h
    refine hz_callVi (as := [.int (M10 (b + 8) (Int32.toNatClampNeg v1_1))]) (rest := [.ref (hz_ad w (b + 2))]) hO (c_X11_pegOf l w hN hB (M10 (b + 8) (Int32.toNatClampNeg v1_1)) hq14) hz_cal_X11_pegOf hz_K_11 hB.1 hB.2.1 tw_4_216 (Nat.le_of_ble_eq_true rfl) rfl rfl (Nat.le_of_ble_eq_true rfl) dX11_enters_45 ?_
    refine hz_iconst (v := (-1 : Int32)) hO dX11_enters_48 (by decide) ?_
    obtain ⟨hg15, h⟩ := hz_gd_e h
    obtain ⟨M16, h_M16, h⟩ := hz_lm_e h
    refine hz_iast hO hB.2.2.2.2.1 hB.2.2.2.2.2.1 hg15 dX11_enters_49 ?_
    refine hz_nameM h_M16 ?_
    refine hz_aload_n hO dX11_enters_50 rfl 0 rfl ?_
    refine hz_getR (k := 18) hO (b + 7) hz_K_11 hB.1 hB.2.1 rfl (Nat.le_of_ble_eq_true rfl) tw_3_213 rfl dX11_enters_51 ?_
    refine hz_iload_n hO dX11_enters_54 rfl 1 rfl ?_
    refine hz_iconst (v := (0 : Int32)) hO dX11_enters_55 (by decide) ?_
    obtain ⟨hg17, h⟩ := hz_gd_e h
    obtain ⟨M18, h_M18, h⟩ := hz_lm_e h
    refine hz_iast hO hB.2.2.2.2.2.2.2.2.2.2.2.2.2.2.1 hB.2.2.2.2.2.2.2.2.2.2.2.2.2.2.2.1 hg17 dX11_enters_56 ?_
    refine hz_nameM h_M18 ?_
    refine hz_aload_n hO dX11_enters_57 rfl 0 rfl ?_
    refine hz_getR (k := 20) hO (b + 9) hz_K_11 hB.1 hB.2.1 rfl (Nat.le_of_ble_eq_true rfl) tw_3_217 rfl dX11_enters_58 ?_
    refine hz_iload_n hO dX11_enters_61 rfl 1 rfl ?_
    refine hz_iconst (v := (0 : Int32)) hO dX11_enters_62 (by decide) ?_
    obtain ⟨hg19, h⟩ := hz_gd_e h
    obtain ⟨M20, h_M20, h⟩ := hz_lm_e h
    refine hz_iast hO hB.2.2.2.2.2.2.2.2.2.2.2.2.2.2.2.2.2.2.1 hB.2.2.2.2.2.2.2.2.2.2.2.2.2.2.2.2.2.2.2.1 hg19 dX11_enters_63 ?_
    refine hz_nameM h_M20 ?_
    refine hz_aload_n hO dX11_enters_64 rfl 0 rfl ?_
    refine hz_getR (k := 16) hO (b + 5) hz_K_11 hB.1 hB.2.1 rfl (Nat.le_of_ble_eq_true rfl) tw_3_209 rfl dX11_enters_65 ?_
    refine hz_iconst (v := (0 : Int32)) hO dX11_enters_68 (by decide) ?_
    refine hz_dup2 hO dX11_enters_69 rfl rfl ?_
    refine hz_iald hO hB.2.2.2.2.2.2.2.2.2.2.1 hB.2.2.2.2.2.2.2.2.2.2.2.1 (by decide) dX11_enters_70 ?_
    refine hz_iconst (v := (1 : Int32)) hO dX11_enters_71 (by decide) ?_
    refine hz_iadd hO dX11_enters_72 ?_
    obtain ⟨M21, h_M21, h⟩ := hz_lm_e h
    refine hz_iast hO hB.2.2.2.2.2.2.2.2.2.2.1 hB.2.2.2.2.2.2.2.2.2.2.2.1 (by decide) dX11_enters_73 ?_
    refine hz_nameM h_M21 ?_
    refine hz_iload_n hO dX11_enters_74 rfl 2 rfl ?_
    exact hz_nameM (hz_some_e h).2.symm (hz_name (hz_some_e h).1.symm (hz_iret hO dX11_enters_75))
  clear hk22
  exact hz_ls [1, 2, 0] rfl (g_X11_enters_L2 hN hB hO _ gk22 _ a1 (0 : Int32) M h)
