-- X6_runAgain X6_orderHere X6_readSubject X6_runOrder X6_readBrackets X6_runOrders X6_readOrder X6_readOrders
def r_X6_runAgain_L2 (rec : Int32 → Int32 → Int32 → hz_M → hz_O) : Nat → Int32 → Int32 → Int32 → hz_M → hz_O
  | 0, _, _, _, _ => none
  | n + 1, v1_1, v2_2, v3_3, M4 =>
    hz_gd (hz_in v1_1 30) <|
    if (M4 30 (Int32.toNatClampNeg v1_1)) ≤ v3_3 then
      some (0, M4)
    else
      if (M4 27 8) = 0 then
        if (2 : Int32) ≤ v2_2 then
          some (0, M4)
        else
          hz_gd (hz_in v1_1 30) <|
          hz_ct (rec (v1_1 + (1 : Int32)) (M4 31 (Int32.toNatClampNeg v1_1)) (v2_2 + (1 : Int32)) M4) fun r10 M11 =>
          hz_lt (v3_3 + (1 : Int32)) fun x13 =>
          r_X6_runAgain_L2 rec n v1_1 v2_2 x13 M11
      else
        some (0, M4)
def r_X6_runAgain (rec : Int32 → Int32 → Int32 → hz_M → hz_O) (a1 : Int32) (a2 : Int32) (M : hz_M) : hz_O :=
  r_X6_runAgain_L2 rec hz_FU a1 a2 (0 : Int32) M
set_option maxRecDepth 100000 in
set_option maxHeartbeats 4000000 in
theorem gr_X6_runAgain_L2 {p : Program} {l : Launch} {e : Env} {s : State} {m : MethodId} {args : Array Value} {below : List Frame} {meth : Method} {c : Code} {w : hz_C} {N : Nat} (hN : 178 ≤ N) {hc : Nat} (hb : 20 ≤ hc) {rec : Int32 → Int32 → Int32 → hz_M → hz_O} (hrec : ∀ (b0 : Int32) (b1 : Int32) (b2 : Int32) (M : hz_M) (rE : Int32) (ME : hz_M), rec b0 b1 b2 M = some (rE, ME) → hz_Ct l yX6_runOrders cX6_runOrders 6 none hc w N [.ref (hz_ad w 27), .int b0, .int b1, .int b2] M (hz_Qv w N ME)) {rE : Int32} {ME : hz_M} (hO : hz_Ok p s m args meth c w cX6_runAgain 4 RX6 none) : ∀ (n : Nat) (v1_1 : Int32) (v2_2 : Int32) (v3_3 : Int32) (M4 : hz_M), r_X6_runAgain_L2 rec n v1_1 v2_2 v3_3 M4 = some (rE, ME) → hz_G p l e (hc + 1) hz_z0 s m args below meth c w N 4 (MQ below (hz_Qv w N ME) args s 0 0 (hz_A w)) M4 2 [(0, .ref (hz_ad w 27)), (1, .int v1_1), (2, .int v2_2), (3, .int v3_3)] [] := by
  intro n
  induction n with
  | zero =>
    intro v1_1 v2_2 v3_3 M4 h
    rw [r_X6_runAgain_L2] at h
    cases h
  | succ n ih =>
    intro v1_1 v2_2 v3_3 M4 h
    rw [r_X6_runAgain_L2] at h
    refine hz_iload_n hO dX6_runAgain_2 rfl 3 rfl ?_
    refine hz_aload_n hO dX6_runAgain_3 rfl 0 rfl ?_
    refine hz_getR (k := 4) hO 30 hz_K_4 hz_sh_27 (hz_lt_27 hN) rfl (Nat.le_of_ble_eq_true rfl) tw_2_55 rfl dX6_runAgain_4 ?_
    refine hz_iload_n hO dX6_runAgain_7 rfl 1 rfl ?_
    obtain ⟨hg5, h⟩ := hz_gd_e h
    refine hz_iald hO hz_sh_30 (hz_lt_30 hN) hg5 dX6_runAgain_8 ?_
    refine hz_icmp_ge (tgt := 46) hO dX6_runAgain_9 (by decide) (fun hc6 => ?_) (fun hc6 => ?_)
    · rw [if_pos hc6] at h
      exact hz_nameM (hz_some_e h).2.symm (hz_vret hO dX6_runAgain_46)
    · rw [if_neg hc6] at h
      refine hz_aload_n hO dX6_runAgain_12 rfl 0 rfl ?_
      refine hz_getI (k := 8) hO hz_K_4 hz_sh_27 (hz_lt_27 hN) rfl (Nat.le_of_ble_eq_true rfl) tw_2_61 rfl dX6_runAgain_13 ?_
      refine hz_if_ne (tgt := 46) hO dX6_runAgain_16 (by decide) (fun hc7 => ?_) (fun hc7 => ?_)
      · rw [if_neg hc7] at h
        exact hz_nameM (hz_some_e h).2.symm (hz_vret hO dX6_runAgain_46)
      · rw [if_pos hc7] at h
        refine hz_iload_n hO dX6_runAgain_19 rfl 2 rfl ?_
        refine hz_iconst (v := (2 : Int32)) hO dX6_runAgain_20 (by decide) ?_
        refine hz_icmp_ge (tgt := 46) hO dX6_runAgain_21 (by decide) (fun hc8 => ?_) (fun hc8 => ?_)
        · rw [if_pos hc8] at h
          exact hz_nameM (hz_some_e h).2.symm (hz_vret hO dX6_runAgain_46)
        · rw [if_neg hc8] at h
          refine hz_aload_n hO dX6_runAgain_24 rfl 0 rfl ?_
          refine hz_iload_n hO dX6_runAgain_25 rfl 1 rfl ?_
          refine hz_iconst (v := (1 : Int32)) hO dX6_runAgain_26 (by decide) ?_
          refine hz_iadd hO dX6_runAgain_27 ?_
          refine hz_aload_n hO dX6_runAgain_28 rfl 0 rfl ?_
          refine hz_getR (k := 5) hO 31 hz_K_4 hz_sh_27 (hz_lt_27 hN) rfl (Nat.le_of_ble_eq_true rfl) tw_2_56 rfl dX6_runAgain_29 ?_
          refine hz_iload_n hO dX6_runAgain_32 rfl 1 rfl ?_
          obtain ⟨hg9, h⟩ := hz_gd_e h
          refine hz_iald hO hz_sh_31 (hz_lt_31 hN) hg9 dX6_runAgain_33 ?_
          refine hz_iload_n hO dX6_runAgain_34 rfl 2 rfl ?_
          refine hz_iconst (v := (1 : Int32)) hO dX6_runAgain_35 (by decide) ?_
          refine hz_iadd hO dX6_runAgain_36 ?_
          obtain ⟨r10, M11, hq12, h⟩ := hz_ct_e h
          refine hz_callVv (as := [.int (v1_1 + (1 : Int32)), .int (M4 31 (Int32.toNatClampNeg v1_1)), .int (v2_2 + (1 : Int32))]) (rest := []) hO (hrec (v1_1 + (1 : Int32)) (M4 31 (Int32.toNatClampNeg v1_1)) (v2_2 + (1 : Int32)) _ _ _ hq12) hz_cal_X6_runOrders hz_K_4 hz_sh_27 (hz_lt_27 hN) tw_3_170 (by omega) rfl rfl (Nat.le_of_ble_eq_true rfl) dX6_runAgain_37 ?_
          obtain ⟨x13, h_x13, h⟩ := hz_lt_e h
          refine hz_iinc (k := 3) (v := x13) (ls1 := [(3, .int x13), (0, .ref (hz_ad w 27)), (1, .int v1_1), (2, .int v2_2)]) hO dX6_runAgain_40 rfl (by rw [h_x13]; rfl) (Nat.le_of_ble_eq_true rfl) rfl ?_
          refine hz_goto (tgt := 2) hO dX6_runAgain_43 (by decide) ?_
          exact hz_ls [1, 2, 3, 0] rfl (ih v1_1 v2_2 x13 M11 h)
set_option maxRecDepth 100000 in
set_option maxHeartbeats 4000000 in
theorem cr_X6_runAgain (l : Launch) (w : hz_C) {N : Nat} (hN : 178 ≤ N) {hc : Nat} (hb : 20 ≤ hc) {rec : Int32 → Int32 → Int32 → hz_M → hz_O} (hrec : ∀ (b0 : Int32) (b1 : Int32) (b2 : Int32) (M : hz_M) (rE : Int32) (ME : hz_M), rec b0 b1 b2 M = some (rE, ME) → hz_Ct l yX6_runOrders cX6_runOrders 6 none hc w N [.ref (hz_ad w 27), .int b0, .int b1, .int b2] M (hz_Qv w N ME)) (a1 : Int32) (a2 : Int32) {M : hz_M} {rE : Int32} {ME : hz_M} (h : r_X6_runAgain rec a1 a2 M = some (rE, ME)) : hz_Ct l yX6_runAgain cX6_runAgain 4 none (hc + 1) w N [.ref (hz_ad w 27), .int a1, .int a2] M (hz_Qv w N ME) := by
  refine hz_ofW (by decide) rfl (Nat.le_of_ble_eq_true rfl) tw_3_169 ?_
  intro p e s m args below meth c hO
  show hz_G p l e (hc + 1) hz_z0 s m args below meth c w N 4 _ M 0 [(0, .ref (hz_ad w 27)), (1, .int a1), (2, .int a2)] []
  unfold r_X6_runAgain at h
  refine hz_iconst (v := (0 : Int32)) hO dX6_runAgain_0 (by decide) ?_
  refine hz_istore_n (ls1 := [(3, .int (0 : Int32)), (0, .ref (hz_ad w 27)), (1, .int a1), (2, .int a2)]) hO dX6_runAgain_1 rfl (Nat.le_of_ble_eq_true rfl) rfl ?_
  exact hz_ls [1, 2, 3, 0] rfl (gr_X6_runAgain_L2 hN hb hrec hO _ a1 a2 (0 : Int32) M h)
def f_X6_orderHere_L2 (kk39 : hz_M → hz_O) : Nat → Int32 → hz_M → hz_O
  | 0, _, _ => none
  | n + 1, v1_3, M4 =>
    if (11 : Int32) ≤ v1_3 then
      kk39 M4
    else
      hz_gd (hz_in v1_3 11) <|
      hz_lt ((v1_3 + 1)) fun x9 =>
      hz_jn (fun (v1_10 : Int32) (M11 : hz_M) =>
        hz_lt (v1_10 + (1 : Int32)) fun x12 =>
        f_X6_orderHere_L2 kk39 n x12 M11
        ) fun k13 =>
      if x9 = 0 then
        k13 v1_3 M4
      else
        hz_gd (hz_nn x9) <|
        hz_ct (f_X8_isWord (hz_wd x9) M4) fun r16 M17 =>
        if r16 = 0 then
          k13 v1_3 M17
        else
          some (x9, M17)
def f_X6_orderHere (M : hz_M) : hz_O :=
  hz_jn (fun  (M1 : hz_M) =>
    some ((0 : Int32), M1)
    ) fun k2 =>
  f_X6_orderHere_L2 k2 hz_FU (0 : Int32) M
set_option maxRecDepth 100000 in
set_option maxHeartbeats 4000000 in
theorem g_X6_orderHere_L2 {p : Program} {l : Launch} {e : Env} {s : State} {m : MethodId} {args : Array Value} {below : List Frame} {meth : Method} {c : Code} {w : hz_C} {N : Nat} (hN : 178 ≤ N) {rE : Int32} {ME : hz_M} (hO : hz_Ok p s m args meth c w cX6_orderHere 3 RX6 (some (.object "HotSteps$Order"))) (kk39 : hz_M → hz_O) (gkk39 : ∀  (M : hz_M), kk39 M = some (rE, ME) → hz_G p l e 9 hz_z0 s m args below meth c w N 3 (MQ below (hz_Qe w N rE ME) args s 0 0 (hz_A w)) M 39 [] []) : ∀ (n : Nat) (v1_3 : Int32) (M4 : hz_M), f_X6_orderHere_L2 kk39 n v1_3 M4 = some (rE, ME) → hz_G p l e 9 hz_z0 s m args below meth c w N 3 (MQ below (hz_Qe w N rE ME) args s 0 0 (hz_A w)) M4 2 [(0, .ref (hz_ad w 9)), (1, .int v1_3)] [] := by
  intro n
  induction n with
  | zero =>
    intro v1_3 M4 h
    rw [f_X6_orderHere_L2] at h
    cases h
  | succ n ih =>
    intro v1_3 M4 h
    rw [f_X6_orderHere_L2] at h
    refine hz_iload_n hO dX6_orderHere_2 rfl 1 rfl ?_
    obtain ⟨t5, hz_t5, ht_t5⟩ := hO.2.2.2.1.2.2.2.2.2.2.1
    refine hz_gets hO hz_t5 tw_3_125 rfl dX6_orderHere_3 ?_
    refine hz_tlen (v := (11 : Int32)) hO ht_t5 (by decide) dX6_orderHere_6 ?_
    refine hz_icmp_ge (tgt := 39) hO dX6_orderHere_7 (by decide) (fun hc6 => ?_) (fun hc6 => ?_)
    · rw [if_pos hc6] at h
      exact hz_ls [] rfl (gkk39 M4 h)
    · rw [if_neg hc6] at h
      obtain ⟨t7, hz_t7, ht_t7⟩ := hO.2.2.2.1.2.2.2.2.2.2.1
      refine hz_gets hO hz_t7 tw_3_125 rfl dX6_orderHere_10 ?_
      refine hz_iload_n hO dX6_orderHere_13 rfl 1 rfl ?_
      obtain ⟨hg8, h⟩ := hz_gd_e h
      refine hz_tq hO ht_t7 hg8 dX6_orderHere_14 ?_
      obtain ⟨x9, h_x9, h⟩ := hz_lt_e h
      refine hz_nameE h_x9 ?_
      refine hz_astore_nE (ls1 := [(2, hz_ev w x9), (0, .ref (hz_ad w 9)), (1, .int v1_3)]) hO dX6_orderHere_15 rfl (Nat.le_of_ble_eq_true rfl) rfl ?_
      refine hz_aload_nE hO dX6_orderHere_16 rfl 0 rfl ?_
      obtain ⟨k13, hk13, h⟩ := hz_jn_e h
      have gk13 : ∀ (v1_10 : Int32) (M11 : hz_M), k13 v1_10 M11 = some (rE, ME) → hz_G p l e 9 hz_z0 s m args below meth c w N 3 (MQ below (hz_Qe w N rE ME) args s 0 0 (hz_A w)) M11 33 [(0, .ref (hz_ad w 9)), (1, .int v1_10)] [] := by
        intro v1_10 M11 h
        rw [hk13] at h
        dsimp only at h
        obtain ⟨x12, h_x12, h⟩ := hz_lt_e h
        refine hz_iinc (k := 1) (v := x12) (ls1 := [(1, .int x12), (0, .ref (hz_ad w 9))]) hO dX6_orderHere_33 rfl (by rw [h_x12]; rfl) (Nat.le_of_ble_eq_true rfl) rfl ?_
        refine hz_goto (tgt := 2) hO dX6_orderHere_36 (by decide) ?_
        exact hz_ls [1, 0] rfl (ih x12 M11 h)
      clear hk13
      refine hz_ifnullE (tgt := 33) hO dX6_orderHere_17 (by decide) (fun hc14 => ?_) (fun hc14 => ?_)
      · rw [if_pos hc14] at h
        exact hz_ls [1, 2] rfl (gk13 v1_3 M4 h)
      · rw [if_neg hc14] at h
        refine hz_aload_n hO dX6_orderHere_20 rfl 1 rfl ?_
        refine hz_aload_nE hO dX6_orderHere_21 rfl 0 rfl ?_
        obtain ⟨hg15, h⟩ := hz_gd_e h
        refine hz_getEw hO hg15 tw_9_88 rfl dX6_orderHere_22 ?_
        obtain ⟨r16, M17, hq18, h⟩ := hz_ct_e h
        refine hz_callVi (as := [.ref (hz_sa w (hz_wd x9))]) (rest := []) hO (c_X8_isWord l w hN (hz_wd x9) hq18) hz_cal_X8_isWord hz_K_6 hz_sh_9 (hz_lt_9 hN) tw_3_127 (Nat.le_of_ble_eq_true rfl) rfl rfl (Nat.le_of_ble_eq_true rfl) dX6_orderHere_25 ?_
        refine hz_if_eq (tgt := 33) hO dX6_orderHere_28 (by decide) (fun hc19 => ?_) (fun hc19 => ?_)
        · rw [if_pos hc19] at h
          exact hz_ls [1, 2] rfl (gk13 v1_3 M17 h)
        · rw [if_neg hc19] at h
          refine hz_aload_nE hO dX6_orderHere_31 rfl 0 rfl ?_
          exact hz_nameM (hz_some_e h).2.symm (hz_nameE (hz_some_e h).1.symm (hz_aret hO dX6_orderHere_32))
set_option maxRecDepth 100000 in
set_option maxHeartbeats 4000000 in
theorem c_X6_orderHere (l : Launch) (w : hz_C) {N : Nat} (hN : 178 ≤ N) {M : hz_M} {rE : Int32} {ME : hz_M} (h : f_X6_orderHere M = some (rE, ME)) : hz_Ct l yX6_orderHere cX6_orderHere 3 (some (.object "HotSteps$Order")) 9 w N [.ref (hz_ad w 9)] M (hz_Qe w N rE ME) := by
  refine hz_ofW (by decide) rfl (Nat.le_of_ble_eq_true rfl) tw_3_124 ?_
  intro p e s m args below meth c hO
  show hz_G p l e 9 hz_z0 s m args below meth c w N 3 _ M 0 [(0, .ref (hz_ad w 9))] []
  unfold f_X6_orderHere at h
  refine hz_iconst (v := (0 : Int32)) hO dX6_orderHere_0 (by decide) ?_
  refine hz_istore_n (ls1 := [(1, .int (0 : Int32)), (0, .ref (hz_ad w 9))]) hO dX6_orderHere_1 rfl (Nat.le_of_ble_eq_true rfl) rfl ?_
  obtain ⟨k2, hk2, h⟩ := hz_jn_e h
  have gk2 : ∀  (M1 : hz_M), k2 M1 = some (rE, ME) → hz_G p l e 9 hz_z0 s m args below meth c w N 3 (MQ below (hz_Qe w N rE ME) args s 0 0 (hz_A w)) M1 39 [] [] := by
    intro M1 h
    rw [hk2] at h
    dsimp only at h
    refine hz_aconstE hO dX6_orderHere_39 ?_
    exact hz_nameM (hz_some_e h).2.symm (hz_nameE (hz_some_e h).1.symm (hz_aret hO dX6_orderHere_40))
  clear hk2
  exact hz_ls [1, 0] rfl (g_X6_orderHere_L2 hN hO _ gk2 _ (0 : Int32) M h)
def f_X6_readSubject (a2 : Int32) (M : hz_M) : hz_O :=
  hz_gd (hz_vo a2) <|
  if a2 = (9 : Int32) then
    hz_ct (f_X8_needNumber (0 : Int32) (3 : Int32) M) fun r15 M16 =>
    some (r15, M16)
  else
    hz_gd (hz_nn a2) <|
    if (hz_eF 1 a2) = 0 then
      some ((0 : Int32), M)
    else
      hz_ct (f_X8_checkName M) fun r5 M6 =>
      if (M6 9 6) = 0 then
        hz_ct (f_X3_guestNamed 1 (M6 9 3) (M6 9 4) M6) fun r9 M10 =>
        hz_ct (f_X8_advance M10) fun r12 M13 =>
        some (r9, M13)
      else
        some ((-1 : Int32), M6)
set_option maxRecDepth 100000 in
set_option maxHeartbeats 4000000 in
theorem c_X6_readSubject (l : Launch) (w : hz_C) {N : Nat} (hN : 178 ≤ N) (a2 : Int32) {M : hz_M} {rE : Int32} {ME : hz_M} (h : f_X6_readSubject a2 M = some (rE, ME)) : hz_Ct l yX6_readSubject cX6_readSubject 4 (some .int) 3 w N [.ref (hz_ad w 27), .ref (hz_ad w 9), hz_ev w a2] M (hz_Qi w N rE ME) := by
  refine hz_ofW (by decide) rfl (by simp [lg_sl, hz_ev_cat, hz_cr, hz_ci]) tw_3_133 ?_
  intro p e s m args below meth c hO
  rw [show lv_args 0 [.ref (hz_ad w 27), .ref (hz_ad w 9), hz_ev w a2] = [(0, .ref (hz_ad w 27)), (1, .ref (hz_ad w 9)), (2, hz_ev w a2)] from by simp [lv_args, hz_ev_cat, hz_cr, hz_ci]]
  show hz_G p l e 3 hz_z0 s m args below meth c w N 4 _ M 0 [(0, .ref (hz_ad w 27)), (1, .ref (hz_ad w 9)), (2, hz_ev w a2)] []
  unfold f_X6_readSubject at h
  refine hz_aload_nE hO dX6_readSubject_0 rfl 2 rfl ?_
  refine hz_getsE (k := 8) (x := (9 : Int32)) hO (by decide) rfl (by decide) tw_3_134 rfl dX6_readSubject_1 ?_
  obtain ⟨hg1, h⟩ := hz_gd_e h
  refine hz_acmp_ne (tgt := 14) hO dX6_readSubject_4 hg1 (by decide) (by decide) (fun hc2 => ?_) (fun hc2 => ?_)
  · rw [if_neg hc2] at h
    refine hz_aload_nE hO dX6_readSubject_14 rfl 2 rfl ?_
    obtain ⟨hg3, h⟩ := hz_gd_e h
    refine hz_getE (j := 1) hO hg3 rfl tw_9_89 rfl dX6_readSubject_15 ?_
    refine hz_if_ne (tgt := 23) hO dX6_readSubject_18 (by decide) (fun hc4 => ?_) (fun hc4 => ?_)
    · rw [if_neg hc4] at h
      refine hz_aload_n hO dX6_readSubject_23 rfl 1 rfl ?_
      obtain ⟨r5, M6, hq7, h⟩ := hz_ct_e h
      refine hz_callVv (as := []) (rest := []) hO (c_X8_checkName l w hN hq7) hz_cal_X8_checkName hz_K_6 hz_sh_9 (hz_lt_9 hN) tw_3_137 (Nat.le_of_ble_eq_true rfl) rfl rfl (Nat.le_of_ble_eq_true rfl) dX6_readSubject_24 ?_
      refine hz_aload_n hO dX6_readSubject_27 rfl 1 rfl ?_
      refine hz_getI (k := 6) hO hz_K_6 hz_sh_9 (hz_lt_9 hN) rfl (Nat.le_of_ble_eq_true rfl) tw_1_122 rfl dX6_readSubject_28 ?_
      refine hz_if_eq (tgt := 36) hO dX6_readSubject_31 (by decide) (fun hc8 => ?_) (fun hc8 => ?_)
      · rw [if_pos hc8] at h
        refine hz_aload_n hO dX6_readSubject_36 rfl 0 rfl ?_
        refine hz_getR (k := 0) hO 1 hz_K_4 hz_sh_27 (hz_lt_27 hN) rfl (Nat.le_of_ble_eq_true rfl) tw_2_51 rfl dX6_readSubject_37 ?_
        refine hz_aload_n hO dX6_readSubject_40 rfl 1 rfl ?_
        refine hz_aload_n hO dX6_readSubject_41 rfl 1 rfl ?_
        refine hz_getI (k := 3) hO hz_K_6 hz_sh_9 (hz_lt_9 hN) rfl (Nat.le_of_ble_eq_true rfl) tw_1_116 rfl dX6_readSubject_42 ?_
        refine hz_aload_n hO dX6_readSubject_45 rfl 1 rfl ?_
        refine hz_getI (k := 4) hO hz_K_6 hz_sh_9 (hz_lt_9 hN) rfl (Nat.le_of_ble_eq_true rfl) tw_1_119 rfl dX6_readSubject_46 ?_
        obtain ⟨r9, M10, hq11, h⟩ := hz_ct_e h
        refine hz_callVi (as := [.ref (hz_ad w 9), .int (M6 9 3), .int (M6 9 4)]) (rest := []) hO (c_X3_guestNamed l w hN (hz_ho_1 hN) (M6 9 3) (M6 9 4) hq11) hz_cal_X3_guestNamed hz_K_2 hz_sh_1 (hz_lt_1 hN) tw_3_138 (Nat.le_of_ble_eq_true rfl) rfl rfl (Nat.le_of_ble_eq_true rfl) dX6_readSubject_49 ?_
        refine hz_istore_n (ls1 := [(3, .int r9), (0, .ref (hz_ad w 27)), (1, .ref (hz_ad w 9)), (2, hz_ev w a2)]) hO dX6_readSubject_52 rfl (Nat.le_of_ble_eq_true rfl) (by simp [hz_ev_cat, hz_cr, hz_ci] <;> decide) ?_
        refine hz_aload_n hO dX6_readSubject_53 rfl 2 rfl ?_
        obtain ⟨r12, M13, hq14, h⟩ := hz_ct_e h
        refine hz_callVv (as := []) (rest := []) hO (c_X8_advance l w hN hq14) hz_cal_X8_advance hz_K_6 hz_sh_9 (hz_lt_9 hN) tw_3_129 (Nat.le_of_ble_eq_true rfl) rfl rfl (Nat.le_of_ble_eq_true rfl) dX6_readSubject_54 ?_
        refine hz_iload_n hO dX6_readSubject_57 rfl 0 rfl ?_
        exact hz_nameM (hz_some_e h).2.symm (hz_name (hz_some_e h).1.symm (hz_iret hO dX6_readSubject_58))
      · rw [if_neg hc8] at h
        refine hz_iconst (v := (-1 : Int32)) hO dX6_readSubject_34 (by decide) ?_
        exact hz_nameM (hz_some_e h).2.symm (hz_name (hz_some_e h).1.symm (hz_iret hO dX6_readSubject_35))
    · rw [if_pos hc4] at h
      refine hz_iconst (v := (0 : Int32)) hO dX6_readSubject_21 (by decide) ?_
      exact hz_nameM (hz_some_e h).2.symm (hz_name (hz_some_e h).1.symm (hz_iret hO dX6_readSubject_22))
  · rw [if_pos hc2] at h
    refine hz_aload_n hO dX6_readSubject_7 rfl 1 rfl ?_
    refine hz_iconst (v := (0 : Int32)) hO dX6_readSubject_8 (by decide) ?_
    refine hz_iconst (v := (3 : Int32)) hO dX6_readSubject_9 (by decide) ?_
    obtain ⟨r15, M16, hq17, h⟩ := hz_ct_e h
    refine hz_callVi (as := [.int (0 : Int32), .int (3 : Int32)]) (rest := []) hO (c_X8_needNumber l w hN (0 : Int32) (3 : Int32) hq17) hz_cal_X8_needNumber hz_K_6 hz_sh_9 (hz_lt_9 hN) tw_3_136 (Nat.le_of_ble_eq_true rfl) rfl rfl (Nat.le_of_ble_eq_true rfl) dX6_readSubject_10 ?_
    exact hz_nameM (hz_some_e h).2.symm (hz_name (hz_some_e h).1.symm (hz_iret hO dX6_readSubject_13))
def f_X6_runOrder (a1 : Int32) (M : hz_M) : hz_O :=
  hz_gd (hz_in a1 30) <|
  hz_lt ((M 28 (Int32.toNatClampNeg a1))) fun x2 =>
  hz_jn (fun  (M3 : hz_M) =>
    hz_lm (hz_set M3 27 8 (1 : Int32)) fun M4 =>
    some (0, M4)
    ) fun k5 =>
  if x2 = 0 then
    k5 M
  else
    hz_gd (hz_in a1 30) <|
    hz_gd (hz_in a1 30) <|
    hz_ct (f_X1_isThere x2 (M 29 (Int32.toNatClampNeg a1)) (M 30 (Int32.toNatClampNeg a1)) M) fun r9 M10 =>
    if r9 = 0 then
      k5 M10
    else
      hz_gd (hz_in a1 30) <|
      hz_gd (hz_in a1 30) <|
      hz_ct (f_X1_refusal x2 (M10 29 (Int32.toNatClampNeg a1)) (M10 30 (Int32.toNatClampNeg a1)) M10) fun r15 M16 =>
      if r15 = 0 then
        hz_gd (hz_in a1 30) <|
        hz_gd (hz_in a1 30) <|
        hz_ct (f_X1_perform x2 (M16 29 (Int32.toNatClampNeg a1)) (M16 30 (Int32.toNatClampNeg a1)) M16) fun r21 M22 =>
        hz_lm (hz_set M22 27 7 ((M22 27 7) + (1 : Int32))) fun M24 =>
        hz_jn (fun (q25 : Int32) (M26 : hz_M) =>
          hz_gd (hz_bt q25) <|
          hz_lm (hz_set M26 27 8 q25) fun M28 =>
          some (0, M28)
          ) fun k29 =>
        if (M24 27 7) < (40 : Int32) then
          k29 (0 : Int32) M24
        else
          k29 (1 : Int32) M24
      else
        hz_lm (hz_set M16 26 3 ((M16 26 3) + (1 : Int32))) fun M31 =>
        hz_lm (hz_set M31 27 8 (1 : Int32)) fun M32 =>
        some (0, M32)
set_option maxRecDepth 100000 in
set_option maxHeartbeats 4000000 in
theorem c_X6_runOrder (l : Launch) (w : hz_C) {N : Nat} (hN : 178 ≤ N) (a1 : Int32) {M : hz_M} {rE : Int32} {ME : hz_M} (h : f_X6_runOrder a1 M = some (rE, ME)) : hz_Ct l yX6_runOrder cX6_runOrder 3 none 5 w N [.ref (hz_ad w 27), .int a1] M (hz_Qv w N ME) := by
  refine hz_ofW (by decide) rfl (Nat.le_of_ble_eq_true rfl) tw_3_174 ?_
  intro p e s m args below meth c hO
  show hz_G p l e 5 hz_z0 s m args below meth c w N 3 _ M 0 [(0, .ref (hz_ad w 27)), (1, .int a1)] []
  unfold f_X6_runOrder at h
  refine hz_aload_n hO dX6_runOrder_0 rfl 0 rfl ?_
  refine hz_getR (k := 2) hO 28 hz_K_4 hz_sh_27 (hz_lt_27 hN) rfl (Nat.le_of_ble_eq_true rfl) tw_2_53 rfl dX6_runOrder_1 ?_
  refine hz_iload_n hO dX6_runOrder_4 rfl 1 rfl ?_
  obtain ⟨hg1, h⟩ := hz_gd_e h
  refine hz_ealdq hO hz_sh_28 (hz_lt_28 hN) hg1 dX6_runOrder_5 ?_
  obtain ⟨x2, h_x2, h⟩ := hz_lt_e h
  refine hz_nameE h_x2 ?_
  refine hz_astore_nE (ls1 := [(2, hz_ev w x2), (0, .ref (hz_ad w 27)), (1, .int a1)]) hO dX6_runOrder_6 rfl (Nat.le_of_ble_eq_true rfl) rfl ?_
  refine hz_aload_nE hO dX6_runOrder_7 rfl 0 rfl ?_
  obtain ⟨k5, hk5, h⟩ := hz_jn_e h
  have gk5 : ∀  (M3 : hz_M), k5 M3 = some (rE, ME) → hz_G p l e 5 hz_z0 s m args below meth c w N 3 (MQ below (hz_Qv w N ME) args s 0 0 (hz_A w)) M3 34 [(0, .ref (hz_ad w 27))] [] := by
    intro M3 h
    rw [hk5] at h
    dsimp only at h
    refine hz_aload_n hO dX6_runOrder_34 rfl 0 rfl ?_
    refine hz_iconst (v := (1 : Int32)) hO dX6_runOrder_35 (by decide) ?_
    obtain ⟨M4, h_M4, h⟩ := hz_lm_e h
    refine hz_putI (k := 8) (ty := .boolean) hO hz_K_4 tyX6_ok nmX6 hz_sh_27 (hz_lt_27 hN) rfl (Nat.le_of_ble_eq_true rfl) tw_2_61 rfl rfl rfl rfl rfl dX6_runOrder_36 ?_
    refine hz_nameM h_M4 ?_
    exact hz_nameM (hz_some_e h).2.symm (hz_vret hO dX6_runOrder_39)
  clear hk5
  refine hz_ifnullE (tgt := 34) hO dX6_runOrder_8 (by decide) (fun hc6 => ?_) (fun hc6 => ?_)
  · rw [if_pos hc6] at h
    exact hz_ls [1] rfl (gk5 M h)
  · rw [if_neg hc6] at h
    refine hz_aload_n hO dX6_runOrder_11 rfl 1 rfl ?_
    refine hz_getR (k := 1) hO 26 hz_K_4 hz_sh_27 (hz_lt_27 hN) rfl (Nat.le_of_ble_eq_true rfl) tw_2_52 rfl dX6_runOrder_12 ?_
    refine hz_aload_nE hO dX6_runOrder_15 rfl 0 rfl ?_
    refine hz_aload_n hO dX6_runOrder_16 rfl 1 rfl ?_
    refine hz_getR (k := 3) hO 29 hz_K_4 hz_sh_27 (hz_lt_27 hN) rfl (Nat.le_of_ble_eq_true rfl) tw_2_54 rfl dX6_runOrder_17 ?_
    refine hz_iload_n hO dX6_runOrder_20 rfl 2 rfl ?_
    obtain ⟨hg7, h⟩ := hz_gd_e h
    refine hz_iald hO hz_sh_29 (hz_lt_29 hN) hg7 dX6_runOrder_21 ?_
    refine hz_aload_n hO dX6_runOrder_22 rfl 1 rfl ?_
    refine hz_getR (k := 4) hO 30 hz_K_4 hz_sh_27 (hz_lt_27 hN) rfl (Nat.le_of_ble_eq_true rfl) tw_2_55 rfl dX6_runOrder_23 ?_
    refine hz_iload_n hO dX6_runOrder_26 rfl 2 rfl ?_
    obtain ⟨hg8, h⟩ := hz_gd_e h
    refine hz_iald hO hz_sh_30 (hz_lt_30 hN) hg8 dX6_runOrder_27 ?_
    obtain ⟨r9, M10, hq11, h⟩ := hz_ct_e h
    refine hz_callVi (as := [hz_ev w x2, .int (M 29 (Int32.toNatClampNeg a1)), .int (M 30 (Int32.toNatClampNeg a1))]) (rest := []) hO (c_X1_isThere l w hN x2 (M 29 (Int32.toNatClampNeg a1)) (M 30 (Int32.toNatClampNeg a1)) hq11) hz_cal_X1_isThere hz_K_0 hz_sh_26 (hz_lt_26 hN) tw_3_175 (Nat.le_of_ble_eq_true rfl) rfl rfl (Nat.le_of_ble_eq_true rfl) dX6_runOrder_28 ?_
    refine hz_if_ne (tgt := 40) hO dX6_runOrder_31 (by decide) (fun hc12 => ?_) (fun hc12 => ?_)
    · rw [if_neg hc12] at h
      refine hz_aload_n hO dX6_runOrder_40 rfl 1 rfl ?_
      refine hz_getR (k := 1) hO 26 hz_K_4 hz_sh_27 (hz_lt_27 hN) rfl (Nat.le_of_ble_eq_true rfl) tw_2_52 rfl dX6_runOrder_41 ?_
      refine hz_aload_nE hO dX6_runOrder_44 rfl 0 rfl ?_
      refine hz_aload_n hO dX6_runOrder_45 rfl 1 rfl ?_
      refine hz_getR (k := 3) hO 29 hz_K_4 hz_sh_27 (hz_lt_27 hN) rfl (Nat.le_of_ble_eq_true rfl) tw_2_54 rfl dX6_runOrder_46 ?_
      refine hz_iload_n hO dX6_runOrder_49 rfl 2 rfl ?_
      obtain ⟨hg13, h⟩ := hz_gd_e h
      refine hz_iald hO hz_sh_29 (hz_lt_29 hN) hg13 dX6_runOrder_50 ?_
      refine hz_aload_n hO dX6_runOrder_51 rfl 1 rfl ?_
      refine hz_getR (k := 4) hO 30 hz_K_4 hz_sh_27 (hz_lt_27 hN) rfl (Nat.le_of_ble_eq_true rfl) tw_2_55 rfl dX6_runOrder_52 ?_
      refine hz_iload_n hO dX6_runOrder_55 rfl 2 rfl ?_
      obtain ⟨hg14, h⟩ := hz_gd_e h
      refine hz_iald hO hz_sh_30 (hz_lt_30 hN) hg14 dX6_runOrder_56 ?_
      obtain ⟨r15, M16, hq17, h⟩ := hz_ct_e h
      refine hz_callVi (as := [hz_ev w x2, .int (M10 29 (Int32.toNatClampNeg a1)), .int (M10 30 (Int32.toNatClampNeg a1))]) (rest := []) hO (c_X1_refusal l w hN x2 (M10 29 (Int32.toNatClampNeg a1)) (M10 30 (Int32.toNatClampNeg a1)) hq17) hz_cal_X1_refusal hz_K_0 hz_sh_26 (hz_lt_26 hN) tw_3_202 (Nat.le_of_ble_eq_true rfl) rfl rfl (Nat.le_of_ble_eq_true rfl) dX6_runOrder_57 ?_
      refine hz_if_eq (tgt := 82) hO dX6_runOrder_60 (by decide) (fun hc18 => ?_) (fun hc18 => ?_)
      · rw [if_pos hc18] at h
        refine hz_aload_n hO dX6_runOrder_82 rfl 1 rfl ?_
        refine hz_getR (k := 1) hO 26 hz_K_4 hz_sh_27 (hz_lt_27 hN) rfl (Nat.le_of_ble_eq_true rfl) tw_2_52 rfl dX6_runOrder_83 ?_
        refine hz_aload_nE hO dX6_runOrder_86 rfl 0 rfl ?_
        refine hz_aload_n hO dX6_runOrder_87 rfl 1 rfl ?_
        refine hz_getR (k := 3) hO 29 hz_K_4 hz_sh_27 (hz_lt_27 hN) rfl (Nat.le_of_ble_eq_true rfl) tw_2_54 rfl dX6_runOrder_88 ?_
        refine hz_iload_n hO dX6_runOrder_91 rfl 2 rfl ?_
        obtain ⟨hg19, h⟩ := hz_gd_e h
        refine hz_iald hO hz_sh_29 (hz_lt_29 hN) hg19 dX6_runOrder_92 ?_
        refine hz_aload_n hO dX6_runOrder_93 rfl 1 rfl ?_
        refine hz_getR (k := 4) hO 30 hz_K_4 hz_sh_27 (hz_lt_27 hN) rfl (Nat.le_of_ble_eq_true rfl) tw_2_55 rfl dX6_runOrder_94 ?_
        refine hz_iload_n hO dX6_runOrder_97 rfl 2 rfl ?_
        obtain ⟨hg20, h⟩ := hz_gd_e h
        refine hz_iald hO hz_sh_30 (hz_lt_30 hN) hg20 dX6_runOrder_98 ?_
        obtain ⟨r21, M22, hq23, h⟩ := hz_ct_e h
        refine hz_callVi (as := [hz_ev w x2, .int (M16 29 (Int32.toNatClampNeg a1)), .int (M16 30 (Int32.toNatClampNeg a1))]) (rest := []) hO (c_X1_perform l w hN x2 (M16 29 (Int32.toNatClampNeg a1)) (M16 30 (Int32.toNatClampNeg a1)) hq23) hz_cal_X1_perform hz_K_0 hz_sh_26 (hz_lt_26 hN) tw_4_18 (Nat.le_of_ble_eq_true rfl) rfl rfl (Nat.le_of_ble_eq_true rfl) dX6_runOrder_99 ?_
        refine hz_pop hO dX6_runOrder_102 rfl ?_
        refine hz_aload_n hO dX6_runOrder_103 rfl 1 rfl ?_
        refine hz_dup hO dX6_runOrder_104 rfl ?_
        refine hz_getI (k := 7) hO hz_K_4 hz_sh_27 (hz_lt_27 hN) rfl (Nat.le_of_ble_eq_true rfl) tw_2_59 rfl dX6_runOrder_105 ?_
        refine hz_iconst (v := (1 : Int32)) hO dX6_runOrder_108 (by decide) ?_
        refine hz_iadd hO dX6_runOrder_109 ?_
        obtain ⟨M24, h_M24, h⟩ := hz_lm_e h
        refine hz_putI (k := 7) (ty := .int) hO hz_K_4 tyX6_ok nmX6 hz_sh_27 (hz_lt_27 hN) rfl (Nat.le_of_ble_eq_true rfl) tw_2_59 rfl rfl rfl rfl rfl dX6_runOrder_110 ?_
        refine hz_nameM h_M24 ?_
        refine hz_aload_n hO dX6_runOrder_113 rfl 1 rfl ?_
        refine hz_aload_n hO dX6_runOrder_114 rfl 1 rfl ?_
        refine hz_getI (k := 7) hO hz_K_4 hz_sh_27 (hz_lt_27 hN) rfl (Nat.le_of_ble_eq_true rfl) tw_2_59 rfl dX6_runOrder_115 ?_
        refine hz_bipush (v := (40 : Int32)) hO dX6_runOrder_118 (by decide) ?_
        obtain ⟨k29, hk29, h⟩ := hz_jn_e h
        have gk29 : ∀ (q25 : Int32) (M26 : hz_M), k29 q25 M26 = some (rE, ME) → hz_G p l e 5 hz_z0 s m args below meth c w N 3 (MQ below (hz_Qv w N ME) args s 0 0 (hz_A w)) M26 128 [] [.int q25, .ref (hz_ad w 27)] := by
          intro q25 M26 h
          rw [hk29] at h
          dsimp only at h
          obtain ⟨hg27, h⟩ := hz_gd_e h
          obtain ⟨M28, h_M28, h⟩ := hz_lm_e h
          refine hz_putI (k := 8) (ty := .boolean) hO hz_K_4 tyX6_ok nmX6 hz_sh_27 (hz_lt_27 hN) rfl (Nat.le_of_ble_eq_true rfl) tw_2_61 rfl rfl rfl (hz_bt_e hg27).1 (hz_bt_e hg27).2.1 dX6_runOrder_128 ?_
          refine hz_nameM h_M28 ?_
          exact hz_nameM (hz_some_e h).2.symm (hz_vret hO dX6_runOrder_131)
        clear hk29
        refine hz_icmp_lt (tgt := 127) hO dX6_runOrder_120 (by decide) (fun hc30 => ?_) (fun hc30 => ?_)
        · rw [if_pos hc30] at h
          refine hz_iconst (v := (0 : Int32)) hO dX6_runOrder_127 (by decide) ?_
          exact hz_ls [] rfl (gk29 (0 : Int32) M24 h)
        · rw [if_neg hc30] at h
          refine hz_iconst (v := (1 : Int32)) hO dX6_runOrder_123 (by decide) ?_
          refine hz_goto (tgt := 128) hO dX6_runOrder_124 (by decide) ?_
          exact hz_ls [] rfl (gk29 (1 : Int32) M24 h)
      · rw [if_neg hc18] at h
        refine hz_aload_n hO dX6_runOrder_63 rfl 1 rfl ?_
        refine hz_getR (k := 1) hO 26 hz_K_4 hz_sh_27 (hz_lt_27 hN) rfl (Nat.le_of_ble_eq_true rfl) tw_2_52 rfl dX6_runOrder_64 ?_
        refine hz_dup hO dX6_runOrder_67 rfl ?_
        refine hz_getI (k := 3) hO hz_K_0 hz_sh_26 (hz_lt_26 hN) rfl (Nat.le_of_ble_eq_true rfl) tw_2_33 rfl dX6_runOrder_68 ?_
        refine hz_iconst (v := (1 : Int32)) hO dX6_runOrder_71 (by decide) ?_
        refine hz_iadd hO dX6_runOrder_72 ?_
        obtain ⟨M31, h_M31, h⟩ := hz_lm_e h
        refine hz_putI (k := 3) (ty := .int) hO hz_K_0 tyX1_ok nmX1 hz_sh_26 (hz_lt_26 hN) rfl (Nat.le_of_ble_eq_true rfl) tw_2_33 rfl rfl rfl rfl rfl dX6_runOrder_73 ?_
        refine hz_nameM h_M31 ?_
        refine hz_aload_n hO dX6_runOrder_76 rfl 1 rfl ?_
        refine hz_iconst (v := (1 : Int32)) hO dX6_runOrder_77 (by decide) ?_
        obtain ⟨M32, h_M32, h⟩ := hz_lm_e h
        refine hz_putI (k := 8) (ty := .boolean) hO hz_K_4 tyX6_ok nmX6 hz_sh_27 (hz_lt_27 hN) rfl (Nat.le_of_ble_eq_true rfl) tw_2_61 rfl rfl rfl rfl rfl dX6_runOrder_78 ?_
        refine hz_nameM h_M32 ?_
        exact hz_nameM (hz_some_e h).2.symm (hz_vret hO dX6_runOrder_81)
    · rw [if_pos hc12] at h
      exact hz_ls [1] rfl (gk5 M10 h)
def r_X6_readBrackets (rec : Int32 → hz_M → hz_O) (a2 : Int32) (M : hz_M) : hz_O :=
  hz_jn (fun (v2_1 : Int32) (M2 : hz_M) =>
    hz_ct (f_X8_needSign (40 : Int32) M2) fun r3 M4 =>
    hz_jn (fun  (M6 : hz_M) =>
      hz_ct (f_X8_needSign (41 : Int32) M6) fun r7 M8 =>
      some (0, M8)
      ) fun k10 =>
    if (M4 9 6) = 0 then
      if (2 : Int32) ≤ v2_1 then
        k10 M4
      else
        hz_ct (rec (v2_1 + (1 : Int32)) M4) fun r13 M14 =>
        k10 M14
    else
      k10 M4
    ) fun k16 =>
  if (M 9 2) = (40 : Int32) then
    if a2 < (2 : Int32) then
      k16 a2 M
    else
      hz_ct (f_X8_fail (4 : Int32) M) fun r19 M20 =>
      k16 a2 M20
  else
    k16 a2 M
set_option maxRecDepth 100000 in
set_option maxHeartbeats 4000000 in
theorem cr_X6_readBrackets (l : Launch) (w : hz_C) {N : Nat} (hN : 178 ≤ N) {hc : Nat} (hb : 20 ≤ hc) {rec : Int32 → hz_M → hz_O} (hrec : ∀ (b1 : Int32) (M : hz_M) (rE : Int32) (ME : hz_M), rec b1 M = some (rE, ME) → hz_Ct l yX6_readOrders cX6_readOrders 4 none hc w N [.ref (hz_ad w 27), .ref (hz_ad w 9), .int b1] M (hz_Qv w N ME)) (a2 : Int32) {M : hz_M} {rE : Int32} {ME : hz_M} (h : r_X6_readBrackets rec a2 M = some (rE, ME)) : hz_Ct l yX6_readBrackets cX6_readBrackets 3 none (hc + 1) w N [.ref (hz_ad w 27), .ref (hz_ad w 9), .int a2] M (hz_Qv w N ME) := by
  refine hz_ofW (by decide) rfl (Nat.le_of_ble_eq_true rfl) tw_3_144 ?_
  intro p e s m args below meth c hO
  show hz_G p l e (hc + 1) hz_z0 s m args below meth c w N 3 _ M 0 [(0, .ref (hz_ad w 27)), (1, .ref (hz_ad w 9)), (2, .int a2)] []
  unfold r_X6_readBrackets at h
  refine hz_aload_n hO dX6_readBrackets_0 rfl 1 rfl ?_
  refine hz_getI (k := 2) hO hz_K_6 hz_sh_9 (hz_lt_9 hN) rfl (Nat.le_of_ble_eq_true rfl) tw_1_112 rfl dX6_readBrackets_1 ?_
  refine hz_bipush (v := (40 : Int32)) hO dX6_readBrackets_4 (by decide) ?_
  obtain ⟨k16, hk16, h⟩ := hz_jn_e h
  have gk16 : ∀ (v2_1 : Int32) (M2 : hz_M), k16 v2_1 M2 = some (rE, ME) → hz_G p l e (hc + 1) hz_z0 s m args below meth c w N 3 (MQ below (hz_Qv w N ME) args s 0 0 (hz_A w)) M2 19 [(0, .ref (hz_ad w 27)), (1, .ref (hz_ad w 9)), (2, .int v2_1)] [] := by
    intro v2_1 M2 h
    rw [hk16] at h
    dsimp only at h
    refine hz_aload_n hO dX6_readBrackets_19 rfl 1 rfl ?_
    refine hz_bipush (v := (40 : Int32)) hO dX6_readBrackets_20 (by decide) ?_
    obtain ⟨r3, M4, hq5, h⟩ := hz_ct_e h
    refine hz_callVv (as := [.int (40 : Int32)]) (rest := []) hO (c_X8_needSign l w hN (40 : Int32) hq5) hz_cal_X8_needSign hz_K_6 hz_sh_9 (hz_lt_9 hN) tw_3_145 (by omega) rfl rfl (Nat.le_of_ble_eq_true rfl) dX6_readBrackets_22 ?_
    refine hz_aload_n hO dX6_readBrackets_25 rfl 1 rfl ?_
    refine hz_getI (k := 6) hO hz_K_6 hz_sh_9 (hz_lt_9 hN) rfl (Nat.le_of_ble_eq_true rfl) tw_1_122 rfl dX6_readBrackets_26 ?_
    obtain ⟨k10, hk10, h⟩ := hz_jn_e h
    have gk10 : ∀  (M6 : hz_M), k10 M6 = some (rE, ME) → hz_G p l e (hc + 1) hz_z0 s m args below meth c w N 3 (MQ below (hz_Qv w N ME) args s 0 0 (hz_A w)) M6 45 [(1, .ref (hz_ad w 9))] [] := by
      intro M6 h
      rw [hk10] at h
      dsimp only at h
      refine hz_aload_n hO dX6_readBrackets_45 rfl 0 rfl ?_
      refine hz_bipush (v := (41 : Int32)) hO dX6_readBrackets_46 (by decide) ?_
      obtain ⟨r7, M8, hq9, h⟩ := hz_ct_e h
      refine hz_callVv (as := [.int (41 : Int32)]) (rest := []) hO (c_X8_needSign l w hN (41 : Int32) hq9) hz_cal_X8_needSign hz_K_6 hz_sh_9 (hz_lt_9 hN) tw_3_145 (by omega) rfl rfl (Nat.le_of_ble_eq_true rfl) dX6_readBrackets_48 ?_
      exact hz_nameM (hz_some_e h).2.symm (hz_vret hO dX6_readBrackets_51)
    clear hk10
    refine hz_if_ne (tgt := 45) hO dX6_readBrackets_29 (by decide) (fun hc11 => ?_) (fun hc11 => ?_)
    · rw [if_neg hc11] at h
      exact hz_ls [1] rfl (gk10 M4 h)
    · rw [if_pos hc11] at h
      refine hz_iload_n hO dX6_readBrackets_32 rfl 2 rfl ?_
      refine hz_iconst (v := (2 : Int32)) hO dX6_readBrackets_33 (by decide) ?_
      refine hz_icmp_ge (tgt := 45) hO dX6_readBrackets_34 (by decide) (fun hc12 => ?_) (fun hc12 => ?_)
      · rw [if_pos hc12] at h
        exact hz_ls [1] rfl (gk10 M4 h)
      · rw [if_neg hc12] at h
        refine hz_aload_n hO dX6_readBrackets_37 rfl 0 rfl ?_
        refine hz_aload_n hO dX6_readBrackets_38 rfl 1 rfl ?_
        refine hz_iload_n hO dX6_readBrackets_39 rfl 2 rfl ?_
        refine hz_iconst (v := (1 : Int32)) hO dX6_readBrackets_40 (by decide) ?_
        refine hz_iadd hO dX6_readBrackets_41 ?_
        obtain ⟨r13, M14, hq15, h⟩ := hz_ct_e h
        refine hz_callVv (as := [.ref (hz_ad w 9), .int (v2_1 + (1 : Int32))]) (rest := []) hO (hrec (v2_1 + (1 : Int32)) _ _ _ hq15) hz_cal_X6_readOrders hz_K_4 hz_sh_27 (hz_lt_27 hN) tw_3_146 (by omega) rfl rfl (Nat.le_of_ble_eq_true rfl) dX6_readBrackets_42 ?_
        exact hz_ls [1] rfl (gk10 M14 h)
  clear hk16
  refine hz_icmp_ne (tgt := 19) hO dX6_readBrackets_6 (by decide) (fun hc17 => ?_) (fun hc17 => ?_)
  · rw [if_neg hc17] at h
    exact hz_ls [0, 1, 2] rfl (gk16 a2 M h)
  · rw [if_pos hc17] at h
    refine hz_iload_n hO dX6_readBrackets_9 rfl 2 rfl ?_
    refine hz_iconst (v := (2 : Int32)) hO dX6_readBrackets_10 (by decide) ?_
    refine hz_icmp_lt (tgt := 19) hO dX6_readBrackets_11 (by decide) (fun hc18 => ?_) (fun hc18 => ?_)
    · rw [if_pos hc18] at h
      exact hz_ls [0, 1, 2] rfl (gk16 a2 M h)
    · rw [if_neg hc18] at h
      refine hz_aload_n hO dX6_readBrackets_14 rfl 1 rfl ?_
      refine hz_iconst (v := (4 : Int32)) hO dX6_readBrackets_15 (by decide) ?_
      obtain ⟨r19, M20, hq21, h⟩ := hz_ct_e h
      refine hz_callVv (as := [.int (4 : Int32)]) (rest := []) hO (c_X8_fail l w hN (4 : Int32) hq21) hz_cal_X8_fail hz_K_6 hz_sh_9 (hz_lt_9 hN) tw_3_128 (by omega) rfl rfl (Nat.le_of_ble_eq_true rfl) dX6_readBrackets_16 ?_
      exact hz_ls [0, 1, 2] rfl (gk16 a2 M20 h)
def r_X6_runOrders_L6 (rec : Int32 → Int32 → Int32 → hz_M → hz_O) : Nat → Int32 → Int32 → Int32 → Int32 → hz_M → hz_O
  | 0, _, _, _, _, _ => none
  | n + 1, v2_1, v3_2, v4_3, v5_4, M5 =>
    if v2_1 ≤ v5_4 then
      some (0, M5)
    else
      if (M5 27 6) ≤ v5_4 then
        some (0, M5)
      else
        hz_jn (fun (v2_8 : Int32) (v3_9 : Int32) (v4_10 : Int32) (v5_11 : Int32) (M12 : hz_M) =>
          hz_lt (v5_11 + (1 : Int32)) fun x13 =>
          r_X6_runOrders_L6 rec n v2_8 v3_9 v4_10 x13 M12
          ) fun k14 =>
        if v5_4 < v4_3 then
          k14 v2_1 v3_2 v4_3 v5_4 M5
        else
          if (M5 27 8) = 0 then
            hz_gd (hz_in v5_4 30) <|
            hz_lt ((M5 31 (Int32.toNatClampNeg v5_4))) fun x18 =>
            hz_gd (hz_in v5_4 30) <|
            hz_gd (hz_vo (M5 28 (Int32.toNatClampNeg v5_4))) <|
            if (M5 28 (Int32.toNatClampNeg v5_4)) = (11 : Int32) then
              hz_ct (r_X6_runAgain rec v5_4 v3_2 M5) fun r25 M26 =>
              k14 v2_1 v3_2 x18 v5_4 M26
            else
              hz_ct (f_X6_runOrder v5_4 M5) fun r22 M23 =>
              k14 v2_1 v3_2 x18 v5_4 M23
          else
            k14 v2_1 v3_2 v4_3 v5_4 M5
def r_X6_runOrders (rec : Int32 → Int32 → Int32 → hz_M → hz_O) (a1 : Int32) (a2 : Int32) (a3 : Int32) (M : hz_M) : hz_O :=
  r_X6_runOrders_L6 rec hz_FU a2 a3 a1 a1 M
def f_X6_runOrders : Nat → Int32 → Int32 → Int32 → hz_M → hz_O
  | 0, _, _, _, _ => none
  | n + 1, a1, a2, a3, M => r_X6_runOrders (f_X6_runOrders n) a1 a2 a3 M
set_option maxRecDepth 100000 in
set_option maxHeartbeats 4000000 in
theorem gr_X6_runOrders_L6 {p : Program} {l : Launch} {e : Env} {s : State} {m : MethodId} {args : Array Value} {below : List Frame} {meth : Method} {c : Code} {w : hz_C} {N : Nat} (hN : 178 ≤ N) {hc : Nat} (hb : 20 ≤ hc) {rec : Int32 → Int32 → Int32 → hz_M → hz_O} (hrec : ∀ (b0 : Int32) (b1 : Int32) (b2 : Int32) (M : hz_M) (rE : Int32) (ME : hz_M), rec b0 b1 b2 M = some (rE, ME) → hz_Ct l yX6_runOrders cX6_runOrders 6 none hc w N [.ref (hz_ad w 27), .int b0, .int b1, .int b2] M (hz_Qv w N ME)) {rE : Int32} {ME : hz_M} (hO : hz_Ok p s m args meth c w cX6_runOrders 6 RX6 none) : ∀ (n : Nat) (v2_1 : Int32) (v3_2 : Int32) (v4_3 : Int32) (v5_4 : Int32) (M5 : hz_M), r_X6_runOrders_L6 rec n v2_1 v3_2 v4_3 v5_4 M5 = some (rE, ME) → hz_G p l e (hc + 2) hz_z0 s m args below meth c w N 6 (MQ below (hz_Qv w N ME) args s 0 0 (hz_A w)) M5 6 [(0, .ref (hz_ad w 27)), (2, .int v2_1), (3, .int v3_2), (4, .int v4_3), (5, .int v5_4)] [] := by
  intro n
  induction n with
  | zero =>
    intro v2_1 v3_2 v4_3 v5_4 M5 h
    rw [r_X6_runOrders_L6] at h
    cases h
  | succ n ih =>
    intro v2_1 v3_2 v4_3 v5_4 M5 h
    rw [r_X6_runOrders_L6] at h
    refine hz_iload hO dX6_runOrders_6 4 rfl ?_
    refine hz_iload_n hO dX6_runOrders_8 rfl 1 rfl ?_
    refine hz_icmp_ge (tgt := 82) hO dX6_runOrders_9 (by decide) (fun hc6 => ?_) (fun hc6 => ?_)
    · rw [if_pos hc6] at h
      exact hz_nameM (hz_some_e h).2.symm (hz_vret hO dX6_runOrders_82)
    · rw [if_neg hc6] at h
      refine hz_iload hO dX6_runOrders_12 4 rfl ?_
      refine hz_aload_n hO dX6_runOrders_14 rfl 0 rfl ?_
      refine hz_getI (k := 6) hO hz_K_4 hz_sh_27 (hz_lt_27 hN) rfl (Nat.le_of_ble_eq_true rfl) tw_2_57 rfl dX6_runOrders_15 ?_
      refine hz_icmp_ge (tgt := 82) hO dX6_runOrders_18 (by decide) (fun hc7 => ?_) (fun hc7 => ?_)
      · rw [if_pos hc7] at h
        exact hz_nameM (hz_some_e h).2.symm (hz_vret hO dX6_runOrders_82)
      · rw [if_neg hc7] at h
        refine hz_iload hO dX6_runOrders_21 4 rfl ?_
        refine hz_iload hO dX6_runOrders_23 3 rfl ?_
        obtain ⟨k14, hk14, h⟩ := hz_jn_e h
        have gk14 : ∀ (v2_8 : Int32) (v3_9 : Int32) (v4_10 : Int32) (v5_11 : Int32) (M12 : hz_M), k14 v2_8 v3_9 v4_10 v5_11 M12 = some (rE, ME) → hz_G p l e (hc + 2) hz_z0 s m args below meth c w N 6 (MQ below (hz_Qv w N ME) args s 0 0 (hz_A w)) M12 76 [(0, .ref (hz_ad w 27)), (2, .int v2_8), (3, .int v3_9), (4, .int v4_10), (5, .int v5_11)] [] := by
          intro v2_8 v3_9 v4_10 v5_11 M12 h
          rw [hk14] at h
          dsimp only at h
          obtain ⟨x13, h_x13, h⟩ := hz_lt_e h
          refine hz_iinc (k := 4) (v := x13) (ls1 := [(5, .int x13), (0, .ref (hz_ad w 27)), (2, .int v2_8), (3, .int v3_9), (4, .int v4_10)]) hO dX6_runOrders_76 rfl (by rw [h_x13]; rfl) (Nat.le_of_ble_eq_true rfl) rfl ?_
          refine hz_goto (tgt := 6) hO dX6_runOrders_79 (by decide) ?_
          exact hz_ls [1, 2, 3, 4, 0] rfl (ih v2_8 v3_9 v4_10 x13 M12 h)
        clear hk14
        refine hz_icmp_lt (tgt := 76) hO dX6_runOrders_25 (by decide) (fun hc15 => ?_) (fun hc15 => ?_)
        · rw [if_pos hc15] at h
          exact hz_ls [0, 1, 2, 3, 4] rfl (gk14 v2_1 v3_2 v4_3 v5_4 M5 h)
        · rw [if_neg hc15] at h
          refine hz_aload_n hO dX6_runOrders_28 rfl 0 rfl ?_
          refine hz_getI (k := 8) hO hz_K_4 hz_sh_27 (hz_lt_27 hN) rfl (Nat.le_of_ble_eq_true rfl) tw_2_61 rfl dX6_runOrders_29 ?_
          refine hz_if_eq (tgt := 38) hO dX6_runOrders_32 (by decide) (fun hc16 => ?_) (fun hc16 => ?_)
          · rw [if_pos hc16] at h
            refine hz_aload_n hO dX6_runOrders_38 rfl 0 rfl ?_
            refine hz_getR (k := 5) hO 31 hz_K_4 hz_sh_27 (hz_lt_27 hN) rfl (Nat.le_of_ble_eq_true rfl) tw_2_56 rfl dX6_runOrders_39 ?_
            refine hz_iload hO dX6_runOrders_42 4 rfl ?_
            obtain ⟨hg17, h⟩ := hz_gd_e h
            refine hz_iald hO hz_sh_31 (hz_lt_31 hN) hg17 dX6_runOrders_44 ?_
            obtain ⟨x18, h_x18, h⟩ := hz_lt_e h
            refine hz_name h_x18 ?_
            refine hz_istore (ls1 := [(4, .int x18), (0, .ref (hz_ad w 27)), (2, .int v2_1), (3, .int v3_2), (5, .int v5_4)]) hO dX6_runOrders_45 (Nat.le_of_ble_eq_true rfl) rfl ?_
            refine hz_aload_n hO dX6_runOrders_47 rfl 1 rfl ?_
            refine hz_getR (k := 2) hO 28 hz_K_4 hz_sh_27 (hz_lt_27 hN) rfl (Nat.le_of_ble_eq_true rfl) tw_2_53 rfl dX6_runOrders_48 ?_
            refine hz_iload hO dX6_runOrders_51 4 rfl ?_
            obtain ⟨hg19, h⟩ := hz_gd_e h
            refine hz_ealdq hO hz_sh_28 (hz_lt_28 hN) hg19 dX6_runOrders_53 ?_
            refine hz_getsE (k := 10) (x := (11 : Int32)) hO (by decide) rfl (by decide) tw_3_139 rfl dX6_runOrders_54 ?_
            obtain ⟨hg20, h⟩ := hz_gd_e h
            refine hz_acmp_ne (tgt := 70) hO dX6_runOrders_57 hg20 (by decide) (by decide) (fun hc21 => ?_) (fun hc21 => ?_)
            · rw [if_neg hc21] at h
              refine hz_aload_n hO dX6_runOrders_70 rfl 1 rfl ?_
              refine hz_iload hO dX6_runOrders_71 4 rfl ?_
              obtain ⟨r22, M23, hq24, h⟩ := hz_ct_e h
              refine hz_callVv (as := [.int v5_4]) (rest := []) hO (c_X6_runOrder l w hN v5_4 hq24) hz_cal_X6_runOrder hz_K_4 hz_sh_27 (hz_lt_27 hN) tw_3_171 (by omega) rfl rfl (Nat.le_of_ble_eq_true rfl) dX6_runOrders_73 ?_
              exact hz_ls [1, 2, 3, 0, 4] rfl (gk14 v2_1 v3_2 x18 v5_4 M23 h)
            · rw [if_pos hc21] at h
              refine hz_aload_n hO dX6_runOrders_60 rfl 1 rfl ?_
              refine hz_iload hO dX6_runOrders_61 4 rfl ?_
              refine hz_iload_n hO dX6_runOrders_63 rfl 3 rfl ?_
              obtain ⟨r25, M26, hq27, h⟩ := hz_ct_e h
              refine hz_callVv (as := [.int v5_4, .int v3_2]) (rest := []) hO (cr_X6_runAgain l w hN hb hrec v5_4 v3_2 hq27) hz_cal_X6_runAgain hz_K_4 hz_sh_27 (hz_lt_27 hN) tw_3_166 (by omega) rfl rfl (Nat.le_of_ble_eq_true rfl) dX6_runOrders_64 ?_
              refine hz_goto (tgt := 76) hO dX6_runOrders_67 (by decide) ?_
              exact hz_ls [1, 2, 3, 0, 4] rfl (gk14 v2_1 v3_2 x18 v5_4 M26 h)
          · rw [if_neg hc16] at h
            refine hz_goto (tgt := 76) hO dX6_runOrders_35 (by decide) ?_
            exact hz_ls [0, 1, 2, 3, 4] rfl (gk14 v2_1 v3_2 v4_3 v5_4 M5 h)
set_option maxRecDepth 100000 in
set_option maxHeartbeats 4000000 in
theorem cr_X6_runOrders (l : Launch) (w : hz_C) {N : Nat} (hN : 178 ≤ N) {hc : Nat} (hb : 20 ≤ hc) {rec : Int32 → Int32 → Int32 → hz_M → hz_O} (hrec : ∀ (b0 : Int32) (b1 : Int32) (b2 : Int32) (M : hz_M) (rE : Int32) (ME : hz_M), rec b0 b1 b2 M = some (rE, ME) → hz_Ct l yX6_runOrders cX6_runOrders 6 none hc w N [.ref (hz_ad w 27), .int b0, .int b1, .int b2] M (hz_Qv w N ME)) (a1 : Int32) (a2 : Int32) (a3 : Int32) {M : hz_M} {rE : Int32} {ME : hz_M} (h : r_X6_runOrders rec a1 a2 a3 M = some (rE, ME)) : hz_Ct l yX6_runOrders cX6_runOrders 6 none (hc + 2) w N [.ref (hz_ad w 27), .int a1, .int a2, .int a3] M (hz_Qv w N ME) := by
  refine hz_ofW (by decide) rfl (Nat.le_of_ble_eq_true rfl) tw_3_165 ?_
  intro p e s m args below meth c hO
  show hz_G p l e (hc + 2) hz_z0 s m args below meth c w N 6 _ M 0 [(0, .ref (hz_ad w 27)), (1, .int a1), (2, .int a2), (3, .int a3)] []
  unfold r_X6_runOrders at h
  refine hz_iload_n hO dX6_runOrders_0 rfl 1 rfl ?_
  refine hz_istore (ls1 := [(4, .int a1), (0, .ref (hz_ad w 27)), (1, .int a1), (2, .int a2), (3, .int a3)]) hO dX6_runOrders_1 (Nat.le_of_ble_eq_true rfl) rfl ?_
  refine hz_iload_n hO dX6_runOrders_3 rfl 2 rfl ?_
  refine hz_istore (ls1 := [(5, .int a1), (4, .int a1), (0, .ref (hz_ad w 27)), (1, .int a1), (2, .int a2), (3, .int a3)]) hO dX6_runOrders_4 (Nat.le_of_ble_eq_true rfl) rfl ?_
  exact hz_ls [2, 4, 5, 1, 0] rfl (gr_X6_runOrders_L6 hN hb hrec hO _ a2 a3 a1 a1 M h)
theorem c_X6_runOrders (l : Launch) (w : hz_C) {N : Nat} (hN : 178 ≤ N) : ∀ (n : Nat) (a1 : Int32) (a2 : Int32) (a3 : Int32) {M : hz_M} {rE : Int32} {ME : hz_M} (_ : f_X6_runOrders n a1 a2 a3 M = some (rE, ME)), hz_Ct l yX6_runOrders cX6_runOrders 6 none (20 + 2 * n) w N [.ref (hz_ad w 27), .int a1, .int a2, .int a3] M (hz_Qv w N ME) := by
  intro n
  induction n with
  | zero =>
    intro a1 a2 a3 M rE ME h
    rw [f_X6_runOrders] at h
    cases h
  | succ n ih =>
    intro a1 a2 a3 M rE ME h
    rw [f_X6_runOrders] at h
    rw [Nat.mul_succ, ← Nat.add_assoc]
    exact cr_X6_runOrders l w hN (Nat.le_add_right _ _) (fun a1 a2 a3 M rE ME q => ih a1 a2 a3 q) a1 a2 a3 h
def r_X6_readOrder (rec : Int32 → hz_M → hz_O) (a2 : Int32) (M : hz_M) : hz_O :=
  hz_ct (f_X6_orderHere M) fun r1 M2 =>
  if r1 = 0 then
    hz_ct (f_X8_fail (1 : Int32) M2) fun r48 M49 =>
    some (0, M49)
  else
    if (M2 27 6) < (30 : Int32) then
      hz_lt ((M2 27 6)) fun x6 =>
      hz_lm (hz_set M2 27 6 ((M2 27 6) + (1 : Int32))) fun M7 =>
      hz_ct (f_X8_advance M7) fun r8 M9 =>
      hz_gd (hz_in x6 30) <|
      hz_gd (hz_nn r1) <|
      hz_lm (hz_set M9 28 (Int32.toNatClampNeg x6) r1) fun M13 =>
      hz_ct (f_X6_readSubject r1 M13) fun r14 M15 =>
      hz_gd (hz_in x6 30) <|
      hz_lm (hz_set M15 29 (Int32.toNatClampNeg x6) r14) fun M18 =>
      hz_gd (hz_nn r1) <|
      hz_jn (fun (v2_20 : Int32) (v3_21 : Int32) (v4_22 : Int32) (q23 : Int32) (q24 : Int32) (M25 : hz_M) =>
        hz_gd (hz_in q24 30) <|
        hz_lm (hz_set M25 30 (Int32.toNatClampNeg q24) q23) fun M27 =>
        hz_jn (fun (v4_28 : Int32) (M29 : hz_M) =>
          hz_gd (hz_in v4_28 30) <|
          hz_lm (hz_set M29 31 (Int32.toNatClampNeg v4_28) (M29 27 6)) fun M31 =>
          some (0, M31)
          ) fun k32 =>
        hz_gd (hz_vo v3_21) <|
        if v3_21 = (11 : Int32) then
          hz_ct (r_X6_readBrackets rec v2_20 M27) fun r35 M36 =>
          k32 v4_22 M36
        else
          k32 v4_22 M27
        ) fun k38 =>
      if (hz_eF 3 r1) = (-1 : Int32) then
        k38 a2 r1 x6 (0 : Int32) x6 M18
      else
        hz_gd (hz_nn r1) <|
        hz_gd (hz_nn r1) <|
        hz_ct (f_X8_needNumber (hz_eF 2 r1) (hz_eF 3 r1) M18) fun r42 M43 =>
        k38 a2 r1 x6 r42 x6 M43
    else
      hz_ct (f_X8_fail (4 : Int32) M2) fun r45 M46 =>
      some (0, M46)
set_option maxRecDepth 100000 in
set_option maxHeartbeats 4000000 in
theorem cr_X6_readOrder (l : Launch) (w : hz_C) {N : Nat} (hN : 178 ≤ N) {hc : Nat} (hb : 20 ≤ hc) {rec : Int32 → hz_M → hz_O} (hrec : ∀ (b1 : Int32) (M : hz_M) (rE : Int32) (ME : hz_M), rec b1 M = some (rE, ME) → hz_Ct l yX6_readOrders cX6_readOrders 4 none hc w N [.ref (hz_ad w 27), .ref (hz_ad w 9), .int b1] M (hz_Qv w N ME)) (a2 : Int32) {M : hz_M} {rE : Int32} {ME : hz_M} (h : r_X6_readOrder rec a2 M = some (rE, ME)) : hz_Ct l yX6_readOrder cX6_readOrder 5 none (hc + 2) w N [.ref (hz_ad w 27), .ref (hz_ad w 9), .int a2] M (hz_Qv w N ME) := by
  refine hz_ofW (by decide) rfl (Nat.le_of_ble_eq_true rfl) tw_3_121 ?_
  intro p e s m args below meth c hO
  show hz_G p l e (hc + 2) hz_z0 s m args below meth c w N 5 _ M 0 [(0, .ref (hz_ad w 27)), (1, .ref (hz_ad w 9)), (2, .int a2)] []
  unfold r_X6_readOrder at h
  refine hz_aload_n hO dX6_readOrder_0 rfl 1 rfl ?_
  obtain ⟨r1, M2, hq3, h⟩ := hz_ct_e h
  refine hz_callSe (as := [.ref (hz_ad w 9)]) (rest := []) hO (c_X6_orderHere l w hN hq3) hz_cal_X6_orderHere tw_3_122 (by omega) rfl rfl (Nat.le_of_ble_eq_true rfl) dX6_readOrder_1 ?_
  refine hz_astore_nE (ls1 := [(3, hz_ev w r1), (0, .ref (hz_ad w 27)), (1, .ref (hz_ad w 9)), (2, .int a2)]) hO dX6_readOrder_4 rfl (Nat.le_of_ble_eq_true rfl) rfl ?_
  refine hz_aload_nE hO dX6_readOrder_5 rfl 0 rfl ?_
  refine hz_ifnonnullE (tgt := 15) hO dX6_readOrder_6 (by decide) (fun hc4 => ?_) (fun hc4 => ?_)
  · rw [if_neg hc4] at h
    refine hz_aload_n hO dX6_readOrder_15 rfl 1 rfl ?_
    refine hz_getI (k := 6) hO hz_K_4 hz_sh_27 (hz_lt_27 hN) rfl (Nat.le_of_ble_eq_true rfl) tw_2_57 rfl dX6_readOrder_16 ?_
    refine hz_bipush (v := (30 : Int32)) hO dX6_readOrder_19 (by decide) ?_
    refine hz_icmp_lt (tgt := 30) hO dX6_readOrder_21 (by decide) (fun hc5 => ?_) (fun hc5 => ?_)
    · rw [if_pos hc5] at h
      refine hz_aload_n hO dX6_readOrder_30 rfl 1 rfl ?_
      refine hz_getI (k := 6) hO hz_K_4 hz_sh_27 (hz_lt_27 hN) rfl (Nat.le_of_ble_eq_true rfl) tw_2_57 rfl dX6_readOrder_31 ?_
      obtain ⟨x6, h_x6, h⟩ := hz_lt_e h
      refine hz_name h_x6 ?_
      refine hz_istore (ls1 := [(4, .int x6), (3, hz_ev w r1), (0, .ref (hz_ad w 27)), (1, .ref (hz_ad w 9)), (2, .int a2)]) hO dX6_readOrder_34 (Nat.le_of_ble_eq_true rfl) (by simp [hz_ev_cat, hz_cr, hz_ci] <;> decide) ?_
      refine hz_aload_n hO dX6_readOrder_36 rfl 2 rfl ?_
      refine hz_dup hO dX6_readOrder_37 rfl ?_
      refine hz_getI (k := 6) hO hz_K_4 hz_sh_27 (hz_lt_27 hN) rfl (Nat.le_of_ble_eq_true rfl) tw_2_57 rfl dX6_readOrder_38 ?_
      refine hz_iconst (v := (1 : Int32)) hO dX6_readOrder_41 (by decide) ?_
      refine hz_iadd hO dX6_readOrder_42 ?_
      obtain ⟨M7, h_M7, h⟩ := hz_lm_e h
      refine hz_putI (k := 6) (ty := .int) hO hz_K_4 tyX6_ok nmX6 hz_sh_27 (hz_lt_27 hN) rfl (Nat.le_of_ble_eq_true rfl) tw_2_57 rfl rfl rfl rfl rfl dX6_readOrder_43 ?_
      refine hz_nameM h_M7 ?_
      refine hz_aload_n hO dX6_readOrder_46 rfl 3 rfl ?_
      obtain ⟨r8, M9, hq10, h⟩ := hz_ct_e h
      refine hz_callVv (as := []) (rest := []) hO (c_X8_advance l w hN hq10) hz_cal_X8_advance hz_K_6 hz_sh_9 (hz_lt_9 hN) tw_3_129 (by omega) rfl rfl (Nat.le_of_ble_eq_true rfl) dX6_readOrder_47 ?_
      refine hz_aload_n hO dX6_readOrder_50 rfl 2 rfl ?_
      refine hz_getR (k := 2) hO 28 hz_K_4 hz_sh_27 (hz_lt_27 hN) rfl (Nat.le_of_ble_eq_true rfl) tw_2_53 rfl dX6_readOrder_51 ?_
      refine hz_iload hO dX6_readOrder_54 0 rfl ?_
      refine hz_aload_nE hO dX6_readOrder_56 rfl 1 rfl ?_
      obtain ⟨hg11, h⟩ := hz_gd_e h
      obtain ⟨hg12, h⟩ := hz_gd_e h
      obtain ⟨M13, h_M13, h⟩ := hz_lm_e h
      refine hz_east hO hz_sh_28 (hz_lt_28 hN) hg11 hg12 dX6_readOrder_57 ?_
      refine hz_nameM h_M13 ?_
      refine hz_aload_n hO dX6_readOrder_58 rfl 2 rfl ?_
      refine hz_getR (k := 3) hO 29 hz_K_4 hz_sh_27 (hz_lt_27 hN) rfl (Nat.le_of_ble_eq_true rfl) tw_2_54 rfl dX6_readOrder_59 ?_
      refine hz_iload hO dX6_readOrder_62 0 rfl ?_
      refine hz_aload_n hO dX6_readOrder_64 rfl 2 rfl ?_
      refine hz_aload_n hO dX6_readOrder_65 rfl 3 rfl ?_
      refine hz_aload_nE hO dX6_readOrder_66 rfl 1 rfl ?_
      obtain ⟨r14, M15, hq16, h⟩ := hz_ct_e h
      refine hz_callVi (as := [.ref (hz_ad w 9), hz_ev w r1]) (rest := [.int x6, .ref (hz_ad w 29)]) hO (c_X6_readSubject l w hN r1 hq16) hz_cal_X6_readSubject hz_K_4 hz_sh_27 (hz_lt_27 hN) tw_3_130 (by omega) rfl rfl (Nat.le_of_ble_eq_true rfl) dX6_readOrder_67 ?_
      obtain ⟨hg17, h⟩ := hz_gd_e h
      obtain ⟨M18, h_M18, h⟩ := hz_lm_e h
      refine hz_iast hO hz_sh_29 (hz_lt_29 hN) hg17 dX6_readOrder_70 ?_
      refine hz_nameM h_M18 ?_
      refine hz_aload_n hO dX6_readOrder_71 rfl 2 rfl ?_
      refine hz_getR (k := 4) hO 30 hz_K_4 hz_sh_27 (hz_lt_27 hN) rfl (Nat.le_of_ble_eq_true rfl) tw_2_55 rfl dX6_readOrder_72 ?_
      refine hz_iload hO dX6_readOrder_75 0 rfl ?_
      refine hz_aload_nE hO dX6_readOrder_77 rfl 1 rfl ?_
      obtain ⟨hg19, h⟩ := hz_gd_e h
      refine hz_getE (j := 3) hO hg19 rfl tw_9_90 rfl dX6_readOrder_78 ?_
      refine hz_iconst (v := (-1 : Int32)) hO dX6_readOrder_81 (by decide) ?_
      obtain ⟨k38, hk38, h⟩ := hz_jn_e h
      have gk38 : ∀ (v2_20 : Int32) (v3_21 : Int32) (v4_22 : Int32) (q23 : Int32) (q24 : Int32) (M25 : hz_M), k38 v2_20 v3_21 v4_22 q23 q24 M25 = some (rE, ME) → hz_G p l e (hc + 2) hz_z0 s m args below meth c w N 5 (MQ below (hz_Qv w N ME) args s 0 0 (hz_A w)) M25 101 [(0, .ref (hz_ad w 27)), (1, .ref (hz_ad w 9)), (2, .int v2_20), (3, hz_ev w v3_21), (4, .int v4_22)] [.int q23, .int q24, .ref (hz_ad w 30)] := by
        intro v2_20 v3_21 v4_22 q23 q24 M25 h
        rw [hk38] at h
        dsimp only at h
        obtain ⟨hg26, h⟩ := hz_gd_e h
        obtain ⟨M27, h_M27, h⟩ := hz_lm_e h
        refine hz_iast hO hz_sh_30 (hz_lt_30 hN) hg26 dX6_readOrder_101 ?_
        refine hz_nameM h_M27 ?_
        refine hz_aload_nE hO dX6_readOrder_102 rfl 3 rfl ?_
        refine hz_getsE (k := 10) (x := (11 : Int32)) hO (by decide) rfl (by decide) tw_3_139 rfl dX6_readOrder_103 ?_
        obtain ⟨k32, hk32, h⟩ := hz_jn_e h
        have gk32 : ∀ (v4_28 : Int32) (M29 : hz_M), k32 v4_28 M29 = some (rE, ME) → hz_G p l e (hc + 2) hz_z0 s m args below meth c w N 5 (MQ below (hz_Qv w N ME) args s 0 0 (hz_A w)) M29 115 [(0, .ref (hz_ad w 27)), (4, .int v4_28)] [] := by
          intro v4_28 M29 h
          rw [hk32] at h
          dsimp only at h
          refine hz_aload_n hO dX6_readOrder_115 rfl 0 rfl ?_
          refine hz_getR (k := 5) hO 31 hz_K_4 hz_sh_27 (hz_lt_27 hN) rfl (Nat.le_of_ble_eq_true rfl) tw_2_56 rfl dX6_readOrder_116 ?_
          refine hz_iload hO dX6_readOrder_119 1 rfl ?_
          refine hz_aload_n hO dX6_readOrder_121 rfl 0 rfl ?_
          refine hz_getI (k := 6) hO hz_K_4 hz_sh_27 (hz_lt_27 hN) rfl (Nat.le_of_ble_eq_true rfl) tw_2_57 rfl dX6_readOrder_122 ?_
          obtain ⟨hg30, h⟩ := hz_gd_e h
          obtain ⟨M31, h_M31, h⟩ := hz_lm_e h
          refine hz_iast hO hz_sh_31 (hz_lt_31 hN) hg30 dX6_readOrder_125 ?_
          refine hz_nameM h_M31 ?_
          exact hz_nameM (hz_some_e h).2.symm (hz_vret hO dX6_readOrder_126)
        clear hk32
        obtain ⟨hg33, h⟩ := hz_gd_e h
        refine hz_acmp_ne (tgt := 115) hO dX6_readOrder_106 hg33 (by decide) (by decide) (fun hc34 => ?_) (fun hc34 => ?_)
        · rw [if_neg hc34] at h
          exact hz_ls [0, 4] rfl (gk32 v4_22 M27 h)
        · rw [if_pos hc34] at h
          refine hz_aload_n hO dX6_readOrder_109 rfl 0 rfl ?_
          refine hz_aload_n hO dX6_readOrder_110 rfl 1 rfl ?_
          refine hz_iload_n hO dX6_readOrder_111 rfl 2 rfl ?_
          obtain ⟨r35, M36, hq37, h⟩ := hz_ct_e h
          refine hz_callVv (as := [.ref (hz_ad w 9), .int v2_20]) (rest := []) hO (cr_X6_readBrackets l w hN hb hrec v2_20 hq37) hz_cal_X6_readBrackets hz_K_4 hz_sh_27 (hz_lt_27 hN) tw_3_141 (by omega) rfl rfl (Nat.le_of_ble_eq_true rfl) dX6_readOrder_112 ?_
          exact hz_ls [0, 4] rfl (gk32 v4_22 M36 h)
      clear hk38
      refine hz_icmp_ne (tgt := 89) hO dX6_readOrder_82 (by decide) (fun hc39 => ?_) (fun hc39 => ?_)
      · rw [if_neg hc39] at h
        refine hz_aload_n hO dX6_readOrder_89 rfl 3 rfl ?_
        refine hz_aload_nE hO dX6_readOrder_90 rfl 1 rfl ?_
        obtain ⟨hg40, h⟩ := hz_gd_e h
        refine hz_getE (j := 2) hO hg40 rfl tw_9_91 rfl dX6_readOrder_91 ?_
        refine hz_aload_nE hO dX6_readOrder_94 rfl 1 rfl ?_
        obtain ⟨hg41, h⟩ := hz_gd_e h
        refine hz_getE (j := 3) hO hg41 rfl tw_9_90 rfl dX6_readOrder_95 ?_
        obtain ⟨r42, M43, hq44, h⟩ := hz_ct_e h
        refine hz_callVi (as := [.int (hz_eF 2 r1), .int (hz_eF 3 r1)]) (rest := [.int x6, .ref (hz_ad w 30)]) hO (c_X8_needNumber l w hN (hz_eF 2 r1) (hz_eF 3 r1) hq44) hz_cal_X8_needNumber hz_K_6 hz_sh_9 (hz_lt_9 hN) tw_3_136 (by omega) rfl rfl (Nat.le_of_ble_eq_true rfl) dX6_readOrder_98 ?_
        exact hz_ls [2, 3, 4, 1, 0] rfl (gk38 a2 r1 x6 r42 x6 M43 h)
      · rw [if_pos hc39] at h
        refine hz_iconst (v := (0 : Int32)) hO dX6_readOrder_85 (by decide) ?_
        refine hz_goto (tgt := 101) hO dX6_readOrder_86 (by decide) ?_
        exact hz_ls [2, 3, 4, 1, 0] rfl (gk38 a2 r1 x6 (0 : Int32) x6 M18 h)
    · rw [if_neg hc5] at h
      refine hz_aload_n hO dX6_readOrder_24 rfl 2 rfl ?_
      refine hz_iconst (v := (4 : Int32)) hO dX6_readOrder_25 (by decide) ?_
      obtain ⟨r45, M46, hq47, h⟩ := hz_ct_e h
      refine hz_callVv (as := [.int (4 : Int32)]) (rest := []) hO (c_X8_fail l w hN (4 : Int32) hq47) hz_cal_X8_fail hz_K_6 hz_sh_9 (hz_lt_9 hN) tw_3_128 (by omega) rfl rfl (Nat.le_of_ble_eq_true rfl) dX6_readOrder_26 ?_
      exact hz_nameM (hz_some_e h).2.symm (hz_vret hO dX6_readOrder_29)
  · rw [if_pos hc4] at h
    refine hz_aload_n hO dX6_readOrder_9 rfl 2 rfl ?_
    refine hz_iconst (v := (1 : Int32)) hO dX6_readOrder_10 (by decide) ?_
    obtain ⟨r48, M49, hq50, h⟩ := hz_ct_e h
    refine hz_callVv (as := [.int (1 : Int32)]) (rest := []) hO (c_X8_fail l w hN (1 : Int32) hq50) hz_cal_X8_fail hz_K_6 hz_sh_9 (hz_lt_9 hN) tw_3_128 (by omega) rfl rfl (Nat.le_of_ble_eq_true rfl) dX6_readOrder_11 ?_
    exact hz_nameM (hz_some_e h).2.symm (hz_vret hO dX6_readOrder_14)
def r_X6_readOrders_L2 (rec : Int32 → hz_M → hz_O) : Nat → Int32 → Int32 → hz_M → hz_O
  | 0, _, _, _ => none
  | n + 1, v2_1, v3_2, M3 =>
    if (30 : Int32) < v3_2 then
      some (0, M3)
    else
      if (M3 9 6) = 0 then
        if (M3 9 2) = (1 : Int32) then
          hz_ct (r_X6_readOrder rec v2_1 M3) fun r7 M8 =>
          hz_ct (f_X8_needSign (59 : Int32) M8) fun r10 M11 =>
          hz_lt (v3_2 + (1 : Int32)) fun x13 =>
          r_X6_readOrders_L2 rec n v2_1 x13 M11
        else
          some (0, M3)
      else
        some (0, M3)
def r_X6_readOrders (rec : Int32 → hz_M → hz_O) (a2 : Int32) (M : hz_M) : hz_O :=
  r_X6_readOrders_L2 rec hz_FU a2 (0 : Int32) M
def f_X6_readOrders : Nat → Int32 → hz_M → hz_O
  | 0, _, _ => none
  | n + 1, a2, M => r_X6_readOrders (f_X6_readOrders n) a2 M
set_option maxRecDepth 100000 in
set_option maxHeartbeats 4000000 in
theorem gr_X6_readOrders_L2 {p : Program} {l : Launch} {e : Env} {s : State} {m : MethodId} {args : Array Value} {below : List Frame} {meth : Method} {c : Code} {w : hz_C} {N : Nat} (hN : 178 ≤ N) {hc : Nat} (hb : 20 ≤ hc) {rec : Int32 → hz_M → hz_O} (hrec : ∀ (b1 : Int32) (M : hz_M) (rE : Int32) (ME : hz_M), rec b1 M = some (rE, ME) → hz_Ct l yX6_readOrders cX6_readOrders 4 none hc w N [.ref (hz_ad w 27), .ref (hz_ad w 9), .int b1] M (hz_Qv w N ME)) {rE : Int32} {ME : hz_M} (hO : hz_Ok p s m args meth c w cX6_readOrders 4 RX6 none) : ∀ (n : Nat) (v2_1 : Int32) (v3_2 : Int32) (M3 : hz_M), r_X6_readOrders_L2 rec n v2_1 v3_2 M3 = some (rE, ME) → hz_G p l e (hc + 3) hz_z0 s m args below meth c w N 4 (MQ below (hz_Qv w N ME) args s 0 0 (hz_A w)) M3 2 [(0, .ref (hz_ad w 27)), (1, .ref (hz_ad w 9)), (2, .int v2_1), (3, .int v3_2)] [] := by
  intro n
  induction n with
  | zero =>
    intro v2_1 v3_2 M3 h
    rw [r_X6_readOrders_L2] at h
    cases h
  | succ n ih =>
    intro v2_1 v3_2 M3 h
    rw [r_X6_readOrders_L2] at h
    refine hz_iload_n hO dX6_readOrders_2 rfl 3 rfl ?_
    refine hz_bipush (v := (30 : Int32)) hO dX6_readOrders_3 (by decide) ?_
    refine hz_icmp_gt (tgt := 41) hO dX6_readOrders_5 (by decide) (fun hc4 => ?_) (fun hc4 => ?_)
    · rw [if_pos hc4] at h
      exact hz_nameM (hz_some_e h).2.symm (hz_vret hO dX6_readOrders_41)
    · rw [if_neg hc4] at h
      refine hz_aload_n hO dX6_readOrders_8 rfl 1 rfl ?_
      refine hz_getI (k := 6) hO hz_K_6 hz_sh_9 (hz_lt_9 hN) rfl (Nat.le_of_ble_eq_true rfl) tw_1_122 rfl dX6_readOrders_9 ?_
      refine hz_if_ne (tgt := 41) hO dX6_readOrders_12 (by decide) (fun hc5 => ?_) (fun hc5 => ?_)
      · rw [if_neg hc5] at h
        exact hz_nameM (hz_some_e h).2.symm (hz_vret hO dX6_readOrders_41)
      · rw [if_pos hc5] at h
        refine hz_aload_n hO dX6_readOrders_15 rfl 1 rfl ?_
        refine hz_getI (k := 2) hO hz_K_6 hz_sh_9 (hz_lt_9 hN) rfl (Nat.le_of_ble_eq_true rfl) tw_1_112 rfl dX6_readOrders_16 ?_
        refine hz_iconst (v := (1 : Int32)) hO dX6_readOrders_19 (by decide) ?_
        refine hz_icmp_ne (tgt := 41) hO dX6_readOrders_20 (by decide) (fun hc6 => ?_) (fun hc6 => ?_)
        · rw [if_neg hc6] at h
          exact hz_nameM (hz_some_e h).2.symm (hz_vret hO dX6_readOrders_41)
        · rw [if_pos hc6] at h
          refine hz_aload_n hO dX6_readOrders_23 rfl 0 rfl ?_
          refine hz_aload_n hO dX6_readOrders_24 rfl 1 rfl ?_
          refine hz_iload_n hO dX6_readOrders_25 rfl 2 rfl ?_
          obtain ⟨r7, M8, hq9, h⟩ := hz_ct_e h
          refine hz_callVv (as := [.ref (hz_ad w 9), .int v2_1]) (rest := []) hO (cr_X6_readOrder l w hN hb hrec v2_1 hq9) hz_cal_X6_readOrder hz_K_4 hz_sh_27 (hz_lt_27 hN) tw_3_118 (by omega) rfl rfl (Nat.le_of_ble_eq_true rfl) dX6_readOrders_26 ?_
          refine hz_aload_n hO dX6_readOrders_29 rfl 1 rfl ?_
          refine hz_bipush (v := (59 : Int32)) hO dX6_readOrders_30 (by decide) ?_
          obtain ⟨r10, M11, hq12, h⟩ := hz_ct_e h
          refine hz_callVv (as := [.int (59 : Int32)]) (rest := []) hO (c_X8_needSign l w hN (59 : Int32) hq12) hz_cal_X8_needSign hz_K_6 hz_sh_9 (hz_lt_9 hN) tw_3_145 (by omega) rfl rfl (Nat.le_of_ble_eq_true rfl) dX6_readOrders_32 ?_
          obtain ⟨x13, h_x13, h⟩ := hz_lt_e h
          refine hz_iinc (k := 3) (v := x13) (ls1 := [(3, .int x13), (0, .ref (hz_ad w 27)), (1, .ref (hz_ad w 9)), (2, .int v2_1)]) hO dX6_readOrders_35 rfl (by rw [h_x13]; rfl) (Nat.le_of_ble_eq_true rfl) rfl ?_
          refine hz_goto (tgt := 2) hO dX6_readOrders_38 (by decide) ?_
          exact hz_ls [1, 2, 3, 0] rfl (ih v2_1 x13 M11 h)
set_option maxRecDepth 100000 in
set_option maxHeartbeats 4000000 in
theorem cr_X6_readOrders (l : Launch) (w : hz_C) {N : Nat} (hN : 178 ≤ N) {hc : Nat} (hb : 20 ≤ hc) {rec : Int32 → hz_M → hz_O} (hrec : ∀ (b1 : Int32) (M : hz_M) (rE : Int32) (ME : hz_M), rec b1 M = some (rE, ME) → hz_Ct l yX6_readOrders cX6_readOrders 4 none hc w N [.ref (hz_ad w 27), .ref (hz_ad w 9), .int b1] M (hz_Qv w N ME)) (a2 : Int32) {M : hz_M} {rE : Int32} {ME : hz_M} (h : r_X6_readOrders rec a2 M = some (rE, ME)) : hz_Ct l yX6_readOrders cX6_readOrders 4 none (hc + 3) w N [.ref (hz_ad w 27), .ref (hz_ad w 9), .int a2] M (hz_Qv w N ME) := by
  refine hz_ofW (by decide) rfl (Nat.le_of_ble_eq_true rfl) tw_3_117 ?_
  intro p e s m args below meth c hO
  show hz_G p l e (hc + 3) hz_z0 s m args below meth c w N 4 _ M 0 [(0, .ref (hz_ad w 27)), (1, .ref (hz_ad w 9)), (2, .int a2)] []
  unfold r_X6_readOrders at h
  refine hz_iconst (v := (0 : Int32)) hO dX6_readOrders_0 (by decide) ?_
  refine hz_istore_n (ls1 := [(3, .int (0 : Int32)), (0, .ref (hz_ad w 27)), (1, .ref (hz_ad w 9)), (2, .int a2)]) hO dX6_readOrders_1 rfl (Nat.le_of_ble_eq_true rfl) rfl ?_
  exact hz_ls [1, 2, 3, 0] rfl (gr_X6_readOrders_L2 hN hb hrec hO _ a2 (0 : Int32) M h)
theorem c_X6_readOrders (l : Launch) (w : hz_C) {N : Nat} (hN : 178 ≤ N) : ∀ (n : Nat) (a2 : Int32) {M : hz_M} {rE : Int32} {ME : hz_M} (_ : f_X6_readOrders n a2 M = some (rE, ME)), hz_Ct l yX6_readOrders cX6_readOrders 4 none (20 + 3 * n) w N [.ref (hz_ad w 27), .ref (hz_ad w 9), .int a2] M (hz_Qv w N ME) := by
  intro n
  induction n with
  | zero =>
    intro a2 M rE ME h
    rw [f_X6_readOrders] at h
    cases h
  | succ n ih =>
    intro a2 M rE ME h
    rw [f_X6_readOrders] at h
    rw [Nat.mul_succ, ← Nat.add_assoc]
    exact cr_X6_readOrders l w hN (Nat.le_add_right _ _) (fun a2 M rE ME q => ih a2 q) a2 h
