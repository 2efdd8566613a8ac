theorem tw_4_33 : (Jvm.Cond.methodLink "HotStepsLaw" (220 : Nat) ({ cls := "HotStepsLaw$Own", name := "copy", desc := "()LHotStepsLaw$Own;" } : Jvm.MethodName)) ∈ hz_TB := hz_tb (hz_t4 _ (List.mem_of_getElem? (i := 33) rfl)) rfl
theorem tw_5_83 : (Jvm.Cond.methodLink "HotStepsLaw" (224 : Nat) ({ cls := "HotSteps", name := "heatIn", desc := "(I)I" } : Jvm.MethodName)) ∈ hz_TB := hz_tb (hz_t5 _ (List.mem_of_getElem? (i := 83) rfl)) rfl
theorem tw_5_108 : (Jvm.Cond.methodLink "HotStepsLaw" (230 : Nat) ({ cls := "HotSteps", name := "downIn", desc := "(I)I" } : Jvm.MethodName)) ∈ hz_TB := hz_tb (hz_t5 _ (List.mem_of_getElem? (i := 108) rfl)) rfl
theorem tw_5_115 : (Jvm.Cond.methodLink "HotStepsLaw" (233 : Nat) ({ cls := "HotSteps", name := "dryIn", desc := "(I)I" } : Jvm.MethodName)) ∈ hz_TB := hz_tb (hz_t5 _ (List.mem_of_getElem? (i := 115) rfl)) rfl
theorem tw_5_122 : (Jvm.Cond.methodLink "HotStepsLaw" (236 : Nat) ({ cls := "HotSteps", name := "silenceIn", desc := "()I" } : Jvm.MethodName)) ∈ hz_TB := hz_tb (hz_t5 _ (List.mem_of_getElem? (i := 122) rfl)) rfl
theorem tw_5_130 : (Jvm.Cond.methodLink "HotStepsLaw" (239 : Nat) ({ cls := "HotSteps", name := "ifValve", desc := "(II)I" } : Jvm.MethodName)) ∈ hz_TB := hz_tb (hz_t5 _ (List.mem_of_getElem? (i := 130) rfl)) rfl
theorem tw_5_137 : (Jvm.Cond.methodLink "HotStepsLaw" (242 : Nat) ({ cls := "HotStepsLaw$Own", name := "nextHeat", desc := "()I" } : Jvm.MethodName)) ∈ hz_TB := hz_tb (hz_t5 _ (List.mem_of_getElem? (i := 137) rfl)) rfl
def f_L_fore3 (b b2 : Nat) (a2 a3 a4 a6 a7 a8 : Int32) (M : hz_M) : hz_O :=
  hz_lm (hz_set M (b2 + 1) (Int32.toNatClampNeg (0 : Int32)) (a4 - a4 / (10 : Int32) * (10 : Int32))) fun M1 =>
  hz_jn (fun (v3_2 : Int32) (v4_3 : Int32) (v7_4 : Int32) (v8_5 : Int32) (M6 : hz_M) =>
    hz_jn (fun (v4_7 : Int32) (v8_8 : Int32) (M9 : hz_M) =>
      hz_ct (f_X10_silenceIn M9) fun r10 M11 =>
      if r10 = v8_8 then
        hz_ct (f_X10_ifValve (0 : Int32) (v4_7 - v4_7 / (10 : Int32) * (10 : Int32)) M11) fun r14 M15 =>
        hz_ct (f_X11_nextHeat b2 M15) fun r17 M18 =>
        if r14 = r17 then
          some ((1 : Int32), M18)
        else
          some ((0 : Int32), M18)
      else
        some ((0 : Int32), M11)
      ) fun k21 =>
    if (M6 b 2) ≤ v3_2 then
      k21 v4_3 v8_5 M6
    else
      hz_ct (f_X10_dryIn v3_2 M6) fun r23 M24 =>
      if r23 = v7_4 then
        k21 v4_3 v8_5 M24
      else
        some ((0 : Int32), M24)
    ) fun k27 =>
  if (M1 b 10) ≤ a2 then
    k27 a3 a4 a7 a8 M1
  else
    hz_ct (f_X10_downIn a2 M1) fun r29 M30 =>
    if r29 = a6 then
      k27 a3 a4 a7 a8 M30
    else
      some ((0 : Int32), M30)
set_option maxRecDepth 100000 in
set_option maxHeartbeats 4000000 in
theorem g_L_fore3 {p : Program} {l : Launch} {e : Env} {s : State} {m : MethodId} {args : Array Value} {below : List Frame} {meth : Method} {c : Code} {w : hz_C} {N : Nat} (hN : 178 ≤ N) {b : Nat} (hB : hz_Own N b) {b2 : Nat} (hB2 : hz_Own N b2) {rE : Int32} {ME : hz_M} (hO : hz_Ok p s m args meth c w cL_isForetold 11 RL (some .boolean)) (a2 a3 a4 a6 a7 a8 : Int32) (M : hz_M) (h : f_L_fore3 b b2 a2 a3 a4 a6 a7 a8 M = some (rE, ME)) : hz_G p l e 7 ((24, 354), (24, 354)) s m args below meth c w N 11 (MQ below (hz_Qi w N rE ME) args s 24 354 (hz_A w)) M 177 [(5, .ref (hz_ad w b2)), (0, .ref (hz_ad w 0)), (1, .ref (hz_ad w b)), (2, .int a2), (3, .int a3), (4, .int a4), (6, .int a6), (7, .int a7), (8, .int a8)] [] := by
  unfold f_L_fore3 at h
  refine hz_aload hO dL_isForetold_177 0 rfl ?_
  refine hz_getRN (k := 12) hO (b2 + 1) hz_K_11 hB2.1 hB2.2.1 rfl (Nat.le_of_ble_eq_true rfl) (List.mem_of_getElem? (i := 16) rfl) rfl dL_isForetold_179 ?_
  refine hz_iconst (v := (0 : Int32)) hO dL_isForetold_182 (by decide) ?_
  refine hz_iload hO dL_isForetold_183 5 rfl ?_
  refine hz_bipush (v := (10 : Int32)) hO dL_isForetold_185 (by decide) ?_
  refine hz_irem hO dL_isForetold_187 (by decide) ?_
  obtain ⟨M1, h_M1, h⟩ := hz_lm_e h
  refine hz_iast hO hB2.2.2.1 hB2.2.2.2.1 (by decide) dL_isForetold_188 ?_
  refine hz_nameM h_M1 ?_
  refine hz_iload_n hO dL_isForetold_189 rfl 3 rfl ?_
  refine hz_aload_n hO dL_isForetold_190 rfl 2 rfl ?_
  refine hz_getIN (k := 10) hO hz_K_11 hB.1 hB.2.1 rfl (Nat.le_of_ble_eq_true rfl) (List.mem_of_getElem? (i := 8) rfl) rfl dL_isForetold_191 ?_
  obtain ⟨k27, hk27, h⟩ := hz_jn_e h
  have gk27 : ∀ (v3_2 : Int32) (v4_3 : Int32) (v7_4 : Int32) (v8_5 : Int32) (M6 : hz_M), k27 v3_2 v4_3 v7_4 v8_5 M6 = some (rE, ME) → hz_G p l e 7 ((24, 354), (24, 354)) s m args below meth c w N 11 (MQ below (hz_Qi w N rE ME) args s 24 354 (hz_A w)) M6 207 [(0, .ref (hz_ad w 0)), (1, .ref (hz_ad w b)), (3, .int v3_2), (4, .int v4_3), (5, .ref (hz_ad w b2)), (7, .int v7_4), (8, .int v8_5)] [] := by
    intro v3_2 v4_3 v7_4 v8_5 M6 h
    rw [hk27] at h
    dsimp only at h
    refine hz_iload_n hO dL_isForetold_207 rfl 2 rfl ?_
    refine hz_aload_n hO dL_isForetold_208 rfl 1 rfl ?_
    refine hz_getIN (k := 2) hO hz_K_11 hB.1 hB.2.1 rfl (Nat.le_of_ble_eq_true rfl) (List.mem_of_getElem? (i := 10) rfl) rfl dL_isForetold_209 ?_
    obtain ⟨k21, hk21, h⟩ := hz_jn_e h
    have gk21 : ∀ (v4_7 : Int32) (v8_8 : Int32) (M9 : hz_M), k21 v4_7 v8_8 M9 = some (rE, ME) → hz_G p l e 7 ((24, 354), (24, 354)) s m args below meth c w N 11 (MQ below (hz_Qi w N rE ME) args s 24 354 (hz_A w)) M9 225 [(0, .ref (hz_ad w 0)), (4, .int v4_7), (5, .ref (hz_ad w b2)), (8, .int v8_8)] [] := by
      intro v4_7 v8_8 M9 h
      rw [hk21] at h
      dsimp only at h
      refine hz_aload_n hO dL_isForetold_225 rfl 0 rfl ?_
      obtain ⟨r10, M11, hq12, h⟩ := hz_ct_e h
      refine hz_callVi (as := []) (rest := []) hO (c_X10_silenceIn l w hN hq12) hz_cal_X10_silenceIn hz_K_10 hz_sh_0 (hz_lt_0 hN) tw_5_122 (Nat.le_of_ble_eq_true rfl) rfl rfl (Nat.le_of_ble_eq_true rfl) dL_isForetold_226 ?_
      refine hz_iload hO dL_isForetold_229 3 rfl ?_
      refine hz_icmp_ne (tgt := 256) hO dL_isForetold_231 (by decide) (fun hc13 => ?_) (fun hc13 => ?_)
      · rw [if_neg hc13] at h
        refine hz_iconst (v := (0 : Int32)) hO dL_isForetold_256 (by decide) ?_
        exact hz_nameM (hz_some_e h).2.symm (hz_name (hz_some_e h).1.symm (hz_zret hO (by rw [← (hz_some_e h).1]; decide) dL_isForetold_257))
      · rw [if_pos hc13] at h
        refine hz_aload_n hO dL_isForetold_234 rfl 0 rfl ?_
        refine hz_iconst (v := (0 : Int32)) hO dL_isForetold_235 (by decide) ?_
        refine hz_iload hO dL_isForetold_236 1 rfl ?_
        refine hz_bipush (v := (10 : Int32)) hO dL_isForetold_238 (by decide) ?_
        refine hz_irem hO dL_isForetold_240 (by decide) ?_
        obtain ⟨r14, M15, hq16, h⟩ := hz_ct_e h
        refine hz_callVi (as := [.int (0 : Int32), .int (v4_7 - v4_7 / (10 : Int32) * (10 : Int32))]) (rest := []) hO (c_X10_ifValve l w hN (0 : Int32) (v4_7 - v4_7 / (10 : Int32) * (10 : Int32)) hq16) hz_cal_X10_ifValve hz_K_10 hz_sh_0 (hz_lt_0 hN) tw_5_130 (Nat.le_of_ble_eq_true rfl) rfl rfl (Nat.le_of_ble_eq_true rfl) dL_isForetold_241 ?_
        refine hz_aload hO dL_isForetold_244 2 rfl ?_
        obtain ⟨r17, M18, hq19, h⟩ := hz_ct_e h
        refine hz_callVi (as := []) (rest := [.int r14]) hO (c_X11_nextHeat l w hN hB2 hq19) hz_cal_X11_nextHeat hz_K_11 hB2.1 hB2.2.1 tw_5_137 (Nat.le_of_ble_eq_true rfl) rfl rfl (Nat.le_of_ble_eq_true rfl) dL_isForetold_246 ?_
        refine hz_icmp_ne (tgt := 256) hO dL_isForetold_249 (by decide) (fun hc20 => ?_) (fun hc20 => ?_)
        · rw [if_neg hc20] at h
          refine hz_iconst (v := (0 : Int32)) hO dL_isForetold_256 (by decide) ?_
          exact hz_nameM (hz_some_e h).2.symm (hz_name (hz_some_e h).1.symm (hz_zret hO (by rw [← (hz_some_e h).1]; decide) dL_isForetold_257))
        · rw [if_pos hc20] at h
          refine hz_iconst (v := (1 : Int32)) hO dL_isForetold_252 (by decide) ?_
          refine hz_goto (tgt := 257) hO dL_isForetold_253 (by decide) ?_
          exact hz_nameM (hz_some_e h).2.symm (hz_name (hz_some_e h).1.symm (hz_zret hO (by rw [← (hz_some_e h).1]; decide) dL_isForetold_257))
    clear hk21
    refine hz_icmp_ge (tgt := 225) hO dL_isForetold_212 (by decide) (fun hc22 => ?_) (fun hc22 => ?_)
    · rw [if_pos hc22] at h
      exact hz_ls [0, 3, 4, 6] rfl (gk21 v4_3 v8_5 M6 h)
    · rw [if_neg hc22] at h
      refine hz_aload_n hO dL_isForetold_215 rfl 0 rfl ?_
      refine hz_iload_n hO dL_isForetold_216 rfl 2 rfl ?_
      obtain ⟨r23, M24, hq25, h⟩ := hz_ct_e h
      refine hz_callVi (as := [.int v3_2]) (rest := []) hO (c_X10_dryIn l w hN v3_2 hq25) hz_cal_X10_dryIn hz_K_10 hz_sh_0 (hz_lt_0 hN) tw_5_115 (Nat.le_of_ble_eq_true rfl) rfl rfl (Nat.le_of_ble_eq_true rfl) dL_isForetold_217 ?_
      refine hz_iload hO dL_isForetold_220 5 rfl ?_
      refine hz_icmp_ne (tgt := 256) hO dL_isForetold_222 (by decide) (fun hc26 => ?_) (fun hc26 => ?_)
      · rw [if_neg hc26] at h
        refine hz_iconst (v := (0 : Int32)) hO dL_isForetold_256 (by decide) ?_
        exact hz_nameM (hz_some_e h).2.symm (hz_name (hz_some_e h).1.symm (hz_zret hO (by rw [← (hz_some_e h).1]; decide) dL_isForetold_257))
      · rw [if_pos hc26] at h
        exact hz_ls [0, 3, 4, 6] rfl (gk21 v4_3 v8_5 M24 h)
  clear hk27
  refine hz_icmp_ge (tgt := 207) hO dL_isForetold_194 (by decide) (fun hc28 => ?_) (fun hc28 => ?_)
  · rw [if_pos hc28] at h
    exact hz_ls [1, 2, 4, 5, 0, 7, 8] rfl (gk27 a3 a4 a7 a8 M1 h)
  · rw [if_neg hc28] at h
    refine hz_aload_n hO dL_isForetold_197 rfl 1 rfl ?_
    refine hz_iload_n hO dL_isForetold_198 rfl 3 rfl ?_
    obtain ⟨r29, M30, hq31, h⟩ := hz_ct_e h
    refine hz_callVi (as := [.int a2]) (rest := []) hO (c_X10_downIn l w hN a2 hq31) hz_cal_X10_downIn hz_K_10 hz_sh_0 (hz_lt_0 hN) tw_5_108 (Nat.le_of_ble_eq_true rfl) rfl rfl (Nat.le_of_ble_eq_true rfl) dL_isForetold_199 ?_
    refine hz_iload hO dL_isForetold_202 6 rfl ?_
    refine hz_icmp_ne (tgt := 256) hO dL_isForetold_204 (by decide) (fun hc32 => ?_) (fun hc32 => ?_)
    · rw [if_neg hc32] at h
      refine hz_iconst (v := (0 : Int32)) hO dL_isForetold_256 (by decide) ?_
      exact hz_nameM (hz_some_e h).2.symm (hz_name (hz_some_e h).1.symm (hz_zret hO (by rw [← (hz_some_e h).1]; decide) dL_isForetold_257))
    · rw [if_pos hc32] at h
      exact hz_ls [1, 2, 4, 5, 0, 7, 8] rfl (gk27 a3 a4 a7 a8 M30 h)
def f_L_fore2 (b b3 : Nat) (a2 a3 a4 a6 a7 a8 : Int32) (M : hz_M) : hz_O := hz_ct (f_X11_copy b b3 (hz_mo b3 M)) fun _ M1 => f_L_fore3 b b3 a2 a3 a4 a6 a7 a8 M1
def f_L_isForetold_L39 (b : Nat) (b2 : Nat) (kk171 : Int32 → Int32 → Int32 → Int32 → Int32 → Int32 → hz_M → hz_O) : Nat → Int32 → Int32 → Int32 → Int32 → Int32 → Int32 → Int32 → hz_M → hz_O
  | 0, _, _, _, _, _, _, _, _ => none
  | n + 1, v2_6, v3_7, v4_8, v6_9, v7_10, v8_11, v9_12, M13 =>
    if (200 : Int32) < v9_12 then
      kk171 v2_6 v3_7 v4_8 v6_9 v7_10 v8_11 M13
    else
      hz_jn (fun (v2_15 : Int32) (v3_16 : Int32) (v4_17 : Int32) (v6_18 : Int32) (v7_19 : Int32) (v8_20 : Int32) (v9_21 : Int32) (M22 : hz_M) =>
        hz_jn (fun (v2_23 : Int32) (v3_24 : Int32) (v4_25 : Int32) (v6_26 : Int32) (v8_27 : Int32) (v9_28 : Int32) (q29 : Int32) (M30 : hz_M) =>
          hz_jn (fun (v2_31 : Int32) (v3_32 : Int32) (v4_33 : Int32) (v6_34 : Int32) (v7_35 : Int32) (v9_36 : Int32) (q37 : Int32) (M38 : hz_M) =>
            hz_ct (f_X11_minute b2 M38) fun r39 M40 =>
            hz_jn (fun (v2_42 : Int32) (v3_43 : Int32) (v4_44 : Int32) (v7_45 : Int32) (v8_46 : Int32) (v9_47 : Int32) (q48 : Int32) (M49 : hz_M) =>
              hz_lt (v9_47 + (1 : Int32)) fun x50 =>
              f_L_isForetold_L39 b b2 kk171 n v2_42 v3_43 v4_44 q48 v7_45 v8_46 x50 M49
              ) fun k51 =>
            hz_jn (fun (v2_52 : Int32) (v3_53 : Int32) (v4_54 : Int32) (v6_55 : Int32) (v7_56 : Int32) (v8_57 : Int32) (v9_58 : Int32) (M59 : hz_M) =>
              k51 v2_52 v3_53 v4_54 v7_56 v8_57 v9_58 v6_55 M59
              ) fun k60 =>
            if 0 ≤ v6_34 then
              k60 v2_31 v3_32 v4_33 v6_34 v7_35 q37 v9_36 M40
            else
              if ((r39 >>> (v2_31 &&& 31)) &&& (1 : Int32)) = (1 : Int32) then
                if (200 : Int32) ≤ v9_36 then
                  k60 v2_31 v3_32 v4_33 v6_34 v7_35 q37 v9_36 M40
                else
                  k51 v2_31 v3_32 v4_33 v7_35 q37 v9_36 (v9_36 + (1 : Int32)) M40
              else
                k60 v2_31 v3_32 v4_33 v6_34 v7_35 q37 v9_36 M40
            ) fun k64 =>
          hz_jn (fun (v2_65 : Int32) (v3_66 : Int32) (v4_67 : Int32) (v6_68 : Int32) (v7_69 : Int32) (v8_70 : Int32) (v9_71 : Int32) (M72 : hz_M) =>
            k64 v2_65 v3_66 v4_67 v6_68 v7_69 v9_71 v8_70 M72
            ) fun k73 =>
          if 0 ≤ v8_27 then
            k73 v2_23 v3_24 v4_25 v6_26 q29 v8_27 v9_28 M30
          else
            hz_ct (f_X11_isSilent b2 M30) fun r75 M76 =>
            if r75 = 0 then
              k73 v2_23 v3_24 v4_25 v6_26 q29 v8_27 v9_28 M76
            else
              k64 v2_23 v3_24 v4_25 v6_26 q29 v9_28 v9_28 M76
          ) fun k79 =>
        hz_jn (fun (v2_80 : Int32) (v3_81 : Int32) (v4_82 : Int32) (v6_83 : Int32) (v7_84 : Int32) (v8_85 : Int32) (v9_86 : Int32) (M87 : hz_M) =>
          k79 v2_80 v3_81 v4_82 v6_83 v8_85 v9_86 v7_84 M87
          ) fun k88 =>
        if 0 ≤ v7_19 then
          k88 v2_15 v3_16 v4_17 v6_18 v7_19 v8_20 v9_21 M22
        else
          if (M22 b 2) ≤ v3_16 then
            k88 v2_15 v3_16 v4_17 v6_18 v7_19 v8_20 v9_21 M22
          else
            hz_gd (hz_in v3_16 16) <|
            if (M22 (b2 + 4) (Int32.toNatClampNeg v3_16)) = 0 then
              k79 v2_15 v3_16 v4_17 v6_18 v8_20 v9_21 v9_21 M22
            else
              k88 v2_15 v3_16 v4_17 v6_18 v7_19 v8_20 v9_21 M22
        ) fun k93 =>
      if v9_12 = v4_8 then
        hz_ct (f_X10_heatIn v9_12 M13) fun r95 M96 =>
        if r95 = (M96 b2 9) then
          k93 v2_6 v3_7 v4_8 v6_9 v7_10 v8_11 v9_12 M96
        else
          none
      else
        k93 v2_6 v3_7 v4_8 v6_9 v7_10 v8_11 v9_12 M13
def f_L_fore1 (b b2 : Nat) (kz : Int32 → Int32 → Int32 → Int32 → Int32 → Int32 → hz_M → hz_O) (a2 a3 a4 : Int32) (M : hz_M) : hz_O :=
  hz_jn (fun (v2_1 : Int32) (v3_2 : Int32) (v4_3 : Int32) (q4 : Int32) (M5 : hz_M) =>
    f_L_isForetold_L39 b b2 kz hz_FU v2_1 v3_2 v4_3 q4 (-1 : Int32) (-1 : Int32) (0 : Int32) M5
    ) fun k99 =>
  hz_jn (fun (v2_100 : Int32) (v3_101 : Int32) (v4_102 : Int32) (M103 : hz_M) =>
    k99 v2_100 v3_101 v4_102 (0 : Int32) M103
    ) fun k104 =>
  if (M b 10) ≤ a2 then
    k104 a2 a3 a4 M
  else
    hz_gd (hz_in a2 16) <|
    if (M (b + 7) (Int32.toNatClampNeg a2)) ≤ 0 then
      k104 a2 a3 a4 M
    else
      k99 a2 a3 a4 (-1 : Int32) M
set_option maxRecDepth 100000 in
set_option maxHeartbeats 4000000 in
theorem g_L_isForetold_L39 {p : Program} {l : Launch} {e : Env} {s : State} {m : MethodId} {args : Array Value} {below : List Frame} {meth : Method} {c : Code} {w : hz_C} {N : Nat} (hN : 178 ≤ N) {b : Nat} (hB : hz_Own N b) {b2 : Nat} (hB2 : hz_Own N b2) {rE : Int32} {ME : hz_M} (hO : hz_Ok p s m args meth c w cL_isForetold 11 RL (some .boolean)) (kk171 : Int32 → Int32 → Int32 → Int32 → Int32 → Int32 → hz_M → hz_O) (gkk171 : ∀ (a2 : Int32) (a3 : Int32) (a4 : Int32) (a6 : Int32) (a7 : Int32) (a8 : Int32) (M : hz_M), kk171 a2 a3 a4 a6 a7 a8 M = some (rE, ME) → hz_H p l e 7 ((24, 354), (12, 177)) s m args below meth c w N 11 (MQ below (hz_Qi w (N + 12) rE ME) args s 24 354 (hz_A w)) M 171 [(0, .ref (hz_ad w 0)), (1, .ref (hz_ad w b)), (2, .int a2), (3, .int a3), (4, .int a4), (6, .int a6), (7, .int a7), (8, .int a8)] []) : ∀ (n : Nat) (v2_6 : Int32) (v3_7 : Int32) (v4_8 : Int32) (v6_9 : Int32) (v7_10 : Int32) (v8_11 : Int32) (v9_12 : Int32) (M13 : hz_M), f_L_isForetold_L39 b b2 kk171 n v2_6 v3_7 v4_8 v6_9 v7_10 v8_11 v9_12 M13 = some (rE, ME) → hz_H p l e 7 ((24, 354), (12, 177)) s m args below meth c w N 11 (MQ below (hz_Qi w (N + 12) rE ME) args s 24 354 (hz_A w)) M13 39 [(0, .ref (hz_ad w 0)), (1, .ref (hz_ad w b)), (2, .int v2_6), (3, .int v3_7), (4, .int v4_8), (5, .ref (hz_ad w b2)), (6, .int v6_9), (7, .int v7_10), (8, .int v8_11), (9, .int v9_12)] [] := by
  intro n
  induction n with
  | zero =>
    intro v2_6 v3_7 v4_8 v6_9 v7_10 v8_11 v9_12 M13 h
    rw [f_L_isForetold_L39] at h
    cases h
  | succ n ih =>
    intro v2_6 v3_7 v4_8 v6_9 v7_10 v8_11 v9_12 M13 h
    rw [f_L_isForetold_L39] at h
    refine hz_h_iload hO dL_isForetold_39 9 rfl ?_
    refine hz_h_sipush (v := (200 : Int32)) hO dL_isForetold_41 (by decide) ?_
    refine hz_h_icmp_gt (tgt := 171) hO dL_isForetold_44 (by decide) (fun hc14 => ?_) (fun hc14 => ?_)
    · rw [if_pos hc14] at h
      exact hz_h_ls [0, 1, 2, 3, 4, 6, 7, 8] rfl (gkk171 v2_6 v3_7 v4_8 v6_9 v7_10 v8_11 M13 h)
    · rw [if_neg hc14] at h
      refine hz_h_iload hO dL_isForetold_47 9 rfl ?_
      refine hz_h_iload hO dL_isForetold_49 4 rfl ?_
      obtain ⟨k93, hk93, h⟩ := hz_jn_e h
      have gk93 : ∀ (v2_15 : Int32) (v3_16 : Int32) (v4_17 : Int32) (v6_18 : Int32) (v7_19 : Int32) (v8_20 : Int32) (v9_21 : Int32) (M22 : hz_M), k93 v2_15 v3_16 v4_17 v6_18 v7_19 v8_20 v9_21 M22 = some (rE, ME) → hz_H p l e 7 ((24, 354), (12, 177)) s m args below meth c w N 11 (MQ below (hz_Qi w (N + 12) rE ME) args s 24 354 (hz_A w)) M22 70 [(0, .ref (hz_ad w 0)), (1, .ref (hz_ad w b)), (2, .int v2_15), (3, .int v3_16), (4, .int v4_17), (5, .ref (hz_ad w b2)), (6, .int v6_18), (7, .int v7_19), (8, .int v8_20), (9, .int v9_21)] [] := by
        intro v2_15 v3_16 v4_17 v6_18 v7_19 v8_20 v9_21 M22 h
        rw [hk93] at h
        dsimp only at h
        refine hz_h_iload hO dL_isForetold_70 7 rfl ?_
        obtain ⟨k79, hk79, h⟩ := hz_jn_e h
        have gk79 : ∀ (v2_23 : Int32) (v3_24 : Int32) (v4_25 : Int32) (v6_26 : Int32) (v8_27 : Int32) (v9_28 : Int32) (q29 : Int32) (M30 : hz_M), k79 v2_23 v3_24 v4_25 v6_26 v8_27 v9_28 q29 M30 = some (rE, ME) → hz_H p l e 7 ((24, 354), (12, 177)) s m args below meth c w N 11 (MQ below (hz_Qi w (N + 12) rE ME) args s 24 354 (hz_A w)) M30 100 [(0, .ref (hz_ad w 0)), (1, .ref (hz_ad w b)), (2, .int v2_23), (3, .int v3_24), (4, .int v4_25), (5, .ref (hz_ad w b2)), (6, .int v6_26), (8, .int v8_27), (9, .int v9_28)] [.int q29] := by
          intro v2_23 v3_24 v4_25 v6_26 v8_27 v9_28 q29 M30 h
          rw [hk79] at h
          dsimp only at h
          refine hz_h_istore (ls1 := [(7, .int q29), (0, .ref (hz_ad w 0)), (1, .ref (hz_ad w b)), (2, .int v2_23), (3, .int v3_24), (4, .int v4_25), (5, .ref (hz_ad w b2)), (6, .int v6_26), (8, .int v8_27), (9, .int v9_28)]) hO dL_isForetold_100 (Nat.le_of_ble_eq_true rfl) rfl ?_
          refine hz_h_iload hO dL_isForetold_102 8 rfl ?_
          obtain ⟨k64, hk64, h⟩ := hz_jn_e h
          have gk64 : ∀ (v2_31 : Int32) (v3_32 : Int32) (v4_33 : Int32) (v6_34 : Int32) (v7_35 : Int32) (v9_36 : Int32) (q37 : Int32) (M38 : hz_M), k64 v2_31 v3_32 v4_33 v6_34 v7_35 v9_36 q37 M38 = some (rE, ME) → hz_H p l e 7 ((24, 354), (12, 177)) s m args below meth c w N 11 (MQ below (hz_Qi w (N + 12) rE ME) args s 24 354 (hz_A w)) M38 122 [(0, .ref (hz_ad w 0)), (1, .ref (hz_ad w b)), (2, .int v2_31), (3, .int v3_32), (4, .int v4_33), (5, .ref (hz_ad w b2)), (6, .int v6_34), (7, .int v7_35), (9, .int v9_36)] [.int q37] := by
            intro v2_31 v3_32 v4_33 v6_34 v7_35 v9_36 q37 M38 h
            rw [hk64] at h
            dsimp only at h
            refine hz_h_istore (ls1 := [(8, .int q37), (0, .ref (hz_ad w 0)), (1, .ref (hz_ad w b)), (2, .int v2_31), (3, .int v3_32), (4, .int v4_33), (5, .ref (hz_ad w b2)), (6, .int v6_34), (7, .int v7_35), (9, .int v9_36)]) hO dL_isForetold_122 (Nat.le_of_ble_eq_true rfl) rfl ?_
            refine hz_h_aload hO dL_isForetold_124 6 rfl ?_
            obtain ⟨r39, M40, hq41, h⟩ := hz_ct_e h
            refine hz_h_callVi (as := []) (rest := []) hO (c_X11_minute l w hN hB2 hq41) hz_cal_X11_minute hz_K_11 hB2.1 hB2.2.1 tw_5_97 (Nat.le_of_ble_eq_true rfl) rfl rfl (Nat.le_of_ble_eq_true rfl) dL_isForetold_126 ?_
            refine hz_h_istore (ls1 := [(10, .int r39), (8, .int q37), (0, .ref (hz_ad w 0)), (1, .ref (hz_ad w b)), (2, .int v2_31), (3, .int v3_32), (4, .int v4_33), (5, .ref (hz_ad w b2)), (6, .int v6_34), (7, .int v7_35), (9, .int v9_36)]) hO dL_isForetold_129 (Nat.le_of_ble_eq_true rfl) rfl ?_
            refine hz_h_iload hO dL_isForetold_131 8 rfl ?_
            obtain ⟨k51, hk51, h⟩ := hz_jn_e h
            have gk51 : ∀ (v2_42 : Int32) (v3_43 : Int32) (v4_44 : Int32) (v7_45 : Int32) (v8_46 : Int32) (v9_47 : Int32) (q48 : Int32) (M49 : hz_M), k51 v2_42 v3_43 v4_44 v7_45 v8_46 v9_47 q48 M49 = some (rE, ME) → hz_H p l e 7 ((24, 354), (12, 177)) s m args below meth c w N 11 (MQ below (hz_Qi w (N + 12) rE ME) args s 24 354 (hz_A w)) M49 163 [(0, .ref (hz_ad w 0)), (1, .ref (hz_ad w b)), (2, .int v2_42), (3, .int v3_43), (4, .int v4_44), (5, .ref (hz_ad w b2)), (7, .int v7_45), (8, .int v8_46), (9, .int v9_47)] [.int q48] := by
              intro v2_42 v3_43 v4_44 v7_45 v8_46 v9_47 q48 M49 h
              rw [hk51] at h
              dsimp only at h
              refine hz_h_istore (ls1 := [(6, .int q48), (0, .ref (hz_ad w 0)), (1, .ref (hz_ad w b)), (2, .int v2_42), (3, .int v3_43), (4, .int v4_44), (5, .ref (hz_ad w b2)), (7, .int v7_45), (8, .int v8_46), (9, .int v9_47)]) hO dL_isForetold_163 (Nat.le_of_ble_eq_true rfl) rfl ?_
              obtain ⟨x50, h_x50, h⟩ := hz_lt_e h
              refine hz_h_iinc (k := 9) (v := x50) (ls1 := [(9, .int x50), (6, .int q48), (0, .ref (hz_ad w 0)), (1, .ref (hz_ad w b)), (2, .int v2_42), (3, .int v3_43), (4, .int v4_44), (5, .ref (hz_ad w b2)), (7, .int v7_45), (8, .int v8_46)]) hO dL_isForetold_165 rfl (by rw [h_x50]; rfl) (Nat.le_of_ble_eq_true rfl) rfl ?_
              refine hz_h_goto (tgt := 39) hO dL_isForetold_168 (by decide) ?_
              exact hz_h_ls [2, 3, 4, 5, 6, 7, 1, 8, 9, 0] rfl (ih v2_42 v3_43 v4_44 q48 v7_45 v8_46 x50 M49 h)
            clear hk51
            obtain ⟨k60, hk60, h⟩ := hz_jn_e h
            have gk60 : ∀ (v2_52 : Int32) (v3_53 : Int32) (v4_54 : Int32) (v6_55 : Int32) (v7_56 : Int32) (v8_57 : Int32) (v9_58 : Int32) (M59 : hz_M), k60 v2_52 v3_53 v4_54 v6_55 v7_56 v8_57 v9_58 M59 = some (rE, ME) → hz_H p l e 7 ((24, 354), (12, 177)) s m args below meth c w N 11 (MQ below (hz_Qi w (N + 12) rE ME) args s 24 354 (hz_A w)) M59 161 [(0, .ref (hz_ad w 0)), (1, .ref (hz_ad w b)), (2, .int v2_52), (3, .int v3_53), (4, .int v4_54), (5, .ref (hz_ad w b2)), (6, .int v6_55), (7, .int v7_56), (8, .int v8_57), (9, .int v9_58)] [] := by
              intro v2_52 v3_53 v4_54 v6_55 v7_56 v8_57 v9_58 M59 h
              rw [hk60] at h
              dsimp only at h
              refine hz_h_iload hO dL_isForetold_161 6 rfl ?_
              exact hz_h_ls [0, 1, 2, 3, 4, 5, 7, 8, 9] rfl (gk51 v2_52 v3_53 v4_54 v7_56 v8_57 v9_58 v6_55 M59 h)
            clear hk60
            refine hz_h_if_ge (tgt := 161) hO dL_isForetold_133 (by decide) (fun hc61 => ?_) (fun hc61 => ?_)
            · rw [if_pos hc61] at h
              exact hz_h_ls [2, 3, 4, 5, 6, 7, 8, 9, 1, 10] rfl (gk60 v2_31 v3_32 v4_33 v6_34 v7_35 q37 v9_36 M40 h)
            · rw [if_neg hc61] at h
              refine hz_h_iload hO dL_isForetold_136 0 rfl ?_
              refine hz_h_iload_n hO dL_isForetold_138 rfl 4 rfl ?_
              refine hz_h_ishr hO dL_isForetold_139 ?_
              refine hz_h_iconst (v := (1 : Int32)) hO dL_isForetold_140 (by decide) ?_
              refine hz_h_iand hO dL_isForetold_141 ?_
              refine hz_h_iconst (v := (1 : Int32)) hO dL_isForetold_142 (by decide) ?_
              refine hz_h_icmp_ne (tgt := 161) hO dL_isForetold_143 (by decide) (fun hc62 => ?_) (fun hc62 => ?_)
              · rw [if_neg hc62] at h
                exact hz_h_ls [2, 3, 4, 5, 6, 7, 8, 9, 1, 10] rfl (gk60 v2_31 v3_32 v4_33 v6_34 v7_35 q37 v9_36 M40 h)
              · rw [if_pos hc62] at h
                refine hz_h_iload hO dL_isForetold_146 10 rfl ?_
                refine hz_h_sipush (v := (200 : Int32)) hO dL_isForetold_148 (by decide) ?_
                refine hz_h_icmp_ge (tgt := 161) hO dL_isForetold_151 (by decide) (fun hc63 => ?_) (fun hc63 => ?_)
                · rw [if_pos hc63] at h
                  exact hz_h_ls [2, 3, 4, 5, 6, 7, 8, 9, 1, 10] rfl (gk60 v2_31 v3_32 v4_33 v6_34 v7_35 q37 v9_36 M40 h)
                · rw [if_neg hc63] at h
                  refine hz_h_iload hO dL_isForetold_154 10 rfl ?_
                  refine hz_h_iconst (v := (1 : Int32)) hO dL_isForetold_156 (by decide) ?_
                  refine hz_h_iadd hO dL_isForetold_157 ?_
                  refine hz_h_goto (tgt := 163) hO dL_isForetold_158 (by decide) ?_
                  exact hz_h_ls [2, 3, 4, 5, 6, 7, 9, 1, 10] rfl (gk51 v2_31 v3_32 v4_33 v7_35 q37 v9_36 (v9_36 + (1 : Int32)) M40 h)
          clear hk64
          obtain ⟨k73, hk73, h⟩ := hz_jn_e h
          have gk73 : ∀ (v2_65 : Int32) (v3_66 : Int32) (v4_67 : Int32) (v6_68 : Int32) (v7_69 : Int32) (v8_70 : Int32) (v9_71 : Int32) (M72 : hz_M), k73 v2_65 v3_66 v4_67 v6_68 v7_69 v8_70 v9_71 M72 = some (rE, ME) → hz_H p l e 7 ((24, 354), (12, 177)) s m args below meth c w N 11 (MQ below (hz_Qi w (N + 12) rE ME) args s 24 354 (hz_A w)) M72 120 [(0, .ref (hz_ad w 0)), (1, .ref (hz_ad w b)), (2, .int v2_65), (3, .int v3_66), (4, .int v4_67), (5, .ref (hz_ad w b2)), (6, .int v6_68), (7, .int v7_69), (8, .int v8_70), (9, .int v9_71)] [] := by
            intro v2_65 v3_66 v4_67 v6_68 v7_69 v8_70 v9_71 M72 h
            rw [hk73] at h
            dsimp only at h
            refine hz_h_iload hO dL_isForetold_120 8 rfl ?_
            exact hz_h_ls [0, 1, 2, 3, 4, 5, 6, 7, 9] rfl (gk64 v2_65 v3_66 v4_67 v6_68 v7_69 v9_71 v8_70 M72 h)
          clear hk73
          refine hz_h_if_ge (tgt := 120) hO dL_isForetold_104 (by decide) (fun hc74 => ?_) (fun hc74 => ?_)
          · rw [if_pos hc74] at h
            exact hz_h_ls [1, 2, 3, 4, 5, 6, 7, 0, 8, 9] rfl (gk73 v2_23 v3_24 v4_25 v6_26 q29 v8_27 v9_28 M30 h)
          · rw [if_neg hc74] at h
            refine hz_h_aload hO dL_isForetold_107 6 rfl ?_
            obtain ⟨r75, M76, hq77, h⟩ := hz_ct_e h
            refine hz_h_callVi (as := []) (rest := []) hO (c_X11_isSilent l w hN hB2 hq77) hz_cal_X11_isSilent hz_K_11 hB2.1 hB2.2.1 tw_5_22 (Nat.le_of_ble_eq_true rfl) rfl rfl (Nat.le_of_ble_eq_true rfl) dL_isForetold_109 ?_
            refine hz_h_if_eq (tgt := 120) hO dL_isForetold_112 (by decide) (fun hc78 => ?_) (fun hc78 => ?_)
            · rw [if_pos hc78] at h
              exact hz_h_ls [1, 2, 3, 4, 5, 6, 7, 0, 8, 9] rfl (gk73 v2_23 v3_24 v4_25 v6_26 q29 v8_27 v9_28 M76 h)
            · rw [if_neg hc78] at h
              refine hz_h_iload hO dL_isForetold_115 9 rfl ?_
              refine hz_h_goto (tgt := 122) hO dL_isForetold_117 (by decide) ?_
              exact hz_h_ls [1, 2, 3, 4, 5, 6, 7, 0, 9] rfl (gk64 v2_23 v3_24 v4_25 v6_26 q29 v9_28 v9_28 M76 h)
        clear hk79
        obtain ⟨k88, hk88, h⟩ := hz_jn_e h
        have gk88 : ∀ (v2_80 : Int32) (v3_81 : Int32) (v4_82 : Int32) (v6_83 : Int32) (v7_84 : Int32) (v8_85 : Int32) (v9_86 : Int32) (M87 : hz_M), k88 v2_80 v3_81 v4_82 v6_83 v7_84 v8_85 v9_86 M87 = some (rE, ME) → hz_H p l e 7 ((24, 354), (12, 177)) s m args below meth c w N 11 (MQ below (hz_Qi w (N + 12) rE ME) args s 24 354 (hz_A w)) M87 98 [(0, .ref (hz_ad w 0)), (1, .ref (hz_ad w b)), (2, .int v2_80), (3, .int v3_81), (4, .int v4_82), (5, .ref (hz_ad w b2)), (6, .int v6_83), (7, .int v7_84), (8, .int v8_85), (9, .int v9_86)] [] := by
          intro v2_80 v3_81 v4_82 v6_83 v7_84 v8_85 v9_86 M87 h
          rw [hk88] at h
          dsimp only at h
          refine hz_h_iload hO dL_isForetold_98 7 rfl ?_
          exact hz_h_ls [0, 1, 2, 3, 4, 5, 6, 8, 9] rfl (gk79 v2_80 v3_81 v4_82 v6_83 v8_85 v9_86 v7_84 M87 h)
        clear hk88
        refine hz_h_if_ge (tgt := 98) hO dL_isForetold_72 (by decide) (fun hc89 => ?_) (fun hc89 => ?_)
        · rw [if_pos hc89] at h
          exact hz_h_ls [0, 1, 2, 3, 4, 5, 6, 7, 8, 9] rfl (gk88 v2_15 v3_16 v4_17 v6_18 v7_19 v8_20 v9_21 M22 h)
        · rw [if_neg hc89] at h
          refine hz_h_iload_n hO dL_isForetold_75 rfl 3 rfl ?_
          refine hz_h_aload_n hO dL_isForetold_76 rfl 1 rfl ?_
          refine hz_h_getIN (k := 2) hO hz_K_11 hB.1 hB.2.1 rfl (Nat.le_of_ble_eq_true rfl) (List.mem_of_getElem? (i := 10) rfl) rfl dL_isForetold_77 ?_
          refine hz_h_icmp_ge (tgt := 98) hO dL_isForetold_80 (by decide) (fun hc90 => ?_) (fun hc90 => ?_)
          · rw [if_pos hc90] at h
            exact hz_h_ls [0, 1, 2, 3, 4, 5, 6, 7, 8, 9] rfl (gk88 v2_15 v3_16 v4_17 v6_18 v7_19 v8_20 v9_21 M22 h)
          · rw [if_neg hc90] at h
            refine hz_h_aload hO dL_isForetold_83 5 rfl ?_
            refine hz_h_getRN (k := 15) hO (b2 + 4) hz_K_11 hB2.1 hB2.2.1 rfl (Nat.le_of_ble_eq_true rfl) (List.mem_of_getElem? (i := 11) rfl) rfl dL_isForetold_85 ?_
            refine hz_h_iload_n hO dL_isForetold_88 rfl 3 rfl ?_
            obtain ⟨hg91, h⟩ := hz_gd_e h
            refine hz_h_iald hO hB2.2.2.2.2.2.2.2.2.1 hB2.2.2.2.2.2.2.2.2.2.1 hg91 dL_isForetold_89 ?_
            refine hz_h_if_ne (tgt := 98) hO dL_isForetold_90 (by decide) (fun hc92 => ?_) (fun hc92 => ?_)
            · rw [if_neg hc92] at h
              exact hz_h_ls [0, 1, 2, 3, 4, 5, 6, 7, 8, 9] rfl (gk88 v2_15 v3_16 v4_17 v6_18 v7_19 v8_20 v9_21 M22 h)
            · rw [if_pos hc92] at h
              refine hz_h_iload hO dL_isForetold_93 9 rfl ?_
              refine hz_h_goto (tgt := 100) hO dL_isForetold_95 (by decide) ?_
              exact hz_h_ls [0, 1, 2, 3, 4, 5, 6, 8, 9] rfl (gk79 v2_15 v3_16 v4_17 v6_18 v8_20 v9_21 v9_21 M22 h)
      clear hk93
      refine hz_h_icmp_ne (tgt := 70) hO dL_isForetold_51 (by decide) (fun hc94 => ?_) (fun hc94 => ?_)
      · rw [if_neg hc94] at h
        exact hz_h_ls [0, 1, 2, 3, 4, 5, 6, 7, 8, 9] rfl (gk93 v2_6 v3_7 v4_8 v6_9 v7_10 v8_11 v9_12 M13 h)
      · rw [if_pos hc94] at h
        refine hz_h_aload_n hO dL_isForetold_54 rfl 0 rfl ?_
        refine hz_h_iload hO dL_isForetold_55 9 rfl ?_
        obtain ⟨r95, M96, hq97, h⟩ := hz_ct_e h
        refine hz_h_callVi (as := [.int v9_12]) (rest := []) hO (c_X10_heatIn l w hN v9_12 hq97) hz_cal_X10_heatIn hz_K_10 hz_sh_0 (hz_lt_0 hN) tw_5_83 (Nat.le_of_ble_eq_true rfl) rfl rfl (Nat.le_of_ble_eq_true rfl) dL_isForetold_57 ?_
        refine hz_h_aload hO dL_isForetold_60 5 rfl ?_
        refine hz_h_getIN (k := 9) hO hz_K_11 hB2.1 hB2.2.1 rfl (Nat.le_of_ble_eq_true rfl) (List.mem_of_getElem? (i := 9) rfl) rfl dL_isForetold_62 ?_
        refine hz_h_icmp_eq (tgt := 70) hO dL_isForetold_65 (by decide) (fun hc98 => ?_) (fun hc98 => ?_)
        · rw [if_pos hc98] at h
          exact hz_h_ls [0, 1, 2, 3, 4, 5, 6, 7, 8, 9] rfl (gk93 v2_6 v3_7 v4_8 v6_9 v7_10 v8_11 v9_12 M96 h)
        · rw [if_neg hc98] at h
          refine hz_h_iconst (v := (0 : Int32)) hO dL_isForetold_68 (by decide) ?_
          cases h
set_option maxRecDepth 100000 in
set_option maxHeartbeats 4000000 in
theorem g_L_fore1 {p : Program} {l : Launch} {e : Env} {s : State} {m : MethodId} {args : Array Value} {below : List Frame} {meth : Method} {c : Code} {w : hz_C} {N : Nat} (hN : 178 ≤ N) {b : Nat} (hB : hz_Own N b) {b2 : Nat} (hB2 : hz_Own N b2) {rE : Int32} {ME : hz_M} (hO : hz_Ok p s m args meth c w cL_isForetold 11 RL (some .boolean)) {kz : Int32 → Int32 → Int32 → Int32 → Int32 → Int32 → hz_M → hz_O} (gz : ∀ (a2 a3 a4 a6 a7 a8 : Int32) (M : hz_M), kz a2 a3 a4 a6 a7 a8 M = some (rE, ME) → hz_H p l e 7 ((24, 354), (12, 177)) s m args below meth c w N 11 (MQ below (hz_Qi w (N + 12) rE ME) args s 24 354 (hz_A w)) M 171 [(0, .ref (hz_ad w 0)), (1, .ref (hz_ad w b)), (2, .int a2), (3, .int a3), (4, .int a4), (6, .int a6), (7, .int a7), (8, .int a8)] []) (a2 a3 a4 : Int32) (M : hz_M) (h : f_L_fore1 b b2 kz a2 a3 a4 M = some (rE, ME)) : hz_H p l e 7 ((24, 354), (12, 177)) s m args below meth c w N 11 (MQ below (hz_Qi w (N + 12) rE ME) args s 24 354 (hz_A w)) M 6 [(5, .ref (hz_ad w b2)), (0, .ref (hz_ad w 0)), (1, .ref (hz_ad w b)), (2, .int a2), (3, .int a3), (4, .int a4)] [] := by
  unfold f_L_fore1 at h
  refine hz_h_iload_n hO dL_isForetold_6 rfl 3 rfl ?_
  refine hz_h_aload_n hO dL_isForetold_7 rfl 2 rfl ?_
  refine hz_h_getIN (k := 10) hO hz_K_11 hB.1 hB.2.1 rfl (Nat.le_of_ble_eq_true rfl) (List.mem_of_getElem? (i := 8) rfl) rfl dL_isForetold_8 ?_
  obtain ⟨k99, hk99, h⟩ := hz_jn_e h
  have gk99 : ∀ (v2_1 : Int32) (v3_2 : Int32) (v4_3 : Int32) (q4 : Int32) (M5 : hz_M), k99 v2_1 v3_2 v4_3 q4 M5 = some (rE, ME) → hz_H p l e 7 ((24, 354), (12, 177)) s m args below meth c w N 11 (MQ below (hz_Qi w (N + 12) rE ME) args s 24 354 (hz_A w)) M5 28 [(0, .ref (hz_ad w 0)), (1, .ref (hz_ad w b)), (2, .int v2_1), (3, .int v3_2), (4, .int v4_3), (5, .ref (hz_ad w b2))] [.int q4] := by
    intro v2_1 v3_2 v4_3 q4 M5 h
    rw [hk99] at h
    dsimp only at h
    refine hz_h_istore (ls1 := [(6, .int q4), (0, .ref (hz_ad w 0)), (1, .ref (hz_ad w b)), (2, .int v2_1), (3, .int v3_2), (4, .int v4_3), (5, .ref (hz_ad w b2))]) hO dL_isForetold_28 (Nat.le_of_ble_eq_true rfl) rfl ?_
    refine hz_h_iconst (v := (-1 : Int32)) hO dL_isForetold_30 (by decide) ?_
    refine hz_h_istore (ls1 := [(7, .int (-1 : Int32)), (6, .int q4), (0, .ref (hz_ad w 0)), (1, .ref (hz_ad w b)), (2, .int v2_1), (3, .int v3_2), (4, .int v4_3), (5, .ref (hz_ad w b2))]) hO dL_isForetold_31 (Nat.le_of_ble_eq_true rfl) rfl ?_
    refine hz_h_iconst (v := (-1 : Int32)) hO dL_isForetold_33 (by decide) ?_
    refine hz_h_istore (ls1 := [(8, .int (-1 : Int32)), (7, .int (-1 : Int32)), (6, .int q4), (0, .ref (hz_ad w 0)), (1, .ref (hz_ad w b)), (2, .int v2_1), (3, .int v3_2), (4, .int v4_3), (5, .ref (hz_ad w b2))]) hO dL_isForetold_34 (Nat.le_of_ble_eq_true rfl) rfl ?_
    refine hz_h_iconst (v := (0 : Int32)) hO dL_isForetold_36 (by decide) ?_
    refine hz_h_istore (ls1 := [(9, .int (0 : Int32)), (8, .int (-1 : Int32)), (7, .int (-1 : Int32)), (6, .int q4), (0, .ref (hz_ad w 0)), (1, .ref (hz_ad w b)), (2, .int v2_1), (3, .int v3_2), (4, .int v4_3), (5, .ref (hz_ad w b2))]) hO dL_isForetold_37 (Nat.le_of_ble_eq_true rfl) rfl ?_
    exact hz_h_ls [4, 5, 6, 7, 8, 9, 3, 2, 1, 0] rfl (g_L_isForetold_L39 hN hB hB2 hO _ gz _ v2_1 v3_2 v4_3 q4 (-1 : Int32) (-1 : Int32) (0 : Int32) M5 h)
  clear hk99
  obtain ⟨k104, hk104, h⟩ := hz_jn_e h
  have gk104 : ∀ (v2_100 : Int32) (v3_101 : Int32) (v4_102 : Int32) (M103 : hz_M), k104 v2_100 v3_101 v4_102 M103 = some (rE, ME) → hz_H p l e 7 ((24, 354), (12, 177)) s m args below meth c w N 11 (MQ below (hz_Qi w (N + 12) rE ME) args s 24 354 (hz_A w)) M103 27 [(0, .ref (hz_ad w 0)), (1, .ref (hz_ad w b)), (2, .int v2_100), (3, .int v3_101), (4, .int v4_102), (5, .ref (hz_ad w b2))] [] := by
    intro v2_100 v3_101 v4_102 M103 h
    rw [hk104] at h
    dsimp only at h
    refine hz_h_iconst (v := (0 : Int32)) hO dL_isForetold_27 (by decide) ?_
    exact hz_h_ls [0, 1, 2, 3, 4, 5] rfl (gk99 v2_100 v3_101 v4_102 (0 : Int32) M103 h)
  clear hk104
  refine hz_h_icmp_ge (tgt := 27) hO dL_isForetold_11 (by decide) (fun hc105 => ?_) (fun hc105 => ?_)
  · rw [if_pos hc105] at h
    exact hz_h_ls [1, 2, 3, 4, 5, 0] rfl (gk104 a2 a3 a4 M h)
  · rw [if_neg hc105] at h
    refine hz_h_aload_n hO dL_isForetold_14 rfl 2 rfl ?_
    refine hz_h_getRN (k := 18) hO (b + 7) hz_K_11 hB.1 hB.2.1 rfl (Nat.le_of_ble_eq_true rfl) (List.mem_of_getElem? (i := 3) rfl) rfl dL_isForetold_15 ?_
    refine hz_h_iload_n hO dL_isForetold_18 rfl 3 rfl ?_
    obtain ⟨hg106, h⟩ := hz_gd_e h
    refine hz_h_iald hO hB.2.2.2.2.2.2.2.2.2.2.2.2.2.2.1 hB.2.2.2.2.2.2.2.2.2.2.2.2.2.2.2.1 hg106 dL_isForetold_19 ?_
    refine hz_h_if_le (tgt := 27) hO dL_isForetold_20 (by decide) (fun hc107 => ?_) (fun hc107 => ?_)
    · rw [if_pos hc107] at h
      exact hz_h_ls [1, 2, 3, 4, 5, 0] rfl (gk104 a2 a3 a4 M h)
    · rw [if_neg hc107] at h
      refine hz_h_iconst (v := (-1 : Int32)) hO dL_isForetold_23 (by decide) ?_
      refine hz_h_goto (tgt := 28) hO dL_isForetold_24 (by decide) ?_
      exact hz_h_ls [1, 2, 3, 4, 5, 0] rfl (gk99 a2 a3 a4 (-1 : Int32) M h)
def f_L_isForetold (b b2 : Nat) (a2 a3 a4 : Int32) (M : hz_M) : hz_O := hz_ct (f_X11_copy b b2 (hz_mo b2 M)) fun _ M1 => f_L_fore1 b b2 (f_L_fore2 b (b2 + 12)) a2 a3 a4 M1
set_option maxRecDepth 100000 in
set_option maxHeartbeats 4000000 in
theorem c_L_isForetold (l : Launch) (w : hz_C) {N0 b : Nat} (hN : 178 ≤ N0) (hN9 : N0 + 24 ≤ 767) (hB0 : hz_Own N0 b) (hB2 : hz_Own (N0 + 12) N0) (hB3 : hz_Own (N0 + 24) (N0 + 12)) (a2 a3 a4 : Int32) {M0 : hz_M} {rE : Int32} {ME : hz_M} (h : f_L_isForetold b N0 a2 a3 a4 M0 = some (rE, ME)) : hz_CtA l yL_isForetold cL_isForetold 11 (some .boolean) 7 24 354 w N0 [.ref (hz_ad w 0), .ref (hz_ad w b), .int a2, .int a3, .int a4] M0 (hz_Qi w (N0 + 24) rE ME) := by
  obtain ⟨r1, M1, h1, h⟩ := hz_ct_e h
  refine Met.ofW (cc := cL_isForetold) (maxL := 11) (ret := (some .boolean)) (by decide) rfl ?_
  intro p e s m args below meth c s₁ B hml hv
  obtain ⟨rfl, ⟨hWd, hal⟩, hX⟩ := hv
  have hts0 := atoms_spec (ws := Cond.code yL_isForetold cL_isForetold 11 (some .boolean) :: hz_TB) B.pre
  have hown : s.vm.findClass RL = some m.cls := findClass_of_methodNamed B.named
  have hl := lv_entry [.ref (hz_ad w 0), .ref (hz_ad w b), .int a2, .int a3, .int a4] (n := 11) (Nat.le_of_ble_eq_true rfl)
  have hO : hz_Ok p s m ([.ref (hz_ad w 0), .ref (hz_ad w b), .int a2, .int a3, .int a4] : List Value).toArray meth c w cL_isForetold 11 RL (some .boolean) := ⟨⟨B.exec, B.bytes, hml, hown, fun q hq => hts0 q (List.mem_cons_of_mem _ hq)⟩, B.returns, B.notSynchronized, hX, hWd.2.2.2⟩
  rw [lg_entry_eq]
  have key : ∀ (args : Array Value), hz_Ok p s m args meth c w cL_isForetold 11 RL (some .boolean) → hz_H p l e 7 ((24, 354), (0, 0)) s m args below meth c w N0 11 (MQ below (hz_Qi w (N0 + 24) rE ME) args s 24 354 (hz_A w)) M0 0 [(0, .ref (hz_ad w 0)), (1, .ref (hz_ad w b)), (2, .int a2), (3, .int a3), (4, .int a4)] [] := by
    intro args hO
    refine hz_h_aload_n hO dL_isForetold_0 rfl 1 rfl ?_
    refine hz_h_copy (rest := []) (hc := 2) (mc := 12) (ms := 177) hO rfl (c_X11_copy l w hN (by omega) hB0 hB2 h1) hB0 hB2 tw_4_33 (Nat.le_of_ble_eq_true rfl) (Nat.le_of_ble_eq_true rfl) ⟨(Nat.le_of_ble_eq_true rfl), (Nat.le_of_ble_eq_true rfl)⟩ dL_isForetold_1 ?_
    refine hz_h_astore (ls1 := [(5, .ref (hz_ad w N0)), (0, .ref (hz_ad w 0)), (1, .ref (hz_ad w b)), (2, .int a2), (3, .int a3), (4, .int a4)]) hO dL_isForetold_4 (Nat.le_of_ble_eq_true rfl) rfl ?_
    refine g_L_fore1 (N := N0 + 12) (by omega) (hz_own_le (by omega) hB0) hB2 hO (fun a2 a3 a4 a6 a7 a8 M h => ?_) a2 a3 a4 M1 h
    obtain ⟨r2, M2, h2, h⟩ := hz_ct_e h
    refine hz_h_aload_n hO dL_isForetold_171 rfl 1 rfl ?_
    refine hz_h_copy (rest := []) (hc := 2) (mc := 12) (ms := 177) hO rfl (c_X11_copy l w (by omega) (by omega) (hz_own_le (by omega) hB0) hB3 h2) (hz_own_le (by omega) hB0) hB3 tw_4_33 (Nat.le_of_ble_eq_true rfl) (Nat.le_of_ble_eq_true rfl) ⟨(Nat.le_of_ble_eq_true rfl), (Nat.le_of_ble_eq_true rfl)⟩ dL_isForetold_172 ?_
    refine hz_h_astore (ls1 := [(5, .ref (hz_ad w (N0 + 12))), (0, .ref (hz_ad w 0)), (1, .ref (hz_ad w b)), (2, .int a2), (3, .int a3), (4, .int a4), (6, .int a6), (7, .int a7), (8, .int a8)]) hO dL_isForetold_175 (Nat.le_of_ble_eq_true rfl) rfl ?_
    exact hz_h_toG (g_L_fore3 (N := N0 + 24) (by omega) (hz_own_le (by omega) hB0) hB3 hO a2 a3 a4 a6 a7 a8 M2 h)
  exact key _ hO ⟨Nat.zero_le _, Nat.zero_le _⟩ s.heap [] _ ⟨hWd, rfl, hal⟩ va_S.rf hl
