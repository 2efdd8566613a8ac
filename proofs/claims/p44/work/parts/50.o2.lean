-- L_deeds L_acts
def f_L_deeds (b : Nat) (a2 : Int32) (a3 : Int32) (a4 : Int32) (M : hz_M) : hz_O :=
  hz_gd (hz_nz (M b 4)) <|
  hz_lt (((1 : Int32) + (a4 - a4 / (M b 4) * (M b 4)))) fun x2 =>
  hz_gd (hz_nz (M b 1)) <|
  hz_lt ((a4 - a4 / (M b 1) * (M b 1))) fun x4 =>
  if (4 : Int32) ≤ a2 then
    if (9 : Int32) ≤ a2 then
      if a2 = (9 : Int32) then
        hz_gd (hz_in a3 16) <|
        hz_lt ((M (b + 7) (Int32.toNatClampNeg a3))) fun x76 =>
        if (1 : Int32) ≤ x76 then
          hz_gd (hz_in a3 16) <|
          hz_lm (hz_set M (b + 7) (Int32.toNatClampNeg a3) (0 : Int32)) fun M79 =>
          hz_ct (f_X10_hall a3 M79) fun r80 M81 =>
          if r80 = x76 then
            some ((1 : Int32), M81)
          else
            some ((0 : Int32), M81)
        else
          hz_ct (f_X10_hall a3 M) fun r84 M85 =>
          if r84 = (-3 : Int32) then
            some ((-1 : Int32), M85)
          else
            some ((0 : Int32), M85)
      else
        if a2 = (10 : Int32) then
          hz_ct (f_X11_no b a3 ((20 : Int32) + x4) M) fun r57 M58 =>
          if r57 = 0 then
            hz_gd (hz_in a3 16) <|
            hz_lt ((M58 (b + 8) (Int32.toNatClampNeg a3))) fun x62 =>
            hz_gd (hz_in x4 16) <|
            hz_lm (hz_set M58 (b + 2) (Int32.toNatClampNeg x4) x62) fun M64 =>
            hz_gd (hz_in a3 16) <|
            hz_lm (hz_set M64 (b + 8) (Int32.toNatClampNeg a3) (-1 : Int32)) fun M66 =>
            hz_ct (f_X10_hang a3 x4 M66) fun r67 M68 =>
            if r67 = x62 then
              some ((1 : Int32), M68)
            else
              some ((0 : Int32), M68)
          else
            hz_ct (f_X10_hang a3 x4 M58) fun r71 M72 =>
            if r71 = (-2 : Int32) then
              some ((-1 : Int32), M72)
            else
              some ((0 : Int32), M72)
        else
          if a2 = (11 : Int32) then
            hz_ct (f_X11_no b a3 ((40 : Int32) + x4) M) fun r39 M40 =>
            if r39 = 0 then
              hz_gd (hz_in x4 16) <|
              hz_lt ((M40 (b + 2) (Int32.toNatClampNeg x4))) fun x44 =>
              hz_gd (hz_in x4 16) <|
              hz_lm (hz_set M40 (b + 2) (Int32.toNatClampNeg x4) (-1 : Int32)) fun M46 =>
              hz_gd (hz_in a3 16) <|
              hz_lm (hz_set M46 (b + 8) (Int32.toNatClampNeg a3) x44) fun M48 =>
              hz_ct (f_X10_take a3 x4 M48) fun r49 M50 =>
              if r49 = x44 then
                some ((1 : Int32), M50)
              else
                some ((0 : Int32), M50)
            else
              hz_ct (f_X10_take a3 x4 M40) fun r53 M54 =>
              if r53 = (-2 : Int32) then
                some ((-1 : Int32), M54)
              else
                some ((0 : Int32), M54)
          else
            if a2 = (12 : Int32) then
              hz_ct (f_X11_no b a3 (1 : Int32) M) fun r24 M25 =>
              if r24 = 0 then
                hz_ct (f_X10_leave a3 M25) fun r28 M29 =>
                hz_ct (f_X11_goes b a3 M29) fun r31 M32 =>
                if r28 = r31 then
                  some ((1 : Int32), M32)
                else
                  some ((0 : Int32), M32)
              else
                hz_ct (f_X10_leave a3 M25) fun r35 M36 =>
                if r35 = (-2 : Int32) then
                  some ((-1 : Int32), M36)
                else
                  some ((0 : Int32), M36)
            else
              hz_gd (hz_in a3 16) <|
              if 0 ≤ (M (b + 7) (Int32.toNatClampNeg a3)) then
                hz_ct (f_X10_speak a3 M) fun r13 M14 =>
                hz_ct (f_X11_speaks b a3 M14) fun r16 M17 =>
                if r13 = r16 then
                  some ((1 : Int32), M17)
                else
                  some ((0 : Int32), M17)
              else
                hz_ct (f_X10_speak a3 M) fun r20 M21 =>
                if r20 = (-4 : Int32) then
                  some ((-1 : Int32), M21)
                else
                  some ((0 : Int32), M21)
    else
      hz_ct (f_X11_no b a3 ((10 : Int32) + x2) M) fun r88 M89 =>
      if r88 = 0 then
        hz_gd (hz_in a3 16) <|
        hz_lm (hz_set M89 (b + 7) (Int32.toNatClampNeg a3) x2) fun M93 =>
        hz_ct (f_X10_sit a3 x2 M93) fun r94 M95 =>
        if r94 = ((M95 b 9) + ((6 : Int32) * x2)) then
          some ((1 : Int32), M95)
        else
          some ((0 : Int32), M95)
      else
        hz_ct (f_X10_sit a3 x2 M89) fun r98 M99 =>
        if r98 = (-2 : Int32) then
          some ((-1 : Int32), M99)
        else
          some ((0 : Int32), M99)
  else
    hz_ct (f_X11_no b a3 (0 : Int32) M) fun r102 M103 =>
    if r102 = 0 then
      hz_ct (f_X10_enter a3 M103) fun r106 M107 =>
      hz_ct (f_X11_enters b a3 M107) fun r109 M110 =>
      if r106 = r109 then
        some ((1 : Int32), M110)
      else
        some ((0 : Int32), M110)
    else
      hz_ct (f_X10_enter a3 M103) fun r113 M114 =>
      if r113 = (-2 : Int32) then
        some ((-1 : Int32), M114)
      else
        some ((0 : Int32), M114)
set_option maxRecDepth 100000 in
set_option maxHeartbeats 4000000 in
theorem c_L_deeds (l : Launch) (w : hz_C) {N : Nat} (hN : 178 ≤ N) {b : Nat} (hB : hz_Own N b) (a2 : Int32) (a3 : Int32) (a4 : Int32) {M : hz_M} {rE : Int32} {ME : hz_M} (h : f_L_deeds b a2 a3 a4 M = some (rE, ME)) : hz_Ct l yL_deeds cL_deeds 8 (some .int) 7 w N [.ref (hz_ad w 0), .ref (hz_ad w b), .int a2, .int a3, .int a4] M (hz_Qi w N rE ME) := by
  refine hz_ofW (by decide) rfl (Nat.le_of_ble_eq_true rfl) tw_5_143 ?_
  intro p e s m args below meth c hO
  show hz_G p l e 7 hz_z0 s m args below meth c w N 8 _ M 0 [(0, .ref (hz_ad w 0)), (1, .ref (hz_ad w b)), (2, .int a2), (3, .int a3), (4, .int a4)] []
  unfold f_L_deeds at h
  refine hz_iconst (v := (1 : Int32)) hO dL_deeds_0 (by decide) ?_
  refine hz_iload hO dL_deeds_1 4 rfl ?_
  refine hz_aload_n hO dL_deeds_3 rfl 1 rfl ?_
  refine hz_getIN (k := 4) hO hz_K_11 hB.1 hB.2.1 rfl (Nat.le_of_ble_eq_true rfl) (List.mem_of_getElem? (i := 1) rfl) rfl dL_deeds_4 ?_
  obtain ⟨hg1, h⟩ := hz_gd_e h
  refine hz_irem hO dL_deeds_7 (hz_nz_e hg1) ?_
  refine hz_iadd hO dL_deeds_8 ?_
  obtain ⟨x2, h_x2, h⟩ := hz_lt_e h
  refine hz_name h_x2 ?_
  refine hz_istore (ls1 := [(5, .int x2), (0, .ref (hz_ad w 0)), (1, .ref (hz_ad w b)), (2, .int a2), (3, .int a3), (4, .int a4)]) hO dL_deeds_9 (Nat.le_of_ble_eq_true rfl) rfl ?_
  refine hz_iload hO dL_deeds_11 5 rfl ?_
  refine hz_aload_n hO dL_deeds_13 rfl 2 rfl ?_
  refine hz_getIN (k := 1) hO hz_K_11 hB.1 hB.2.1 rfl (Nat.le_of_ble_eq_true rfl) (List.mem_of_getElem? (i := 0) rfl) rfl dL_deeds_14 ?_
  obtain ⟨hg3, h⟩ := hz_gd_e h
  refine hz_irem hO dL_deeds_17 (hz_nz_e hg3) ?_
  obtain ⟨x4, h_x4, h⟩ := hz_lt_e h
  refine hz_name h_x4 ?_
  refine hz_istore (ls1 := [(6, .int x4), (5, .int x2), (0, .ref (hz_ad w 0)), (1, .ref (hz_ad w b)), (2, .int a2), (3, .int a3), (4, .int a4)]) hO dL_deeds_18 (Nat.le_of_ble_eq_true rfl) rfl ?_
  refine hz_iload_n hO dL_deeds_20 rfl 4 rfl ?_
  refine hz_iconst (v := (4 : Int32)) hO dL_deeds_21 (by decide) ?_
  refine hz_icmp_ge (tgt := 69) hO dL_deeds_22 (by decide) (fun hc5 => ?_) (fun hc5 => ?_)
  · rw [if_pos hc5] at h
    refine hz_iload_n hO dL_deeds_69 rfl 4 rfl ?_
    refine hz_bipush (v := (9 : Int32)) hO dL_deeds_70 (by decide) ?_
    refine hz_icmp_ge (tgt := 140) hO dL_deeds_72 (by decide) (fun hc6 => ?_) (fun hc6 => ?_)
    · rw [if_pos hc6] at h
      refine hz_iload_n hO dL_deeds_140 rfl 4 rfl ?_
      refine hz_bipush (v := (9 : Int32)) hO dL_deeds_141 (by decide) ?_
      refine hz_icmp_ne (tgt := 199) hO dL_deeds_143 (by decide) (fun hc7 => ?_) (fun hc7 => ?_)
      · rw [if_neg hc7] at h
        refine hz_iload_n hO dL_deeds_199 rfl 4 rfl ?_
        refine hz_bipush (v := (10 : Int32)) hO dL_deeds_200 (by decide) ?_
        refine hz_icmp_ne (tgt := 278) hO dL_deeds_202 (by decide) (fun hc8 => ?_) (fun hc8 => ?_)
        · rw [if_neg hc8] at h
          refine hz_iload_n hO dL_deeds_278 rfl 4 rfl ?_
          refine hz_bipush (v := (11 : Int32)) hO dL_deeds_279 (by decide) ?_
          refine hz_icmp_ne (tgt := 358) hO dL_deeds_281 (by decide) (fun hc9 => ?_) (fun hc9 => ?_)
          · rw [if_neg hc9] at h
            refine hz_iload_n hO dL_deeds_358 rfl 4 rfl ?_
            refine hz_bipush (v := (12 : Int32)) hO dL_deeds_359 (by decide) ?_
            refine hz_icmp_ne (tgt := 408) hO dL_deeds_361 (by decide) (fun hc10 => ?_) (fun hc10 => ?_)
            · rw [if_neg hc10] at h
              refine hz_aload_n hO dL_deeds_408 rfl 3 rfl ?_
              refine hz_getRN (k := 18) hO (b + 7) hz_K_11 hB.1 hB.2.1 rfl (Nat.le_of_ble_eq_true rfl) (List.mem_of_getElem? (i := 3) rfl) rfl dL_deeds_409 ?_
              refine hz_iload_n hO dL_deeds_412 rfl 5 rfl ?_
              obtain ⟨hg11, h⟩ := hz_gd_e h
              refine hz_iald hO hB.2.2.2.2.2.2.2.2.2.2.2.2.2.2.1 hB.2.2.2.2.2.2.2.2.2.2.2.2.2.2.2.1 hg11 dL_deeds_413 ?_
              refine hz_if_ge (tgt := 433) hO dL_deeds_414 (by decide) (fun hc12 => ?_) (fun hc12 => ?_)
              · rw [if_pos hc12] at h
                refine hz_aload_n hO dL_deeds_433 rfl 2 rfl ?_
                refine hz_iload_n hO dL_deeds_434 rfl 5 rfl ?_
                obtain ⟨r13, M14, hq15, h⟩ := hz_ct_e h
                refine hz_callVi (as := [.int a3]) (rest := []) hO (c_X10_speak l w hN a3 hq15) hz_cal_X10_speak hz_K_10 hz_sh_0 (hz_lt_0 hN) tw_6_58 (Nat.le_of_ble_eq_true rfl) rfl rfl (Nat.le_of_ble_eq_true rfl) dL_deeds_435 ?_
                refine hz_aload_n hO dL_deeds_438 rfl 3 rfl ?_
                refine hz_iload_n hO dL_deeds_439 rfl 5 rfl ?_
                obtain ⟨r16, M17, hq18, h⟩ := hz_ct_e h
                refine hz_callVi (as := [.int a3]) (rest := [.int r13]) hO (c_X11_speaks l w hN hB a3 hq18) hz_cal_X11_speaks hz_K_11 hB.1 hB.2.1 tw_6_64 (Nat.le_of_ble_eq_true rfl) rfl rfl (Nat.le_of_ble_eq_true rfl) dL_deeds_440 ?_
                refine hz_icmp_ne (tgt := 450) hO dL_deeds_443 (by decide) (fun hc19 => ?_) (fun hc19 => ?_)
                · rw [if_neg hc19] at h
                  refine hz_iconst (v := (0 : Int32)) hO dL_deeds_450 (by decide) ?_
                  exact hz_nameM (hz_some_e h).2.symm (hz_name (hz_some_e h).1.symm (hz_iret hO dL_deeds_451))
                · rw [if_pos hc19] at h
                  refine hz_iconst (v := (1 : Int32)) hO dL_deeds_446 (by decide) ?_
                  refine hz_goto (tgt := 451) hO dL_deeds_447 (by decide) ?_
                  exact hz_nameM (hz_some_e h).2.symm (hz_name (hz_some_e h).1.symm (hz_iret hO dL_deeds_451))
              · rw [if_neg hc12] at h
                refine hz_aload_n hO dL_deeds_417 rfl 2 rfl ?_
                refine hz_iload_n hO dL_deeds_418 rfl 5 rfl ?_
                obtain ⟨r20, M21, hq22, h⟩ := hz_ct_e h
                refine hz_callVi (as := [.int a3]) (rest := []) hO (c_X10_speak l w hN a3 hq22) hz_cal_X10_speak hz_K_10 hz_sh_0 (hz_lt_0 hN) tw_6_58 (Nat.le_of_ble_eq_true rfl) rfl rfl (Nat.le_of_ble_eq_true rfl) dL_deeds_419 ?_
                refine hz_bipush (v := (-4 : Int32)) hO dL_deeds_422 (by decide) ?_
                refine hz_icmp_ne (tgt := 431) hO dL_deeds_424 (by decide) (fun hc23 => ?_) (fun hc23 => ?_)
                · rw [if_neg hc23] at h
                  refine hz_iconst (v := (0 : Int32)) hO dL_deeds_431 (by decide) ?_
                  exact hz_nameM (hz_some_e h).2.symm (hz_name (hz_some_e h).1.symm (hz_iret hO dL_deeds_432))
                · rw [if_pos hc23] at h
                  refine hz_iconst (v := (-1 : Int32)) hO dL_deeds_427 (by decide) ?_
                  refine hz_goto (tgt := 432) hO dL_deeds_428 (by decide) ?_
                  exact hz_nameM (hz_some_e h).2.symm (hz_name (hz_some_e h).1.symm (hz_iret hO dL_deeds_432))
            · rw [if_pos hc10] at h
              refine hz_aload_n hO dL_deeds_364 rfl 3 rfl ?_
              refine hz_iload_n hO dL_deeds_365 rfl 5 rfl ?_
              refine hz_iconst (v := (1 : Int32)) hO dL_deeds_366 (by decide) ?_
              obtain ⟨r24, M25, hq26, h⟩ := hz_ct_e h
              refine hz_callVi (as := [.int a3, .int (1 : Int32)]) (rest := []) hO (c_X11_no l w hN hB a3 (1 : Int32) hq26) hz_cal_X11_no hz_K_11 hB.1 hB.2.1 tw_4_126 (Nat.le_of_ble_eq_true rfl) rfl rfl (Nat.le_of_ble_eq_true rfl) dL_deeds_367 ?_
              refine hz_if_eq (tgt := 389) hO dL_deeds_370 (by decide) (fun hc27 => ?_) (fun hc27 => ?_)
              · rw [if_pos hc27] at h
                refine hz_aload_n hO dL_deeds_389 rfl 2 rfl ?_
                refine hz_iload_n hO dL_deeds_390 rfl 5 rfl ?_
                obtain ⟨r28, M29, hq30, h⟩ := hz_ct_e h
                refine hz_callVi (as := [.int a3]) (rest := []) hO (c_X10_leave l w hN a3 hq30) hz_cal_X10_leave hz_K_10 hz_sh_0 (hz_lt_0 hN) tw_6_47 (Nat.le_of_ble_eq_true rfl) rfl rfl (Nat.le_of_ble_eq_true rfl) dL_deeds_391 ?_
                refine hz_aload_n hO dL_deeds_394 rfl 3 rfl ?_
                refine hz_iload_n hO dL_deeds_395 rfl 5 rfl ?_
                obtain ⟨r31, M32, hq33, h⟩ := hz_ct_e h
                refine hz_callVi (as := [.int a3]) (rest := [.int r28]) hO (c_X11_goes l w hN hB a3 hq33) hz_cal_X11_goes hz_K_11 hB.1 hB.2.1 tw_6_53 (Nat.le_of_ble_eq_true rfl) rfl rfl (Nat.le_of_ble_eq_true rfl) dL_deeds_396 ?_
                refine hz_icmp_ne (tgt := 406) hO dL_deeds_399 (by decide) (fun hc34 => ?_) (fun hc34 => ?_)
                · rw [if_neg hc34] at h
                  refine hz_iconst (v := (0 : Int32)) hO dL_deeds_406 (by decide) ?_
                  exact hz_nameM (hz_some_e h).2.symm (hz_name (hz_some_e h).1.symm (hz_iret hO dL_deeds_407))
                · rw [if_pos hc34] at h
                  refine hz_iconst (v := (1 : Int32)) hO dL_deeds_402 (by decide) ?_
                  refine hz_goto (tgt := 407) hO dL_deeds_403 (by decide) ?_
                  exact hz_nameM (hz_some_e h).2.symm (hz_name (hz_some_e h).1.symm (hz_iret hO dL_deeds_407))
              · rw [if_neg hc27] at h
                refine hz_aload_n hO dL_deeds_373 rfl 2 rfl ?_
                refine hz_iload_n hO dL_deeds_374 rfl 5 rfl ?_
                obtain ⟨r35, M36, hq37, h⟩ := hz_ct_e h
                refine hz_callVi (as := [.int a3]) (rest := []) hO (c_X10_leave l w hN a3 hq37) hz_cal_X10_leave hz_K_10 hz_sh_0 (hz_lt_0 hN) tw_6_47 (Nat.le_of_ble_eq_true rfl) rfl rfl (Nat.le_of_ble_eq_true rfl) dL_deeds_375 ?_
                refine hz_bipush (v := (-2 : Int32)) hO dL_deeds_378 (by decide) ?_
                refine hz_icmp_ne (tgt := 387) hO dL_deeds_380 (by decide) (fun hc38 => ?_) (fun hc38 => ?_)
                · rw [if_neg hc38] at h
                  refine hz_iconst (v := (0 : Int32)) hO dL_deeds_387 (by decide) ?_
                  exact hz_nameM (hz_some_e h).2.symm (hz_name (hz_some_e h).1.symm (hz_iret hO dL_deeds_388))
                · rw [if_pos hc38] at h
                  refine hz_iconst (v := (-1 : Int32)) hO dL_deeds_383 (by decide) ?_
                  refine hz_goto (tgt := 388) hO dL_deeds_384 (by decide) ?_
                  exact hz_nameM (hz_some_e h).2.symm (hz_name (hz_some_e h).1.symm (hz_iret hO dL_deeds_388))
          · rw [if_pos hc9] at h
            refine hz_aload_n hO dL_deeds_284 rfl 3 rfl ?_
            refine hz_iload_n hO dL_deeds_285 rfl 5 rfl ?_
            refine hz_bipush (v := (40 : Int32)) hO dL_deeds_286 (by decide) ?_
            refine hz_iload hO dL_deeds_288 0 rfl ?_
            refine hz_iadd hO dL_deeds_290 ?_
            obtain ⟨r39, M40, hq41, h⟩ := hz_ct_e h
            refine hz_callVi (as := [.int a3, .int ((40 : Int32) + x4)]) (rest := []) hO (c_X11_no l w hN hB a3 ((40 : Int32) + x4) hq41) hz_cal_X11_no hz_K_11 hB.1 hB.2.1 tw_4_126 (Nat.le_of_ble_eq_true rfl) rfl rfl (Nat.le_of_ble_eq_true rfl) dL_deeds_291 ?_
            refine hz_if_eq (tgt := 315) hO dL_deeds_294 (by decide) (fun hc42 => ?_) (fun hc42 => ?_)
            · rw [if_pos hc42] at h
              refine hz_aload_n hO dL_deeds_315 rfl 3 rfl ?_
              refine hz_getRN (k := 13) hO (b + 2) hz_K_11 hB.1 hB.2.1 rfl (Nat.le_of_ble_eq_true rfl) (List.mem_of_getElem? (i := 12) rfl) rfl dL_deeds_316 ?_
              refine hz_iload hO dL_deeds_319 0 rfl ?_
              obtain ⟨hg43, h⟩ := hz_gd_e h
              refine hz_iald hO hB.2.2.2.2.1 hB.2.2.2.2.2.1 hg43 dL_deeds_321 ?_
              obtain ⟨x44, h_x44, h⟩ := hz_lt_e h
              refine hz_name h_x44 ?_
              refine hz_istore (ls1 := [(7, .int x44), (6, .int x4), (5, .int x2), (0, .ref (hz_ad w 0)), (1, .ref (hz_ad w b)), (2, .int a2), (3, .int a3), (4, .int a4)]) hO dL_deeds_322 (Nat.le_of_ble_eq_true rfl) rfl ?_
              refine hz_aload_n hO dL_deeds_324 rfl 4 rfl ?_
              refine hz_getRN (k := 13) hO (b + 2) hz_K_11 hB.1 hB.2.1 rfl (Nat.le_of_ble_eq_true rfl) (List.mem_of_getElem? (i := 12) rfl) rfl dL_deeds_325 ?_
              refine hz_iload hO dL_deeds_328 1 rfl ?_
              refine hz_iconst (v := (-1 : Int32)) hO dL_deeds_330 (by decide) ?_
              obtain ⟨hg45, h⟩ := hz_gd_e h
              obtain ⟨M46, h_M46, h⟩ := hz_lm_e h
              refine hz_iast hO hB.2.2.2.2.1 hB.2.2.2.2.2.1 hg45 dL_deeds_331 ?_
              refine hz_nameM h_M46 ?_
              refine hz_aload_n hO dL_deeds_332 rfl 4 rfl ?_
              refine hz_getRN (k := 19) hO (b + 8) hz_K_11 hB.1 hB.2.1 rfl (Nat.le_of_ble_eq_true rfl) (List.mem_of_getElem? (i := 4) rfl) rfl dL_deeds_333 ?_
              refine hz_iload_n hO dL_deeds_336 rfl 6 rfl ?_
              refine hz_iload hO dL_deeds_337 0 rfl ?_
              obtain ⟨hg47, h⟩ := hz_gd_e h
              obtain ⟨M48, h_M48, h⟩ := hz_lm_e h
              refine hz_iast hO hB.2.2.2.2.2.2.2.2.2.2.2.2.2.2.2.2.1 hB.2.2.2.2.2.2.2.2.2.2.2.2.2.2.2.2.2.1 hg47 dL_deeds_339 ?_
              refine hz_nameM h_M48 ?_
              refine hz_aload_n hO dL_deeds_340 rfl 3 rfl ?_
              refine hz_iload_n hO dL_deeds_341 rfl 6 rfl ?_
              refine hz_iload hO dL_deeds_342 1 rfl ?_
              obtain ⟨r49, M50, hq51, h⟩ := hz_ct_e h
              refine hz_callVi (as := [.int a3, .int x4]) (rest := []) hO (c_X10_take l w hN a3 x4 hq51) hz_cal_X10_take hz_K_10 hz_sh_0 (hz_lt_0 hN) tw_6_41 (Nat.le_of_ble_eq_true rfl) rfl rfl (Nat.le_of_ble_eq_true rfl) dL_deeds_344 ?_
              refine hz_iload hO dL_deeds_347 0 rfl ?_
              refine hz_icmp_ne (tgt := 356) hO dL_deeds_349 (by decide) (fun hc52 => ?_) (fun hc52 => ?_)
              · rw [if_neg hc52] at h
                refine hz_iconst (v := (0 : Int32)) hO dL_deeds_356 (by decide) ?_
                exact hz_nameM (hz_some_e h).2.symm (hz_name (hz_some_e h).1.symm (hz_iret hO dL_deeds_357))
              · rw [if_pos hc52] at h
                refine hz_iconst (v := (1 : Int32)) hO dL_deeds_352 (by decide) ?_
                refine hz_goto (tgt := 357) hO dL_deeds_353 (by decide) ?_
                exact hz_nameM (hz_some_e h).2.symm (hz_name (hz_some_e h).1.symm (hz_iret hO dL_deeds_357))
            · rw [if_neg hc42] at h
              refine hz_aload_n hO dL_deeds_297 rfl 2 rfl ?_
              refine hz_iload_n hO dL_deeds_298 rfl 5 rfl ?_
              refine hz_iload hO dL_deeds_299 0 rfl ?_
              obtain ⟨r53, M54, hq55, h⟩ := hz_ct_e h
              refine hz_callVi (as := [.int a3, .int x4]) (rest := []) hO (c_X10_take l w hN a3 x4 hq55) hz_cal_X10_take hz_K_10 hz_sh_0 (hz_lt_0 hN) tw_6_41 (Nat.le_of_ble_eq_true rfl) rfl rfl (Nat.le_of_ble_eq_true rfl) dL_deeds_301 ?_
              refine hz_bipush (v := (-2 : Int32)) hO dL_deeds_304 (by decide) ?_
              refine hz_icmp_ne (tgt := 313) hO dL_deeds_306 (by decide) (fun hc56 => ?_) (fun hc56 => ?_)
              · rw [if_neg hc56] at h
                refine hz_iconst (v := (0 : Int32)) hO dL_deeds_313 (by decide) ?_
                exact hz_nameM (hz_some_e h).2.symm (hz_name (hz_some_e h).1.symm (hz_iret hO dL_deeds_314))
              · rw [if_pos hc56] at h
                refine hz_iconst (v := (-1 : Int32)) hO dL_deeds_309 (by decide) ?_
                refine hz_goto (tgt := 314) hO dL_deeds_310 (by decide) ?_
                exact hz_nameM (hz_some_e h).2.symm (hz_name (hz_some_e h).1.symm (hz_iret hO dL_deeds_314))
        · rw [if_pos hc8] at h
          refine hz_aload_n hO dL_deeds_205 rfl 3 rfl ?_
          refine hz_iload_n hO dL_deeds_206 rfl 5 rfl ?_
          refine hz_bipush (v := (20 : Int32)) hO dL_deeds_207 (by decide) ?_
          refine hz_iload hO dL_deeds_209 0 rfl ?_
          refine hz_iadd hO dL_deeds_211 ?_
          obtain ⟨r57, M58, hq59, h⟩ := hz_ct_e h
          refine hz_callVi (as := [.int a3, .int ((20 : Int32) + x4)]) (rest := []) hO (c_X11_no l w hN hB a3 ((20 : Int32) + x4) hq59) hz_cal_X11_no hz_K_11 hB.1 hB.2.1 tw_4_126 (Nat.le_of_ble_eq_true rfl) rfl rfl (Nat.le_of_ble_eq_true rfl) dL_deeds_212 ?_
          refine hz_if_eq (tgt := 236) hO dL_deeds_215 (by decide) (fun hc60 => ?_) (fun hc60 => ?_)
          · rw [if_pos hc60] at h
            refine hz_aload_n hO dL_deeds_236 rfl 3 rfl ?_
            refine hz_getRN (k := 19) hO (b + 8) hz_K_11 hB.1 hB.2.1 rfl (Nat.le_of_ble_eq_true rfl) (List.mem_of_getElem? (i := 4) rfl) rfl dL_deeds_237 ?_
            refine hz_iload_n hO dL_deeds_240 rfl 5 rfl ?_
            obtain ⟨hg61, h⟩ := hz_gd_e h
            refine hz_iald hO hB.2.2.2.2.2.2.2.2.2.2.2.2.2.2.2.2.1 hB.2.2.2.2.2.2.2.2.2.2.2.2.2.2.2.2.2.1 hg61 dL_deeds_241 ?_
            obtain ⟨x62, h_x62, h⟩ := hz_lt_e h
            refine hz_name h_x62 ?_
            refine hz_istore (ls1 := [(7, .int x62), (6, .int x4), (5, .int x2), (0, .ref (hz_ad w 0)), (1, .ref (hz_ad w b)), (2, .int a2), (3, .int a3), (4, .int a4)]) hO dL_deeds_242 (Nat.le_of_ble_eq_true rfl) rfl ?_
            refine hz_aload_n hO dL_deeds_244 rfl 4 rfl ?_
            refine hz_getRN (k := 13) hO (b + 2) hz_K_11 hB.1 hB.2.1 rfl (Nat.le_of_ble_eq_true rfl) (List.mem_of_getElem? (i := 12) rfl) rfl dL_deeds_245 ?_
            refine hz_iload hO dL_deeds_248 1 rfl ?_
            refine hz_iload hO dL_deeds_250 0 rfl ?_
            obtain ⟨hg63, h⟩ := hz_gd_e h
            obtain ⟨M64, h_M64, h⟩ := hz_lm_e h
            refine hz_iast hO hB.2.2.2.2.1 hB.2.2.2.2.2.1 hg63 dL_deeds_252 ?_
            refine hz_nameM h_M64 ?_
            refine hz_aload_n hO dL_deeds_253 rfl 4 rfl ?_
            refine hz_getRN (k := 19) hO (b + 8) hz_K_11 hB.1 hB.2.1 rfl (Nat.le_of_ble_eq_true rfl) (List.mem_of_getElem? (i := 4) rfl) rfl dL_deeds_254 ?_
            refine hz_iload_n hO dL_deeds_257 rfl 6 rfl ?_
            refine hz_iconst (v := (-1 : Int32)) hO dL_deeds_258 (by decide) ?_
            obtain ⟨hg65, h⟩ := hz_gd_e h
            obtain ⟨M66, h_M66, h⟩ := hz_lm_e h
            refine hz_iast hO hB.2.2.2.2.2.2.2.2.2.2.2.2.2.2.2.2.1 hB.2.2.2.2.2.2.2.2.2.2.2.2.2.2.2.2.2.1 hg65 dL_deeds_259 ?_
            refine hz_nameM h_M66 ?_
            refine hz_aload_n hO dL_deeds_260 rfl 3 rfl ?_
            refine hz_iload_n hO dL_deeds_261 rfl 6 rfl ?_
            refine hz_iload hO dL_deeds_262 1 rfl ?_
            obtain ⟨r67, M68, hq69, h⟩ := hz_ct_e h
            refine hz_callVi (as := [.int a3, .int x4]) (rest := []) hO (c_X10_hang l w hN a3 x4 hq69) hz_cal_X10_hang hz_K_10 hz_sh_0 (hz_lt_0 hN) tw_6_35 (Nat.le_of_ble_eq_true rfl) rfl rfl (Nat.le_of_ble_eq_true rfl) dL_deeds_264 ?_
            refine hz_iload hO dL_deeds_267 0 rfl ?_
            refine hz_icmp_ne (tgt := 276) hO dL_deeds_269 (by decide) (fun hc70 => ?_) (fun hc70 => ?_)
            · rw [if_neg hc70] at h
              refine hz_iconst (v := (0 : Int32)) hO dL_deeds_276 (by decide) ?_
              exact hz_nameM (hz_some_e h).2.symm (hz_name (hz_some_e h).1.symm (hz_iret hO dL_deeds_277))
            · rw [if_pos hc70] at h
              refine hz_iconst (v := (1 : Int32)) hO dL_deeds_272 (by decide) ?_
              refine hz_goto (tgt := 277) hO dL_deeds_273 (by decide) ?_
              exact hz_nameM (hz_some_e h).2.symm (hz_name (hz_some_e h).1.symm (hz_iret hO dL_deeds_277))
          · rw [if_neg hc60] at h
            refine hz_aload_n hO dL_deeds_218 rfl 2 rfl ?_
            refine hz_iload_n hO dL_deeds_219 rfl 5 rfl ?_
            refine hz_iload hO dL_deeds_220 0 rfl ?_
            obtain ⟨r71, M72, hq73, h⟩ := hz_ct_e h
            refine hz_callVi (as := [.int a3, .int x4]) (rest := []) hO (c_X10_hang l w hN a3 x4 hq73) hz_cal_X10_hang hz_K_10 hz_sh_0 (hz_lt_0 hN) tw_6_35 (Nat.le_of_ble_eq_true rfl) rfl rfl (Nat.le_of_ble_eq_true rfl) dL_deeds_222 ?_
            refine hz_bipush (v := (-2 : Int32)) hO dL_deeds_225 (by decide) ?_
            refine hz_icmp_ne (tgt := 234) hO dL_deeds_227 (by decide) (fun hc74 => ?_) (fun hc74 => ?_)
            · rw [if_neg hc74] at h
              refine hz_iconst (v := (0 : Int32)) hO dL_deeds_234 (by decide) ?_
              exact hz_nameM (hz_some_e h).2.symm (hz_name (hz_some_e h).1.symm (hz_iret hO dL_deeds_235))
            · rw [if_pos hc74] at h
              refine hz_iconst (v := (-1 : Int32)) hO dL_deeds_230 (by decide) ?_
              refine hz_goto (tgt := 235) hO dL_deeds_231 (by decide) ?_
              exact hz_nameM (hz_some_e h).2.symm (hz_name (hz_some_e h).1.symm (hz_iret hO dL_deeds_235))
      · rw [if_pos hc7] at h
        refine hz_aload_n hO dL_deeds_146 rfl 3 rfl ?_
        refine hz_getRN (k := 18) hO (b + 7) hz_K_11 hB.1 hB.2.1 rfl (Nat.le_of_ble_eq_true rfl) (List.mem_of_getElem? (i := 3) rfl) rfl dL_deeds_147 ?_
        refine hz_iload_n hO dL_deeds_150 rfl 5 rfl ?_
        obtain ⟨hg75, h⟩ := hz_gd_e h
        refine hz_iald hO hB.2.2.2.2.2.2.2.2.2.2.2.2.2.2.1 hB.2.2.2.2.2.2.2.2.2.2.2.2.2.2.2.1 hg75 dL_deeds_151 ?_
        obtain ⟨x76, h_x76, h⟩ := hz_lt_e h
        refine hz_name h_x76 ?_
        refine hz_istore (ls1 := [(7, .int x76), (6, .int x4), (5, .int x2), (0, .ref (hz_ad w 0)), (1, .ref (hz_ad w b)), (2, .int a2), (3, .int a3), (4, .int a4)]) hO dL_deeds_152 (Nat.le_of_ble_eq_true rfl) rfl ?_
        refine hz_iload hO dL_deeds_154 0 rfl ?_
        refine hz_iconst (v := (1 : Int32)) hO dL_deeds_156 (by decide) ?_
        refine hz_icmp_ge (tgt := 176) hO dL_deeds_157 (by decide) (fun hc77 => ?_) (fun hc77 => ?_)
        · rw [if_pos hc77] at h
          refine hz_aload_n hO dL_deeds_176 rfl 4 rfl ?_
          refine hz_getRN (k := 18) hO (b + 7) hz_K_11 hB.1 hB.2.1 rfl (Nat.le_of_ble_eq_true rfl) (List.mem_of_getElem? (i := 3) rfl) rfl dL_deeds_177 ?_
          refine hz_iload_n hO dL_deeds_180 rfl 6 rfl ?_
          refine hz_iconst (v := (0 : Int32)) hO dL_deeds_181 (by decide) ?_
          obtain ⟨hg78, h⟩ := hz_gd_e h
          obtain ⟨M79, h_M79, h⟩ := hz_lm_e h
          refine hz_iast hO hB.2.2.2.2.2.2.2.2.2.2.2.2.2.2.1 hB.2.2.2.2.2.2.2.2.2.2.2.2.2.2.2.1 hg78 dL_deeds_182 ?_
          refine hz_nameM h_M79 ?_
          refine hz_aload_n hO dL_deeds_183 rfl 3 rfl ?_
          refine hz_iload_n hO dL_deeds_184 rfl 6 rfl ?_
          obtain ⟨r80, M81, hq82, h⟩ := hz_ct_e h
          refine hz_callVi (as := [.int a3]) (rest := []) hO (c_X10_hall l w hN a3 hq82) hz_cal_X10_hall hz_K_10 hz_sh_0 (hz_lt_0 hN) tw_6_29 (Nat.le_of_ble_eq_true rfl) rfl rfl (Nat.le_of_ble_eq_true rfl) dL_deeds_185 ?_
          refine hz_iload hO dL_deeds_188 0 rfl ?_
          refine hz_icmp_ne (tgt := 197) hO dL_deeds_190 (by decide) (fun hc83 => ?_) (fun hc83 => ?_)
          · rw [if_neg hc83] at h
            refine hz_iconst (v := (0 : Int32)) hO dL_deeds_197 (by decide) ?_
            exact hz_nameM (hz_some_e h).2.symm (hz_name (hz_some_e h).1.symm (hz_iret hO dL_deeds_198))
          · rw [if_pos hc83] at h
            refine hz_iconst (v := (1 : Int32)) hO dL_deeds_193 (by decide) ?_
            refine hz_goto (tgt := 198) hO dL_deeds_194 (by decide) ?_
            exact hz_nameM (hz_some_e h).2.symm (hz_name (hz_some_e h).1.symm (hz_iret hO dL_deeds_198))
        · rw [if_neg hc77] at h
          refine hz_aload_n hO dL_deeds_160 rfl 3 rfl ?_
          refine hz_iload_n hO dL_deeds_161 rfl 6 rfl ?_
          obtain ⟨r84, M85, hq86, h⟩ := hz_ct_e h
          refine hz_callVi (as := [.int a3]) (rest := []) hO (c_X10_hall l w hN a3 hq86) hz_cal_X10_hall hz_K_10 hz_sh_0 (hz_lt_0 hN) tw_6_29 (Nat.le_of_ble_eq_true rfl) rfl rfl (Nat.le_of_ble_eq_true rfl) dL_deeds_162 ?_
          refine hz_bipush (v := (-3 : Int32)) hO dL_deeds_165 (by decide) ?_
          refine hz_icmp_ne (tgt := 174) hO dL_deeds_167 (by decide) (fun hc87 => ?_) (fun hc87 => ?_)
          · rw [if_neg hc87] at h
            refine hz_iconst (v := (0 : Int32)) hO dL_deeds_174 (by decide) ?_
            exact hz_nameM (hz_some_e h).2.symm (hz_name (hz_some_e h).1.symm (hz_iret hO dL_deeds_175))
          · rw [if_pos hc87] at h
            refine hz_iconst (v := (-1 : Int32)) hO dL_deeds_170 (by decide) ?_
            refine hz_goto (tgt := 175) hO dL_deeds_171 (by decide) ?_
            exact hz_nameM (hz_some_e h).2.symm (hz_name (hz_some_e h).1.symm (hz_iret hO dL_deeds_175))
    · rw [if_neg hc6] at h
      refine hz_aload_n hO dL_deeds_75 rfl 3 rfl ?_
      refine hz_iload_n hO dL_deeds_76 rfl 5 rfl ?_
      refine hz_bipush (v := (10 : Int32)) hO dL_deeds_77 (by decide) ?_
      refine hz_iload hO dL_deeds_79 1 rfl ?_
      refine hz_iadd hO dL_deeds_81 ?_
      obtain ⟨r88, M89, hq90, h⟩ := hz_ct_e h
      refine hz_callVi (as := [.int a3, .int ((10 : Int32) + x2)]) (rest := []) hO (c_X11_no l w hN hB a3 ((10 : Int32) + x2) hq90) hz_cal_X11_no hz_K_11 hB.1 hB.2.1 tw_4_126 (Nat.le_of_ble_eq_true rfl) rfl rfl (Nat.le_of_ble_eq_true rfl) dL_deeds_82 ?_
      refine hz_if_eq (tgt := 106) hO dL_deeds_85 (by decide) (fun hc91 => ?_) (fun hc91 => ?_)
      · rw [if_pos hc91] at h
        refine hz_aload_n hO dL_deeds_106 rfl 3 rfl ?_
        refine hz_getRN (k := 18) hO (b + 7) hz_K_11 hB.1 hB.2.1 rfl (Nat.le_of_ble_eq_true rfl) (List.mem_of_getElem? (i := 3) rfl) rfl dL_deeds_107 ?_
        refine hz_iload_n hO dL_deeds_110 rfl 5 rfl ?_
        refine hz_iload hO dL_deeds_111 1 rfl ?_
        obtain ⟨hg92, h⟩ := hz_gd_e h
        obtain ⟨M93, h_M93, h⟩ := hz_lm_e h
        refine hz_iast hO hB.2.2.2.2.2.2.2.2.2.2.2.2.2.2.1 hB.2.2.2.2.2.2.2.2.2.2.2.2.2.2.2.1 hg92 dL_deeds_113 ?_
        refine hz_nameM h_M93 ?_
        refine hz_aload_n hO dL_deeds_114 rfl 2 rfl ?_
        refine hz_iload_n hO dL_deeds_115 rfl 5 rfl ?_
        refine hz_iload hO dL_deeds_116 1 rfl ?_
        obtain ⟨r94, M95, hq96, h⟩ := hz_ct_e h
        refine hz_callVi (as := [.int a3, .int x2]) (rest := []) hO (c_X10_sit l w hN a3 x2 hq96) hz_cal_X10_sit hz_K_10 hz_sh_0 (hz_lt_0 hN) tw_6_23 (Nat.le_of_ble_eq_true rfl) rfl rfl (Nat.le_of_ble_eq_true rfl) dL_deeds_118 ?_
        refine hz_aload_n hO dL_deeds_121 rfl 3 rfl ?_
        refine hz_getIN (k := 9) hO hz_K_11 hB.1 hB.2.1 rfl (Nat.le_of_ble_eq_true rfl) (List.mem_of_getElem? (i := 9) rfl) rfl dL_deeds_122 ?_
        refine hz_bipush (v := (6 : Int32)) hO dL_deeds_125 (by decide) ?_
        refine hz_iload hO dL_deeds_127 1 rfl ?_
        refine hz_imul hO dL_deeds_129 ?_
        refine hz_iadd hO dL_deeds_130 ?_
        refine hz_icmp_ne (tgt := 138) hO dL_deeds_131 (by decide) (fun hc97 => ?_) (fun hc97 => ?_)
        · rw [if_neg hc97] at h
          refine hz_iconst (v := (0 : Int32)) hO dL_deeds_138 (by decide) ?_
          exact hz_nameM (hz_some_e h).2.symm (hz_name (hz_some_e h).1.symm (hz_iret hO dL_deeds_139))
        · rw [if_pos hc97] at h
          refine hz_iconst (v := (1 : Int32)) hO dL_deeds_134 (by decide) ?_
          refine hz_goto (tgt := 139) hO dL_deeds_135 (by decide) ?_
          exact hz_nameM (hz_some_e h).2.symm (hz_name (hz_some_e h).1.symm (hz_iret hO dL_deeds_139))
      · rw [if_neg hc91] at h
        refine hz_aload_n hO dL_deeds_88 rfl 2 rfl ?_
        refine hz_iload_n hO dL_deeds_89 rfl 5 rfl ?_
        refine hz_iload hO dL_deeds_90 1 rfl ?_
        obtain ⟨r98, M99, hq100, h⟩ := hz_ct_e h
        refine hz_callVi (as := [.int a3, .int x2]) (rest := []) hO (c_X10_sit l w hN a3 x2 hq100) hz_cal_X10_sit hz_K_10 hz_sh_0 (hz_lt_0 hN) tw_6_23 (Nat.le_of_ble_eq_true rfl) rfl rfl (Nat.le_of_ble_eq_true rfl) dL_deeds_92 ?_
        refine hz_bipush (v := (-2 : Int32)) hO dL_deeds_95 (by decide) ?_
        refine hz_icmp_ne (tgt := 104) hO dL_deeds_97 (by decide) (fun hc101 => ?_) (fun hc101 => ?_)
        · rw [if_neg hc101] at h
          refine hz_iconst (v := (0 : Int32)) hO dL_deeds_104 (by decide) ?_
          exact hz_nameM (hz_some_e h).2.symm (hz_name (hz_some_e h).1.symm (hz_iret hO dL_deeds_105))
        · rw [if_pos hc101] at h
          refine hz_iconst (v := (-1 : Int32)) hO dL_deeds_100 (by decide) ?_
          refine hz_goto (tgt := 105) hO dL_deeds_101 (by decide) ?_
          exact hz_nameM (hz_some_e h).2.symm (hz_name (hz_some_e h).1.symm (hz_iret hO dL_deeds_105))
  · rw [if_neg hc5] at h
    refine hz_aload_n hO dL_deeds_25 rfl 3 rfl ?_
    refine hz_iload_n hO dL_deeds_26 rfl 5 rfl ?_
    refine hz_iconst (v := (0 : Int32)) hO dL_deeds_27 (by decide) ?_
    obtain ⟨r102, M103, hq104, h⟩ := hz_ct_e h
    refine hz_callVi (as := [.int a3, .int (0 : Int32)]) (rest := []) hO (c_X11_no l w hN hB a3 (0 : Int32) hq104) hz_cal_X11_no hz_K_11 hB.1 hB.2.1 tw_4_126 (Nat.le_of_ble_eq_true rfl) rfl rfl (Nat.le_of_ble_eq_true rfl) dL_deeds_28 ?_
    refine hz_if_eq (tgt := 50) hO dL_deeds_31 (by decide) (fun hc105 => ?_) (fun hc105 => ?_)
    · rw [if_pos hc105] at h
      refine hz_aload_n hO dL_deeds_50 rfl 2 rfl ?_
      refine hz_iload_n hO dL_deeds_51 rfl 5 rfl ?_
      obtain ⟨r106, M107, hq108, h⟩ := hz_ct_e h
      refine hz_callVi (as := [.int a3]) (rest := []) hO (c_X10_enter l w hN a3 hq108) hz_cal_X10_enter hz_K_10 hz_sh_0 (hz_lt_0 hN) tw_5_144 (Nat.le_of_ble_eq_true rfl) rfl rfl (Nat.le_of_ble_eq_true rfl) dL_deeds_52 ?_
      refine hz_aload_n hO dL_deeds_55 rfl 3 rfl ?_
      refine hz_iload_n hO dL_deeds_56 rfl 5 rfl ?_
      obtain ⟨r109, M110, hq111, h⟩ := hz_ct_e h
      refine hz_callVi (as := [.int a3]) (rest := [.int r106]) hO (c_X11_enters l w hN hB a3 hq111) hz_cal_X11_enters hz_K_11 hB.1 hB.2.1 tw_6_19 (Nat.le_of_ble_eq_true rfl) rfl rfl (Nat.le_of_ble_eq_true rfl) dL_deeds_57 ?_
      refine hz_icmp_ne (tgt := 67) hO dL_deeds_60 (by decide) (fun hc112 => ?_) (fun hc112 => ?_)
      · rw [if_neg hc112] at h
        refine hz_iconst (v := (0 : Int32)) hO dL_deeds_67 (by decide) ?_
        exact hz_nameM (hz_some_e h).2.symm (hz_name (hz_some_e h).1.symm (hz_iret hO dL_deeds_68))
      · rw [if_pos hc112] at h
        refine hz_iconst (v := (1 : Int32)) hO dL_deeds_63 (by decide) ?_
        refine hz_goto (tgt := 68) hO dL_deeds_64 (by decide) ?_
        exact hz_nameM (hz_some_e h).2.symm (hz_name (hz_some_e h).1.symm (hz_iret hO dL_deeds_68))
    · rw [if_neg hc105] at h
      refine hz_aload_n hO dL_deeds_34 rfl 2 rfl ?_
      refine hz_iload_n hO dL_deeds_35 rfl 5 rfl ?_
      obtain ⟨r113, M114, hq115, h⟩ := hz_ct_e h
      refine hz_callVi (as := [.int a3]) (rest := []) hO (c_X10_enter l w hN a3 hq115) hz_cal_X10_enter hz_K_10 hz_sh_0 (hz_lt_0 hN) tw_5_144 (Nat.le_of_ble_eq_true rfl) rfl rfl (Nat.le_of_ble_eq_true rfl) dL_deeds_36 ?_
      refine hz_bipush (v := (-2 : Int32)) hO dL_deeds_39 (by decide) ?_
      refine hz_icmp_ne (tgt := 48) hO dL_deeds_41 (by decide) (fun hc116 => ?_) (fun hc116 => ?_)
      · rw [if_neg hc116] at h
        refine hz_iconst (v := (0 : Int32)) hO dL_deeds_48 (by decide) ?_
        exact hz_nameM (hz_some_e h).2.symm (hz_name (hz_some_e h).1.symm (hz_iret hO dL_deeds_49))
      · rw [if_pos hc116] at h
        refine hz_iconst (v := (-1 : Int32)) hO dL_deeds_44 (by decide) ?_
        refine hz_goto (tgt := 49) hO dL_deeds_45 (by decide) ?_
        exact hz_nameM (hz_some_e h).2.symm (hz_name (hz_some_e h).1.symm (hz_iret hO dL_deeds_49))
def f_L_acts_L311 (b : Nat) (xs : Nat → Int32) (L : Nat) (kk332 : Int32 → Int32 → hz_M → hz_O) : Nat → Int32 → Int32 → Int32 → hz_M → hz_O
  | 0, _, _, _, _ => none
  | n + 1, v6_24, v7_25, v8_26, M27 =>
    if v6_24 ≤ v8_26 then
      kk332 v6_24 v7_25 M27
    else
      hz_ct (f_X11_minute b M27) fun r29 M30 =>
      hz_lm (hz_set M30 b 23 r29) fun M32 =>
      hz_lt (v8_26 + (1 : Int32)) fun x33 =>
      f_L_acts_L311 b xs L kk332 n v6_24 v7_25 x33 M32
def f_L_acts (b : Nat) (xs : Nat → Int32) (L : Nat) (a3 : Int32) (M : hz_M) : hz_O :=
  hz_ct (f_L_pick xs L a3 (26 : Int32) M) fun r1 M2 =>
  hz_ct (f_L_pick xs L (a3 + (1 : Int32)) (1000 : Int32) M2) fun r4 M5 =>
  hz_jn (fun (v4_7 : Int32) (v5_8 : Int32) (M9 : hz_M) =>
    if v4_7 = (16 : Int32) then
      hz_ct (f_X10_wash M9) fun r75 M76 =>
      hz_ct (f_X11_washes b M76) fun r78 M79 =>
      if r75 = r78 then
        some ((1 : Int32), M79)
      else
        some ((0 : Int32), M79)
    else
      if (20 : Int32) ≤ v4_7 then
        if v4_7 = (20 : Int32) then
          hz_lt (((6 : Int32) + (v5_8 - v5_8 / (3 : Int32) * (3 : Int32)))) fun x36 =>
          hz_jn (fun (v5_37 : Int32) (v6_38 : Int32) (q39 : Int32) (M40 : hz_M) =>
            hz_lt (((2 : Int32) + ((v5_37 / (3 : Int32)) - (v5_37 / (3 : Int32)) / (8 : Int32) * (8 : Int32)))) fun x41 =>
            hz_jn (fun (v6_42 : Int32) (v7_43 : Int32) (v8_44 : Int32) (M45 : hz_M) =>
              hz_jn (fun (v7_46 : Int32) (q47 : Int32) (q48 : Int32) (M49 : hz_M) =>
                hz_ct (f_X10_set q48 q47 M49) fun r50 M51 =>
                if r50 = v7_46 then
                  some ((1 : Int32), M51)
                else
                  some ((0 : Int32), M51)
                ) fun k54 =>
              if v6_42 = (6 : Int32) then
                k54 v7_43 (v8_44 - (1 : Int32)) v6_42 M45
              else
                k54 v7_43 v8_44 v6_42 M45
              ) fun k56 =>
            if v6_38 = (6 : Int32) then
              hz_lm (hz_set M40 b 5 (x41 - (1 : Int32))) fun M61 =>
              k56 v6_38 q39 x41 M61
            else
              if v6_38 = (7 : Int32) then
                hz_lm (hz_set M40 b 6 x41) fun M60 =>
                k56 v6_38 q39 x41 M60
              else
                hz_lm (hz_set M40 b 7 x41) fun M59 =>
                k56 v6_38 q39 x41 M59
            ) fun k62 =>
          if x36 = (6 : Int32) then
            k62 v5_8 x36 (M9 b 5) M9
          else
            if x36 = (7 : Int32) then
              k62 v5_8 x36 (M9 b 6) M9
            else
              k62 v5_8 x36 (M9 b 7) M9
        else
          hz_jn (fun (q13 : Int32) (M14 : hz_M) =>
            hz_lt ((M14 (b + 5) (Int32.toNatClampNeg (4 : Int32)))) fun x15 =>
            hz_jn (fun (v6_16 : Int32) (v7_17 : Int32) (M18 : hz_M) =>
              hz_ct (f_X10_waits v6_16 M18) fun r19 M20 =>
              if r19 = ((M20 (b + 5) (Int32.toNatClampNeg (4 : Int32))) - v7_17) then
                some ((1 : Int32), M20)
              else
                some ((0 : Int32), M20)
              ) fun k23 =>
            f_L_acts_L311 b xs L k23 hz_FU q13 x15 (0 : Int32) M14
            ) fun k34 =>
          if v4_7 = (21 : Int32) then
            k34 (60 : Int32) M9
          else
            k34 ((1 : Int32) + (v5_8 - v5_8 / (6 : Int32) * (6 : Int32))) M9
      else
        hz_gd (hz_nz (M9 b 3)) <|
        hz_lt ((v5_8 - v5_8 / (M9 b 3) * (M9 b 3))) fun x66 =>
        hz_gd (hz_in x66 4) <|
        hz_lt ((M9 (b + 1) (Int32.toNatClampNeg x66))) fun x68 =>
        hz_gd (hz_in x66 4) <|
        hz_lm (hz_set M9 (b + 1) (Int32.toNatClampNeg x66) ((v5_8 / (7 : Int32)) - (v5_8 / (7 : Int32)) / (10 : Int32) * (10 : Int32))) fun M70 =>
        hz_ct (f_X10_valve x66 ((v5_8 / (7 : Int32)) - (v5_8 / (7 : Int32)) / (10 : Int32) * (10 : Int32)) M70) fun r71 M72 =>
        if r71 = x68 then
          some ((1 : Int32), M72)
        else
          some ((0 : Int32), M72)
    ) fun k82 =>
  if (16 : Int32) ≤ r1 then
    k82 r1 r4 M5
  else
    if (M5 b 10) ≤ 0 then
      k82 r1 r4 M5
    else
      hz_ct (f_L_pick xs L (a3 + (2 : Int32)) (M5 b 10) M5) fun r85 M86 =>
      hz_ct (f_L_deeds b r1 r85 r4 M86) fun r88 M89 =>
      some (r88, M89)
set_option maxRecDepth 100000 in
set_option maxHeartbeats 4000000 in
theorem g_L_acts_L311 {p : Program} {l : Launch} {e : Env} {s : State} {m : MethodId} {args : Array Value} {below : List Frame} {meth : Method} {c : Code} {w : hz_C} {N : Nat} (hN : 178 ≤ N) {b : Nat} (hB : hz_Own N b) {xs : Nat → Int32} {L : Nat} (hsc : hz_scx w = xs ∧ hz_scl w = L) {rE : Int32} {ME : hz_M} (hO : hz_Ok p s m args meth c w cL_acts 9 RL (some .int)) (kk332 : Int32 → Int32 → hz_M → hz_O) (gkk332 : ∀ (v6_16 : Int32) (v7_17 : Int32) (M : hz_M), kk332 v6_16 v7_17 M = some (rE, ME) → hz_G p l e 8 hz_z0 s m args below meth c w N 9 (MQ below (hz_Qi w N rE ME) args s 0 0 (hz_A w)) M 332 [(0, .ref (hz_ad w 0)), (1, .ref (hz_ad w b)), (6, .int v6_16), (7, .int v7_17)] []) : ∀ (n : Nat) (v6_24 : Int32) (v7_25 : Int32) (v8_26 : Int32) (M27 : hz_M), f_L_acts_L311 b xs L kk332 n v6_24 v7_25 v8_26 M27 = some (rE, ME) → hz_G p l e 8 hz_z0 s m args below meth c w N 9 (MQ below (hz_Qi w N rE ME) args s 0 0 (hz_A w)) M27 311 [(0, .ref (hz_ad w 0)), (1, .ref (hz_ad w b)), (6, .int v6_24), (7, .int v7_25), (8, .int v8_26)] [] := by
  intro n
  induction n with
  | zero =>
    intro v6_24 v7_25 v8_26 M27 h
    rw [f_L_acts_L311] at h
    cases h
  | succ n ih =>
    intro v6_24 v7_25 v8_26 M27 h
    rw [f_L_acts_L311] at h
    refine hz_iload hO dL_acts_311 4 rfl ?_
    refine hz_iload hO dL_acts_313 2 rfl ?_
    refine hz_icmp_ge (tgt := 332) hO dL_acts_315 (by decide) (fun hc28 => ?_) (fun hc28 => ?_)
    · rw [if_pos hc28] at h
      exact hz_ls [0, 1, 2, 3] rfl (gkk332 v6_24 v7_25 M27 h)
    · rw [if_neg hc28] at h
      refine hz_aload_n hO dL_acts_318 rfl 1 rfl ?_
      refine hz_aload_n hO dL_acts_319 rfl 1 rfl ?_
      obtain ⟨r29, M30, hq31, h⟩ := hz_ct_e h
      refine hz_callVi (as := []) (rest := [.ref (hz_ad w b)]) hO (c_X11_minute l w hN hB hq31) hz_cal_X11_minute hz_K_11 hB.1 hB.2.1 tw_5_97 (Nat.le_of_ble_eq_true rfl) rfl rfl (Nat.le_of_ble_eq_true rfl) dL_acts_320 ?_
      obtain ⟨M32, h_M32, h⟩ := hz_lm_e h
      refine hz_putIN (k := 23) (ty := .int) hO hz_K_11 tyX11_ok nmX11 hB.1 hB.2.1 rfl (Nat.le_of_ble_eq_true rfl) (List.mem_of_getElem? (i := 22) rfl) rfl rfl rfl rfl rfl dL_acts_323 ?_
      refine hz_nameM h_M32 ?_
      obtain ⟨x33, h_x33, h⟩ := hz_lt_e h
      refine hz_iinc (k := 4) (v := x33) (ls1 := [(8, .int x33), (0, .ref (hz_ad w 0)), (1, .ref (hz_ad w b)), (6, .int v6_24), (7, .int v7_25)]) hO dL_acts_326 rfl (by rw [h_x33]; rfl) (Nat.le_of_ble_eq_true rfl) rfl ?_
      refine hz_goto (tgt := 311) hO dL_acts_329 (by decide) ?_
      exact hz_ls [1, 2, 3, 4, 0] rfl (ih v6_24 v7_25 x33 M32 h)
set_option maxRecDepth 100000 in
set_option maxHeartbeats 4000000 in
theorem c_L_acts (l : Launch) (w : hz_C) {N : Nat} (hN : 178 ≤ N) {b : Nat} (hB : hz_Own N b) {xs : Nat → Int32} {L : Nat} (hsc : hz_scx w = xs ∧ hz_scl w = L) (a3 : Int32) {M : hz_M} {rE : Int32} {ME : hz_M} (h : f_L_acts b xs L a3 M = some (rE, ME)) : hz_Ct l yL_acts cL_acts 9 (some .int) 8 w N [.ref (hz_ad w 0), .ref (hz_ad w b), .ref (hz_scb w), .int a3] M (hz_Qi w N rE ME) := by
  refine hz_ofW (by decide) rfl (Nat.le_of_ble_eq_true rfl) tw_5_140 ?_
  intro p e s m args below meth c hO
  show hz_G p l e 8 hz_z0 s m args below meth c w N 9 _ M 0 [(0, .ref (hz_ad w 0)), (1, .ref (hz_ad w b)), (2, .ref (hz_scb w)), (3, .int a3)] []
  unfold f_L_acts at h
  refine hz_aload_n hO dL_acts_0 rfl 2 rfl ?_
  refine hz_iload_n hO dL_acts_1 rfl 3 rfl ?_
  refine hz_bipush (v := (26 : Int32)) hO dL_acts_2 (by decide) ?_
  obtain ⟨r1, M2, hq3, h⟩ := hz_ct_e h
  refine hz_callSi (as := [.ref (hz_scb w), .int a3, .int (26 : Int32)]) (rest := []) hO (c_L_pick l w hN hsc a3 (26 : Int32) hq3) hz_cal_L_pick tw_4_39 (Nat.le_of_ble_eq_true rfl) rfl rfl (Nat.le_of_ble_eq_true rfl) dL_acts_4 ?_
  refine hz_istore (ls1 := [(4, .int r1), (0, .ref (hz_ad w 0)), (1, .ref (hz_ad w b)), (2, .ref (hz_scb w)), (3, .int a3)]) hO dL_acts_7 (Nat.le_of_ble_eq_true rfl) rfl ?_
  refine hz_aload_n hO dL_acts_9 rfl 3 rfl ?_
  refine hz_iload_n hO dL_acts_10 rfl 4 rfl ?_
  refine hz_iconst (v := (1 : Int32)) hO dL_acts_11 (by decide) ?_
  refine hz_iadd hO dL_acts_12 ?_
  refine hz_sipush (v := (1000 : Int32)) hO dL_acts_13 (by decide) ?_
  obtain ⟨r4, M5, hq6, h⟩ := hz_ct_e h
  refine hz_callSi (as := [.ref (hz_scb w), .int (a3 + (1 : Int32)), .int (1000 : Int32)]) (rest := []) hO (c_L_pick l w hN hsc (a3 + (1 : Int32)) (1000 : Int32) hq6) hz_cal_L_pick tw_4_39 (Nat.le_of_ble_eq_true rfl) rfl rfl (Nat.le_of_ble_eq_true rfl) dL_acts_16 ?_
  refine hz_istore (ls1 := [(5, .int r4), (4, .int r1), (0, .ref (hz_ad w 0)), (1, .ref (hz_ad w b)), (2, .ref (hz_scb w)), (3, .int a3)]) hO dL_acts_19 (Nat.le_of_ble_eq_true rfl) rfl ?_
  refine hz_iload hO dL_acts_21 1 rfl ?_
  refine hz_bipush (v := (16 : Int32)) hO dL_acts_23 (by decide) ?_
  obtain ⟨k82, hk82, h⟩ := hz_jn_e h
  have gk82 : ∀ (v4_7 : Int32) (v5_8 : Int32) (M9 : hz_M), k82 v4_7 v5_8 M9 = some (rE, ME) → hz_G p l e 8 hz_z0 s m args below meth c w N 9 (MQ below (hz_Qi w N rE ME) args s 0 0 (hz_A w)) M9 56 [(0, .ref (hz_ad w 0)), (1, .ref (hz_ad w b)), (4, .int v4_7), (5, .int v5_8)] [] := by
    intro v4_7 v5_8 M9 h
    rw [hk82] at h
    dsimp only at h
    refine hz_iload hO dL_acts_56 2 rfl ?_
    refine hz_bipush (v := (16 : Int32)) hO dL_acts_58 (by decide) ?_
    refine hz_icmp_ne (tgt := 80) hO dL_acts_60 (by decide) (fun hc10 => ?_) (fun hc10 => ?_)
    · rw [if_neg hc10] at h
      refine hz_iload hO dL_acts_80 2 rfl ?_
      refine hz_bipush (v := (20 : Int32)) hO dL_acts_82 (by decide) ?_
      refine hz_icmp_ge (tgt := 145) hO dL_acts_84 (by decide) (fun hc11 => ?_) (fun hc11 => ?_)
      · rw [if_pos hc11] at h
        refine hz_iload hO dL_acts_145 2 rfl ?_
        refine hz_bipush (v := (20 : Int32)) hO dL_acts_147 (by decide) ?_
        refine hz_icmp_ne (tgt := 279) hO dL_acts_149 (by decide) (fun hc12 => ?_) (fun hc12 => ?_)
        · rw [if_neg hc12] at h
          refine hz_iload hO dL_acts_279 2 rfl ?_
          refine hz_bipush (v := (21 : Int32)) hO dL_acts_281 (by decide) ?_
          obtain ⟨k34, hk34, h⟩ := hz_jn_e h
          have gk34 : ∀ (q13 : Int32) (M14 : hz_M), k34 q13 M14 = some (rE, ME) → hz_G p l e 8 hz_z0 s m args below meth c w N 9 (MQ below (hz_Qi w N rE ME) args s 0 0 (hz_A w)) M14 298 [(0, .ref (hz_ad w 0)), (1, .ref (hz_ad w b))] [.int q13] := by
            intro q13 M14 h
            rw [hk34] at h
            dsimp only at h
            refine hz_istore (ls1 := [(6, .int q13), (0, .ref (hz_ad w 0)), (1, .ref (hz_ad w b))]) hO dL_acts_298 (Nat.le_of_ble_eq_true rfl) rfl ?_
            refine hz_aload_n hO dL_acts_300 rfl 2 rfl ?_
            refine hz_getRN (k := 16) hO (b + 5) hz_K_11 hB.1 hB.2.1 rfl (Nat.le_of_ble_eq_true rfl) (List.mem_of_getElem? (i := 17) rfl) rfl dL_acts_301 ?_
            refine hz_iconst (v := (4 : Int32)) hO dL_acts_304 (by decide) ?_
            refine hz_iald hO hB.2.2.2.2.2.2.2.2.2.2.1 hB.2.2.2.2.2.2.2.2.2.2.2.1 (by decide) dL_acts_305 ?_
            obtain ⟨x15, h_x15, h⟩ := hz_lt_e h
            refine hz_name h_x15 ?_
            refine hz_istore (ls1 := [(7, .int x15), (6, .int q13), (0, .ref (hz_ad w 0)), (1, .ref (hz_ad w b))]) hO dL_acts_306 (Nat.le_of_ble_eq_true rfl) rfl ?_
            refine hz_iconst (v := (0 : Int32)) hO dL_acts_308 (by decide) ?_
            refine hz_istore (ls1 := [(8, .int (0 : Int32)), (7, .int x15), (6, .int q13), (0, .ref (hz_ad w 0)), (1, .ref (hz_ad w b))]) hO dL_acts_309 (Nat.le_of_ble_eq_true rfl) rfl ?_
            obtain ⟨k23, hk23, h⟩ := hz_jn_e h
            have gk23 : ∀ (v6_16 : Int32) (v7_17 : Int32) (M18 : hz_M), k23 v6_16 v7_17 M18 = some (rE, ME) → hz_G p l e 8 hz_z0 s m args below meth c w N 9 (MQ below (hz_Qi w N rE ME) args s 0 0 (hz_A w)) M18 332 [(0, .ref (hz_ad w 0)), (1, .ref (hz_ad w b)), (6, .int v6_16), (7, .int v7_17)] [] := by
              intro v6_16 v7_17 M18 h
              rw [hk23] at h
              dsimp only at h
              refine hz_aload_n hO dL_acts_332 rfl 0 rfl ?_
              refine hz_iload hO dL_acts_333 2 rfl ?_
              obtain ⟨r19, M20, hq21, h⟩ := hz_ct_e h
              refine hz_callVi (as := [.int v6_16]) (rest := []) hO (c_X10_waits l w hN v6_16 hq21) hz_cal_X10_waits hz_K_10 hz_sh_0 (hz_lt_0 hN) tw_6_95 (Nat.le_of_ble_eq_true rfl) rfl rfl (Nat.le_of_ble_eq_true rfl) dL_acts_335 ?_
              refine hz_aload_n hO dL_acts_338 rfl 1 rfl ?_
              refine hz_getRN (k := 16) hO (b + 5) hz_K_11 hB.1 hB.2.1 rfl (Nat.le_of_ble_eq_true rfl) (List.mem_of_getElem? (i := 17) rfl) rfl dL_acts_339 ?_
              refine hz_iconst (v := (4 : Int32)) hO dL_acts_342 (by decide) ?_
              refine hz_iald hO hB.2.2.2.2.2.2.2.2.2.2.1 hB.2.2.2.2.2.2.2.2.2.2.2.1 (by decide) dL_acts_343 ?_
              refine hz_iload hO dL_acts_344 3 rfl ?_
              refine hz_isub hO dL_acts_346 ?_
              refine hz_icmp_ne (tgt := 354) hO dL_acts_347 (by decide) (fun hc22 => ?_) (fun hc22 => ?_)
              · rw [if_neg hc22] at h
                refine hz_iconst (v := (0 : Int32)) hO dL_acts_354 (by decide) ?_
                exact hz_nameM (hz_some_e h).2.symm (hz_name (hz_some_e h).1.symm (hz_iret hO dL_acts_355))
              · rw [if_pos hc22] at h
                refine hz_iconst (v := (1 : Int32)) hO dL_acts_350 (by decide) ?_
                refine hz_goto (tgt := 355) hO dL_acts_351 (by decide) ?_
                exact hz_nameM (hz_some_e h).2.symm (hz_name (hz_some_e h).1.symm (hz_iret hO dL_acts_355))
            clear hk23
            exact hz_ls [3, 4, 2, 1, 0] rfl (g_L_acts_L311 hN hB hsc hO _ gk23 _ q13 x15 (0 : Int32) M14 h)
          clear hk34
          refine hz_icmp_ne (tgt := 291) hO dL_acts_283 (by decide) (fun hc35 => ?_) (fun hc35 => ?_)
          · rw [if_neg hc35] at h
            refine hz_iconst (v := (1 : Int32)) hO dL_acts_291 (by decide) ?_
            refine hz_iload hO dL_acts_292 3 rfl ?_
            refine hz_bipush (v := (6 : Int32)) hO dL_acts_294 (by decide) ?_
            refine hz_irem hO dL_acts_296 (by decide) ?_
            refine hz_iadd hO dL_acts_297 ?_
            exact hz_ls [0, 1] rfl (gk34 ((1 : Int32) + (v5_8 - v5_8 / (6 : Int32) * (6 : Int32))) M9 h)
          · rw [if_pos hc35] at h
            refine hz_bipush (v := (60 : Int32)) hO dL_acts_286 (by decide) ?_
            refine hz_goto (tgt := 298) hO dL_acts_288 (by decide) ?_
            exact hz_ls [0, 1] rfl (gk34 (60 : Int32) M9 h)
        · rw [if_pos hc12] at h
          refine hz_bipush (v := (6 : Int32)) hO dL_acts_152 (by decide) ?_
          refine hz_iload hO dL_acts_154 3 rfl ?_
          refine hz_iconst (v := (3 : Int32)) hO dL_acts_156 (by decide) ?_
          refine hz_irem hO dL_acts_157 (by decide) ?_
          refine hz_iadd hO dL_acts_158 ?_
          obtain ⟨x36, h_x36, h⟩ := hz_lt_e h
          refine hz_name h_x36 ?_
          refine hz_istore (ls1 := [(6, .int x36), (0, .ref (hz_ad w 0)), (1, .ref (hz_ad w b)), (4, .int v4_7), (5, .int v5_8)]) hO dL_acts_159 (Nat.le_of_ble_eq_true rfl) rfl ?_
          refine hz_iload hO dL_acts_161 0 rfl ?_
          refine hz_bipush (v := (6 : Int32)) hO dL_acts_163 (by decide) ?_
          obtain ⟨k62, hk62, h⟩ := hz_jn_e h
          have gk62 : ∀ (v5_37 : Int32) (v6_38 : Int32) (q39 : Int32) (M40 : hz_M), k62 v5_37 v6_38 q39 M40 = some (rE, ME) → hz_G p l e 8 hz_z0 s m args below meth c w N 9 (MQ below (hz_Qi w N rE ME) args s 0 0 (hz_A w)) M40 193 [(0, .ref (hz_ad w 0)), (1, .ref (hz_ad w b)), (5, .int v5_37), (6, .int v6_38)] [.int q39] := by
            intro v5_37 v6_38 q39 M40 h
            rw [hk62] at h
            dsimp only at h
            refine hz_istore (ls1 := [(7, .int q39), (0, .ref (hz_ad w 0)), (1, .ref (hz_ad w b)), (5, .int v5_37), (6, .int v6_38)]) hO dL_acts_193 (Nat.le_of_ble_eq_true rfl) rfl ?_
            refine hz_iconst (v := (2 : Int32)) hO dL_acts_195 (by decide) ?_
            refine hz_iload hO dL_acts_196 3 rfl ?_
            refine hz_iconst (v := (3 : Int32)) hO dL_acts_198 (by decide) ?_
            refine hz_idiv hO dL_acts_199 (by decide) ?_
            refine hz_bipush (v := (8 : Int32)) hO dL_acts_200 (by decide) ?_
            refine hz_irem hO dL_acts_202 (by decide) ?_
            refine hz_iadd hO dL_acts_203 ?_
            obtain ⟨x41, h_x41, h⟩ := hz_lt_e h
            refine hz_name h_x41 ?_
            refine hz_istore (ls1 := [(8, .int x41), (7, .int q39), (0, .ref (hz_ad w 0)), (1, .ref (hz_ad w b)), (5, .int v5_37), (6, .int v6_38)]) hO dL_acts_204 (Nat.le_of_ble_eq_true rfl) rfl ?_
            refine hz_iload hO dL_acts_206 5 rfl ?_
            refine hz_bipush (v := (6 : Int32)) hO dL_acts_208 (by decide) ?_
            obtain ⟨k56, hk56, h⟩ := hz_jn_e h
            have gk56 : ∀ (v6_42 : Int32) (v7_43 : Int32) (v8_44 : Int32) (M45 : hz_M), k56 v6_42 v7_43 v8_44 M45 = some (rE, ME) → hz_G p l e 8 hz_z0 s m args below meth c w N 9 (MQ below (hz_Qi w N rE ME) args s 0 0 (hz_A w)) M45 246 [(0, .ref (hz_ad w 0)), (6, .int v6_42), (7, .int v7_43), (8, .int v8_44)] [] := by
              intro v6_42 v7_43 v8_44 M45 h
              rw [hk56] at h
              dsimp only at h
              refine hz_aload_n hO dL_acts_246 rfl 0 rfl ?_
              refine hz_iload hO dL_acts_247 1 rfl ?_
              refine hz_iload hO dL_acts_249 1 rfl ?_
              refine hz_bipush (v := (6 : Int32)) hO dL_acts_251 (by decide) ?_
              obtain ⟨k54, hk54, h⟩ := hz_jn_e h
              have gk54 : ∀ (v7_46 : Int32) (q47 : Int32) (q48 : Int32) (M49 : hz_M), k54 v7_46 q47 q48 M49 = some (rE, ME) → hz_G p l e 8 hz_z0 s m args below meth c w N 9 (MQ below (hz_Qi w N rE ME) args s 0 0 (hz_A w)) M49 265 [(7, .int v7_46)] [.int q47, .int q48, .ref (hz_ad w 0)] := by
                intro v7_46 q47 q48 M49 h
                rw [hk54] at h
                dsimp only at h
                obtain ⟨r50, M51, hq52, h⟩ := hz_ct_e h
                refine hz_callVi (as := [.int q48, .int q47]) (rest := []) hO (c_X10_set l w hN q48 q47 hq52) hz_cal_X10_set hz_K_10 hz_sh_0 (hz_lt_0 hN) tw_6_87 (Nat.le_of_ble_eq_true rfl) rfl rfl (Nat.le_of_ble_eq_true rfl) dL_acts_265 ?_
                refine hz_iload hO dL_acts_268 0 rfl ?_
                refine hz_icmp_ne (tgt := 277) hO dL_acts_270 (by decide) (fun hc53 => ?_) (fun hc53 => ?_)
                · rw [if_neg hc53] at h
                  refine hz_iconst (v := (0 : Int32)) hO dL_acts_277 (by decide) ?_
                  exact hz_nameM (hz_some_e h).2.symm (hz_name (hz_some_e h).1.symm (hz_iret hO dL_acts_278))
                · rw [if_pos hc53] at h
                  refine hz_iconst (v := (1 : Int32)) hO dL_acts_273 (by decide) ?_
                  refine hz_goto (tgt := 278) hO dL_acts_274 (by decide) ?_
                  exact hz_nameM (hz_some_e h).2.symm (hz_name (hz_some_e h).1.symm (hz_iret hO dL_acts_278))
              clear hk54
              refine hz_icmp_ne (tgt := 263) hO dL_acts_253 (by decide) (fun hc55 => ?_) (fun hc55 => ?_)
              · rw [if_neg hc55] at h
                refine hz_iload hO dL_acts_263 3 rfl ?_
                exact hz_ls [2] rfl (gk54 v7_43 v8_44 v6_42 M45 h)
              · rw [if_pos hc55] at h
                refine hz_iload hO dL_acts_256 3 rfl ?_
                refine hz_iconst (v := (1 : Int32)) hO dL_acts_258 (by decide) ?_
                refine hz_isub hO dL_acts_259 ?_
                refine hz_goto (tgt := 265) hO dL_acts_260 (by decide) ?_
                exact hz_ls [2] rfl (gk54 v7_43 (v8_44 - (1 : Int32)) v6_42 M45 h)
            clear hk56
            refine hz_icmp_ne (tgt := 224) hO dL_acts_210 (by decide) (fun hc57 => ?_) (fun hc57 => ?_)
            · rw [if_neg hc57] at h
              refine hz_iload hO dL_acts_224 5 rfl ?_
              refine hz_bipush (v := (7 : Int32)) hO dL_acts_226 (by decide) ?_
              refine hz_icmp_ne (tgt := 240) hO dL_acts_228 (by decide) (fun hc58 => ?_) (fun hc58 => ?_)
              · rw [if_neg hc58] at h
                refine hz_aload_n hO dL_acts_240 rfl 3 rfl ?_
                refine hz_iload hO dL_acts_241 0 rfl ?_
                obtain ⟨M59, h_M59, h⟩ := hz_lm_e h
                refine hz_putIN (k := 7) (ty := .int) hO hz_K_11 tyX11_ok nmX11 hB.1 hB.2.1 rfl (Nat.le_of_ble_eq_true rfl) (List.mem_of_getElem? (i := 20) rfl) rfl rfl rfl rfl rfl dL_acts_243 ?_
                refine hz_nameM h_M59 ?_
                exact hz_ls [2, 5, 1, 0] rfl (gk56 v6_38 q39 x41 M59 h)
              · rw [if_pos hc58] at h
                refine hz_aload_n hO dL_acts_231 rfl 3 rfl ?_
                refine hz_iload hO dL_acts_232 0 rfl ?_
                obtain ⟨M60, h_M60, h⟩ := hz_lm_e h
                refine hz_putIN (k := 6) (ty := .int) hO hz_K_11 tyX11_ok nmX11 hB.1 hB.2.1 rfl (Nat.le_of_ble_eq_true rfl) (List.mem_of_getElem? (i := 19) rfl) rfl rfl rfl rfl rfl dL_acts_234 ?_
                refine hz_nameM h_M60 ?_
                refine hz_goto (tgt := 246) hO dL_acts_237 (by decide) ?_
                exact hz_ls [2, 5, 1, 0] rfl (gk56 v6_38 q39 x41 M60 h)
            · rw [if_pos hc57] at h
              refine hz_aload_n hO dL_acts_213 rfl 3 rfl ?_
              refine hz_iload hO dL_acts_214 0 rfl ?_
              refine hz_iconst (v := (1 : Int32)) hO dL_acts_216 (by decide) ?_
              refine hz_isub hO dL_acts_217 ?_
              obtain ⟨M61, h_M61, h⟩ := hz_lm_e h
              refine hz_putIN (k := 5) (ty := .int) hO hz_K_11 tyX11_ok nmX11 hB.1 hB.2.1 rfl (Nat.le_of_ble_eq_true rfl) (List.mem_of_getElem? (i := 18) rfl) rfl rfl rfl rfl rfl dL_acts_218 ?_
              refine hz_nameM h_M61 ?_
              refine hz_goto (tgt := 246) hO dL_acts_221 (by decide) ?_
              exact hz_ls [2, 5, 1, 0] rfl (gk56 v6_38 q39 x41 M61 h)
          clear hk62
          refine hz_icmp_ne (tgt := 175) hO dL_acts_165 (by decide) (fun hc63 => ?_) (fun hc63 => ?_)
          · rw [if_neg hc63] at h
            refine hz_iload hO dL_acts_175 0 rfl ?_
            refine hz_bipush (v := (7 : Int32)) hO dL_acts_177 (by decide) ?_
            refine hz_icmp_ne (tgt := 189) hO dL_acts_179 (by decide) (fun hc64 => ?_) (fun hc64 => ?_)
            · rw [if_neg hc64] at h
              refine hz_aload_n hO dL_acts_189 rfl 2 rfl ?_
              refine hz_getIN (k := 7) hO hz_K_11 hB.1 hB.2.1 rfl (Nat.le_of_ble_eq_true rfl) (List.mem_of_getElem? (i := 20) rfl) rfl dL_acts_190 ?_
              exact hz_ls [1, 2, 4, 0] rfl (gk62 v5_8 x36 (M9 b 7) M9 h)
            · rw [if_pos hc64] at h
              refine hz_aload_n hO dL_acts_182 rfl 2 rfl ?_
              refine hz_getIN (k := 6) hO hz_K_11 hB.1 hB.2.1 rfl (Nat.le_of_ble_eq_true rfl) (List.mem_of_getElem? (i := 19) rfl) rfl dL_acts_183 ?_
              refine hz_goto (tgt := 193) hO dL_acts_186 (by decide) ?_
              exact hz_ls [1, 2, 4, 0] rfl (gk62 v5_8 x36 (M9 b 6) M9 h)
          · rw [if_pos hc63] at h
            refine hz_aload_n hO dL_acts_168 rfl 2 rfl ?_
            refine hz_getIN (k := 5) hO hz_K_11 hB.1 hB.2.1 rfl (Nat.le_of_ble_eq_true rfl) (List.mem_of_getElem? (i := 18) rfl) rfl dL_acts_169 ?_
            refine hz_goto (tgt := 193) hO dL_acts_172 (by decide) ?_
            exact hz_ls [1, 2, 4, 0] rfl (gk62 v5_8 x36 (M9 b 5) M9 h)
      · rw [if_neg hc11] at h
        refine hz_iload hO dL_acts_87 3 rfl ?_
        refine hz_aload_n hO dL_acts_89 rfl 1 rfl ?_
        refine hz_getIN (k := 3) hO hz_K_11 hB.1 hB.2.1 rfl (Nat.le_of_ble_eq_true rfl) (List.mem_of_getElem? (i := 15) rfl) rfl dL_acts_90 ?_
        obtain ⟨hg65, h⟩ := hz_gd_e h
        refine hz_irem hO dL_acts_93 (hz_nz_e hg65) ?_
        obtain ⟨x66, h_x66, h⟩ := hz_lt_e h
        refine hz_name h_x66 ?_
        refine hz_istore (ls1 := [(6, .int x66), (0, .ref (hz_ad w 0)), (1, .ref (hz_ad w b)), (4, .int v4_7), (5, .int v5_8)]) hO dL_acts_94 (Nat.le_of_ble_eq_true rfl) rfl ?_
        refine hz_aload_n hO dL_acts_96 rfl 2 rfl ?_
        refine hz_getRN (k := 12) hO (b + 1) hz_K_11 hB.1 hB.2.1 rfl (Nat.le_of_ble_eq_true rfl) (List.mem_of_getElem? (i := 16) rfl) rfl dL_acts_97 ?_
        refine hz_iload hO dL_acts_100 0 rfl ?_
        obtain ⟨hg67, h⟩ := hz_gd_e h
        refine hz_iald hO hB.2.2.1 hB.2.2.2.1 hg67 dL_acts_102 ?_
        obtain ⟨x68, h_x68, h⟩ := hz_lt_e h
        refine hz_name h_x68 ?_
        refine hz_istore (ls1 := [(7, .int x68), (6, .int x66), (0, .ref (hz_ad w 0)), (1, .ref (hz_ad w b)), (4, .int v4_7), (5, .int v5_8)]) hO dL_acts_103 (Nat.le_of_ble_eq_true rfl) rfl ?_
        refine hz_aload_n hO dL_acts_105 rfl 3 rfl ?_
        refine hz_getRN (k := 12) hO (b + 1) hz_K_11 hB.1 hB.2.1 rfl (Nat.le_of_ble_eq_true rfl) (List.mem_of_getElem? (i := 16) rfl) rfl dL_acts_106 ?_
        refine hz_iload hO dL_acts_109 1 rfl ?_
        refine hz_iload hO dL_acts_111 5 rfl ?_
        refine hz_bipush (v := (7 : Int32)) hO dL_acts_113 (by decide) ?_
        refine hz_idiv hO dL_acts_115 (by decide) ?_
        refine hz_bipush (v := (10 : Int32)) hO dL_acts_116 (by decide) ?_
        refine hz_irem hO dL_acts_118 (by decide) ?_
        obtain ⟨hg69, h⟩ := hz_gd_e h
        obtain ⟨M70, h_M70, h⟩ := hz_lm_e h
        refine hz_iast hO hB.2.2.1 hB.2.2.2.1 hg69 dL_acts_119 ?_
        refine hz_nameM h_M70 ?_
        refine hz_aload_n hO dL_acts_120 rfl 2 rfl ?_
        refine hz_iload hO dL_acts_121 1 rfl ?_
        refine hz_iload hO dL_acts_123 5 rfl ?_
        refine hz_bipush (v := (7 : Int32)) hO dL_acts_125 (by decide) ?_
        refine hz_idiv hO dL_acts_127 (by decide) ?_
        refine hz_bipush (v := (10 : Int32)) hO dL_acts_128 (by decide) ?_
        refine hz_irem hO dL_acts_130 (by decide) ?_
        obtain ⟨r71, M72, hq73, h⟩ := hz_ct_e h
        refine hz_callVi (as := [.int x66, .int ((v5_8 / (7 : Int32)) - (v5_8 / (7 : Int32)) / (10 : Int32) * (10 : Int32))]) (rest := []) hO (c_X10_valve l w hN x66 ((v5_8 / (7 : Int32)) - (v5_8 / (7 : Int32)) / (10 : Int32) * (10 : Int32)) hq73) hz_cal_X10_valve hz_K_10 hz_sh_0 (hz_lt_0 hN) tw_6_81 (Nat.le_of_ble_eq_true rfl) rfl rfl (Nat.le_of_ble_eq_true rfl) dL_acts_131 ?_
        refine hz_iload hO dL_acts_134 0 rfl ?_
        refine hz_icmp_ne (tgt := 143) hO dL_acts_136 (by decide) (fun hc74 => ?_) (fun hc74 => ?_)
        · rw [if_neg hc74] at h
          refine hz_iconst (v := (0 : Int32)) hO dL_acts_143 (by decide) ?_
          exact hz_nameM (hz_some_e h).2.symm (hz_name (hz_some_e h).1.symm (hz_iret hO dL_acts_144))
        · rw [if_pos hc74] at h
          refine hz_iconst (v := (1 : Int32)) hO dL_acts_139 (by decide) ?_
          refine hz_goto (tgt := 144) hO dL_acts_140 (by decide) ?_
          exact hz_nameM (hz_some_e h).2.symm (hz_name (hz_some_e h).1.symm (hz_iret hO dL_acts_144))
    · rw [if_pos hc10] at h
      refine hz_aload_n hO dL_acts_63 rfl 0 rfl ?_
      obtain ⟨r75, M76, hq77, h⟩ := hz_ct_e h
      refine hz_callVi (as := []) (rest := []) hO (c_X10_wash l w hN hq77) hz_cal_X10_wash hz_K_10 hz_sh_0 (hz_lt_0 hN) tw_6_70 (Nat.le_of_ble_eq_true rfl) rfl rfl (Nat.le_of_ble_eq_true rfl) dL_acts_64 ?_
      refine hz_aload_n hO dL_acts_67 rfl 1 rfl ?_
      obtain ⟨r78, M79, hq80, h⟩ := hz_ct_e h
      refine hz_callVi (as := []) (rest := [.int r75]) hO (c_X11_washes l w hN hB hq80) hz_cal_X11_washes hz_K_11 hB.1 hB.2.1 tw_6_76 (Nat.le_of_ble_eq_true rfl) rfl rfl (Nat.le_of_ble_eq_true rfl) dL_acts_68 ?_
      refine hz_icmp_ne (tgt := 78) hO dL_acts_71 (by decide) (fun hc81 => ?_) (fun hc81 => ?_)
      · rw [if_neg hc81] at h
        refine hz_iconst (v := (0 : Int32)) hO dL_acts_78 (by decide) ?_
        exact hz_nameM (hz_some_e h).2.symm (hz_name (hz_some_e h).1.symm (hz_iret hO dL_acts_79))
      · rw [if_pos hc81] at h
        refine hz_iconst (v := (1 : Int32)) hO dL_acts_74 (by decide) ?_
        refine hz_goto (tgt := 79) hO dL_acts_75 (by decide) ?_
        exact hz_nameM (hz_some_e h).2.symm (hz_name (hz_some_e h).1.symm (hz_iret hO dL_acts_79))
  clear hk82
  refine hz_icmp_ge (tgt := 56) hO dL_acts_25 (by decide) (fun hc83 => ?_) (fun hc83 => ?_)
  · rw [if_pos hc83] at h
    exact hz_ls [2, 3, 1, 0] rfl (gk82 r1 r4 M5 h)
  · rw [if_neg hc83] at h
    refine hz_aload_n hO dL_acts_28 rfl 3 rfl ?_
    refine hz_getIN (k := 10) hO hz_K_11 hB.1 hB.2.1 rfl (Nat.le_of_ble_eq_true rfl) (List.mem_of_getElem? (i := 8) rfl) rfl dL_acts_29 ?_
    refine hz_if_le (tgt := 56) hO dL_acts_32 (by decide) (fun hc84 => ?_) (fun hc84 => ?_)
    · rw [if_pos hc84] at h
      exact hz_ls [2, 3, 1, 0] rfl (gk82 r1 r4 M5 h)
    · rw [if_neg hc84] at h
      refine hz_aload_n hO dL_acts_35 rfl 2 rfl ?_
      refine hz_aload_n hO dL_acts_36 rfl 3 rfl ?_
      refine hz_iload hO dL_acts_37 1 rfl ?_
      refine hz_aload_n hO dL_acts_39 rfl 4 rfl ?_
      refine hz_iload_n hO dL_acts_40 rfl 5 rfl ?_
      refine hz_iconst (v := (2 : Int32)) hO dL_acts_41 (by decide) ?_
      refine hz_iadd hO dL_acts_42 ?_
      refine hz_aload_n hO dL_acts_43 rfl 3 rfl ?_
      refine hz_getIN (k := 10) hO hz_K_11 hB.1 hB.2.1 rfl (Nat.le_of_ble_eq_true rfl) (List.mem_of_getElem? (i := 8) rfl) rfl dL_acts_44 ?_
      obtain ⟨r85, M86, hq87, h⟩ := hz_ct_e h
      refine hz_callSi (as := [.ref (hz_scb w), .int (a3 + (2 : Int32)), .int (M5 b 10)]) (rest := [.int r1, .ref (hz_ad w b), .ref (hz_ad w 0)]) hO (c_L_pick l w hN hsc (a3 + (2 : Int32)) (M5 b 10) hq87) hz_cal_L_pick tw_4_39 (Nat.le_of_ble_eq_true rfl) rfl rfl (Nat.le_of_ble_eq_true rfl) dL_acts_47 ?_
      refine hz_iload hO dL_acts_50 0 rfl ?_
      obtain ⟨r88, M89, hq90, h⟩ := hz_ct_e h
      refine hz_callSi (as := [.ref (hz_ad w 0), .ref (hz_ad w b), .int r1, .int r85, .int r4]) (rest := []) hO (c_L_deeds l w hN hB r1 r85 r4 hq90) hz_cal_L_deeds tw_5_141 (Nat.le_of_ble_eq_true rfl) rfl rfl (Nat.le_of_ble_eq_true rfl) dL_acts_52 ?_
      exact hz_nameM (hz_some_e h).2.symm (hz_name (hz_some_e h).1.symm (hz_iret hO dL_acts_55))
