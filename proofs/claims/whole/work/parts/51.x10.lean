-- X10_need X10_size X10_guest X10_towel X10_peg X10_locker X10_opening X10_step X10_letter X10_why X10_highest X10_account X10_heatIn X10_downIn X10_dryIn X10_ifValve X10_enter X10_sit X10_hall X10_hang X10_take X10_leave X10_speak X10_valve X10_waits X10_set X10_save X10_restore
def fx_X10_need (a0 : Int32) (M : hz_M) : hz_O :=
  if a0 = 0 then
    some (1, M)
  else
    none
set_option maxRecDepth 100000 in
set_option maxHeartbeats 4000000 in
theorem cx_X10_need (l : Launch) (hl : l.stackTraces = false) (w : hz_C) {N : Nat} (hN : 178 ≤ N) (a0 : Int32) {M : hz_M} {rE : Int32} {ME : hz_M} (h : fx_X10_need a0 M = some (rE, ME)) : hz_Cx l yX10_need cX10_need 1 none 6 w N [.int a0] M rE ME := by
  refine hz_ofX (by decide) rfl (Nat.le_of_ble_eq_true rfl) tw_5_113 ?_
  intro p e s m args below meth c hO hxt
  show hz_G p l e 6 hz_z1 s m args below meth c w N 1 _ M 0 [(0, .int a0)] []
  unfold fx_X10_need at h
  refine hz_iload_n hO dX10_need_0 rfl 0 rfl ?_
  refine hz_if_ne (tgt := 15) hO dX10_need_1 (by decide) (fun hc1 => ?_) (fun hc1 => ?_)
  · rw [if_neg hc1] at h
    cases h
  · rw [if_pos hc1] at h
    refine hz_nameX (hz_some_e h).1 (hz_some_e h).2 ?_
    exact hz_thrW (i := 19) hl hO hxt (by decide) (by decide +kernel) tw_5_37 tw_1_24 (List.mem_of_getElem? (i := 5) rfl) hz_AT_202 hz_ot_202 (Nat.le_of_ble_eq_true rfl) (Nat.le_of_ble_eq_true rfl) dX10_need_4 dX10_need_7 dX10_need_8 dX10_need_11 dX10_need_14
def fx_X10_size (a1 : Int32) (M : hz_M) : hz_O :=
  if a1 = 0 then
    none
  else
  if a1 = 1 then
    none
  else
  if a1 = 2 then
    none
  else
  if a1 = 3 then
    none
  else
  if a1 = 4 then
    none
  else
  if a1 = 5 then
    none
  else
  if a1 = 6 then
    none
  else
  if a1 = 7 then
    none
  else
  if a1 = 8 then
    none
  else
  if a1 = 9 then
    none
  else
  if a1 = 10 then
    none
  else
  if a1 = 11 then
    none
  else
  if a1 = 12 then
    none
  else
  if a1 = 13 then
    none
  else
  if a1 = 14 then
    none
  else
  if a1 = 15 then
    none
  else
  if a1 = 16 then
    none
  else
  some (1, M)
set_option maxRecDepth 100000 in
set_option maxHeartbeats 4000000 in
theorem cx_X10_size (l : Launch) (hl : l.stackTraces = false) (w : hz_C) {N : Nat} (hN : 178 ≤ N) (a1 : Int32) {M : hz_M} {rE : Int32} {ME : hz_M} (h : fx_X10_size a1 M = some (rE, ME)) : hz_Cx l yX10_size cX10_size 2 (some .int) 6 w N [.ref (hz_ad w 0), .int a1] M rE ME := by
  refine hz_ofX (by decide) rfl (Nat.le_of_ble_eq_true rfl) tw_5_35 ?_
  intro p e s m args below meth c hO hxt
  show hz_G p l e 6 hz_z1 s m args below meth c w N 2 _ M 0 [(0, .ref (hz_ad w 0)), (1, .int a1)] []
  unfold fx_X10_size at h
  refine hz_iload_n hO dX10_size_0 rfl 1 rfl ?_
  by_cases hc1 : a1 = (0 : Int32)
  · rw [if_pos hc1] at h
    refine hz_tin (tgt := 84) hO hc1 dX10_size_1 (by decide) (by decide) rfl (by decide) ?_
    cases h
  · rw [if_neg hc1] at h
    by_cases hc2 : a1 = (1 : Int32)
    · rw [if_pos hc2] at h
      refine hz_tin (tgt := 92) hO hc2 dX10_size_1 (by decide) (by decide) rfl (by decide) ?_
      cases h
    · rw [if_neg hc2] at h
      by_cases hc3 : a1 = (2 : Int32)
      · rw [if_pos hc3] at h
        refine hz_tin (tgt := 100) hO hc3 dX10_size_1 (by decide) (by decide) rfl (by decide) ?_
        cases h
      · rw [if_neg hc3] at h
        by_cases hc4 : a1 = (3 : Int32)
        · rw [if_pos hc4] at h
          refine hz_tin (tgt := 108) hO hc4 dX10_size_1 (by decide) (by decide) rfl (by decide) ?_
          cases h
        · rw [if_neg hc4] at h
          by_cases hc5 : a1 = (4 : Int32)
          · rw [if_pos hc5] at h
            refine hz_tin (tgt := 116) hO hc5 dX10_size_1 (by decide) (by decide) rfl (by decide) ?_
            cases h
          · rw [if_neg hc5] at h
            by_cases hc6 : a1 = (5 : Int32)
            · rw [if_pos hc6] at h
              refine hz_tin (tgt := 124) hO hc6 dX10_size_1 (by decide) (by decide) rfl (by decide) ?_
              cases h
            · rw [if_neg hc6] at h
              by_cases hc7 : a1 = (6 : Int32)
              · rw [if_pos hc7] at h
                refine hz_tin (tgt := 132) hO hc7 dX10_size_1 (by decide) (by decide) rfl (by decide) ?_
                cases h
              · rw [if_neg hc7] at h
                by_cases hc8 : a1 = (7 : Int32)
                · rw [if_pos hc8] at h
                  refine hz_tin (tgt := 140) hO hc8 dX10_size_1 (by decide) (by decide) rfl (by decide) ?_
                  cases h
                · rw [if_neg hc8] at h
                  by_cases hc9 : a1 = (8 : Int32)
                  · rw [if_pos hc9] at h
                    refine hz_tin (tgt := 148) hO hc9 dX10_size_1 (by decide) (by decide) rfl (by decide) ?_
                    cases h
                  · rw [if_neg hc9] at h
                    by_cases hc10 : a1 = (9 : Int32)
                    · rw [if_pos hc10] at h
                      refine hz_tin (tgt := 156) hO hc10 dX10_size_1 (by decide) (by decide) rfl (by decide) ?_
                      cases h
                    · rw [if_neg hc10] at h
                      by_cases hc11 : a1 = (10 : Int32)
                      · rw [if_pos hc11] at h
                        refine hz_tin (tgt := 164) hO hc11 dX10_size_1 (by decide) (by decide) rfl (by decide) ?_
                        cases h
                      · rw [if_neg hc11] at h
                        by_cases hc12 : a1 = (11 : Int32)
                        · rw [if_pos hc12] at h
                          refine hz_tin (tgt := 172) hO hc12 dX10_size_1 (by decide) (by decide) rfl (by decide) ?_
                          cases h
                        · rw [if_neg hc12] at h
                          by_cases hc13 : a1 = (12 : Int32)
                          · rw [if_pos hc13] at h
                            refine hz_tin (tgt := 180) hO hc13 dX10_size_1 (by decide) (by decide) rfl (by decide) ?_
                            cases h
                          · rw [if_neg hc13] at h
                            by_cases hc14 : a1 = (13 : Int32)
                            · rw [if_pos hc14] at h
                              refine hz_tin (tgt := 197) hO hc14 dX10_size_1 (by decide) (by decide) rfl (by decide) ?_
                              cases h
                            · rw [if_neg hc14] at h
                              by_cases hc15 : a1 = (14 : Int32)
                              · rw [if_pos hc15] at h
                                refine hz_tin (tgt := 205) hO hc15 dX10_size_1 (by decide) (by decide) rfl (by decide) ?_
                                cases h
                              · rw [if_neg hc15] at h
                                by_cases hc16 : a1 = (15 : Int32)
                                · rw [if_pos hc16] at h
                                  refine hz_tin (tgt := 221) hO hc16 dX10_size_1 (by decide) (by decide) rfl (by decide) ?_
                                  cases h
                                · rw [if_neg hc16] at h
                                  by_cases hc17 : a1 = (16 : Int32)
                                  · rw [if_pos hc17] at h
                                    refine hz_tin (tgt := 237) hO hc17 dX10_size_1 (by decide) (by decide) rfl (by decide) ?_
                                    cases h
                                  · rw [if_neg hc17] at h
                                    have hn0 : ¬ a1.toInt = 0 := lv_neT hc1 rfl
                                    have hn1 : ¬ a1.toInt = 1 := lv_neT hc2 rfl
                                    have hn2 : ¬ a1.toInt = 2 := lv_neT hc3 rfl
                                    have hn3 : ¬ a1.toInt = 3 := lv_neT hc4 rfl
                                    have hn4 : ¬ a1.toInt = 4 := lv_neT hc5 rfl
                                    have hn5 : ¬ a1.toInt = 5 := lv_neT hc6 rfl
                                    have hn6 : ¬ a1.toInt = 6 := lv_neT hc7 rfl
                                    have hn7 : ¬ a1.toInt = 7 := lv_neT hc8 rfl
                                    have hn8 : ¬ a1.toInt = 8 := lv_neT hc9 rfl
                                    have hn9 : ¬ a1.toInt = 9 := lv_neT hc10 rfl
                                    have hn10 : ¬ a1.toInt = 10 := lv_neT hc11 rfl
                                    have hn11 : ¬ a1.toInt = 11 := lv_neT hc12 rfl
                                    have hn12 : ¬ a1.toInt = 12 := lv_neT hc13 rfl
                                    have hn13 : ¬ a1.toInt = 13 := lv_neT hc14 rfl
                                    have hn14 : ¬ a1.toInt = 14 := lv_neT hc15 rfl
                                    have hn15 : ¬ a1.toInt = 15 := lv_neT hc16 rfl
                                    have hn16 : ¬ a1.toInt = 16 := lv_neT hc17 rfl
                                    refine hz_tout (tgt := 245) hO dX10_size_1 (by omega) (by decide) ?_
                                    refine hz_nameX (hz_some_e h).1 (hz_some_e h).2 ?_
                                    exact hz_thr (i := 14) hl hO hxt (by decide) (by decide +kernel) tw_5_37 tw_1_24 (List.mem_of_getElem? (i := 0) rfl) hz_AT_202 hz_ot_202 (Nat.le_of_ble_eq_true rfl) (Nat.le_of_ble_eq_true rfl) dX10_size_245 dX10_size_248 dX10_size_249 dX10_size_251 dX10_size_254
def fx_X10_guest (a1 : Int32) (a2 : Int32) (M : hz_M) : hz_O :=
  hz_ct (f_X3_isGuest a1 M) fun r1 M2 =>
  hz_xt (f_X10_need r1 M2) (fx_X10_need r1 M2) fun r4 M5 =>
    if a2 = 0 then
      none
    else
    if a2 = 1 then
      none
    else
    if a2 = 2 then
      none
    else
    if a2 = 3 then
      none
    else
    if a2 = 4 then
      none
    else
    if a2 = 5 then
      none
    else
    if a2 = 6 then
      none
    else
    if a2 = 7 then
      none
    else
    if a2 = 8 then
      none
    else
    some (1, M5)
set_option maxRecDepth 100000 in
set_option maxHeartbeats 4000000 in
theorem cx_X10_guest (l : Launch) (hl : l.stackTraces = false) (w : hz_C) {N : Nat} (hN : 178 ≤ N) (a1 : Int32) (a2 : Int32) {M : hz_M} {rE : Int32} {ME : hz_M} (h : fx_X10_guest a1 a2 M = some (rE, ME)) : hz_Cx l yX10_guest cX10_guest 3 (some .int) 7 w N [.ref (hz_ad w 0), .int a1, .int a2] M rE ME := by
  refine hz_ofX (by decide) rfl (Nat.le_of_ble_eq_true rfl) tw_5_109 ?_
  intro p e s m args below meth c hO hxt
  show hz_G p l e 7 hz_z1 s m args below meth c w N 3 _ M 0 [(0, .ref (hz_ad w 0)), (1, .int a1), (2, .int a2)] []
  unfold fx_X10_guest at h
  refine hz_aload_n hO dX10_guest_0 rfl 0 rfl ?_
  refine hz_getR (k := 0) hO 1 hz_K_8 hz_sh_0 (hz_lt_0 hN) rfl (Nat.le_of_ble_eq_true rfl) tw_3_43 rfl dX10_guest_1 ?_
  refine hz_iload_n hO dX10_guest_4 rfl 1 rfl ?_
  obtain ⟨r1, M2, hq3, h⟩ := hz_ct_e h
  refine hz_callVi (as := [.int a1]) (rest := []) hO (c_X3_isGuest l w hN a1 hq3) hz_cal_X3_isGuest hz_K_2 hz_sh_1 (hz_lt_1 hN) tw_5_110 (Nat.le_of_ble_eq_true rfl) rfl rfl (Nat.le_of_ble_eq_true rfl) dX10_guest_5 ?_
  rcases hz_xt_e h with ⟨r4, M5, hq6, h⟩ | hx7
  · refine hz_callSv (as := [.int r1]) (rest := []) hO (c_X10_need l w hN r1 hq6) hz_cal_X10_need tw_5_111 (Nat.le_of_ble_eq_true rfl) rfl rfl (Nat.le_of_ble_eq_true rfl) dX10_guest_8 ?_
    refine hz_iload_n hO dX10_guest_11 rfl 2 rfl ?_
    by_cases hc8 : a2 = (0 : Int32)
    · rw [if_pos hc8] at h
      refine hz_tin (tgt := 64) hO hc8 dX10_guest_12 (by decide) (by decide) rfl (by decide) ?_
      cases h
    · rw [if_neg hc8] at h
      by_cases hc9 : a2 = (1 : Int32)
      · rw [if_pos hc9] at h
        refine hz_tin (tgt := 74) hO hc9 dX10_guest_12 (by decide) (by decide) rfl (by decide) ?_
        cases h
      · rw [if_neg hc9] at h
        by_cases hc10 : a2 = (2 : Int32)
        · rw [if_pos hc10] at h
          refine hz_tin (tgt := 84) hO hc10 dX10_guest_12 (by decide) (by decide) rfl (by decide) ?_
          cases h
        · rw [if_neg hc10] at h
          by_cases hc11 : a2 = (3 : Int32)
          · rw [if_pos hc11] at h
            refine hz_tin (tgt := 94) hO hc11 dX10_guest_12 (by decide) (by decide) rfl (by decide) ?_
            cases h
          · rw [if_neg hc11] at h
            by_cases hc12 : a2 = (4 : Int32)
            · rw [if_pos hc12] at h
              refine hz_tin (tgt := 104) hO hc12 dX10_guest_12 (by decide) (by decide) rfl (by decide) ?_
              cases h
            · rw [if_neg hc12] at h
              by_cases hc13 : a2 = (5 : Int32)
              · rw [if_pos hc13] at h
                refine hz_tin (tgt := 114) hO hc13 dX10_guest_12 (by decide) (by decide) rfl (by decide) ?_
                cases h
              · rw [if_neg hc13] at h
                by_cases hc14 : a2 = (6 : Int32)
                · rw [if_pos hc14] at h
                  refine hz_tin (tgt := 124) hO hc14 dX10_guest_12 (by decide) (by decide) rfl (by decide) ?_
                  cases h
                · rw [if_neg hc14] at h
                  by_cases hc15 : a2 = (7 : Int32)
                  · rw [if_pos hc15] at h
                    refine hz_tin (tgt := 133) hO hc15 dX10_guest_12 (by decide) (by decide) rfl (by decide) ?_
                    cases h
                  · rw [if_neg hc15] at h
                    by_cases hc16 : a2 = (8 : Int32)
                    · rw [if_pos hc16] at h
                      refine hz_tin (tgt := 142) hO hc16 dX10_guest_12 (by decide) (by decide) rfl (by decide) ?_
                      cases h
                    · rw [if_neg hc16] at h
                      have hn0 : ¬ a2.toInt = 0 := lv_neT hc8 rfl
                      have hn1 : ¬ a2.toInt = 1 := lv_neT hc9 rfl
                      have hn2 : ¬ a2.toInt = 2 := lv_neT hc10 rfl
                      have hn3 : ¬ a2.toInt = 3 := lv_neT hc11 rfl
                      have hn4 : ¬ a2.toInt = 4 := lv_neT hc12 rfl
                      have hn5 : ¬ a2.toInt = 5 := lv_neT hc13 rfl
                      have hn6 : ¬ a2.toInt = 6 := lv_neT hc14 rfl
                      have hn7 : ¬ a2.toInt = 7 := lv_neT hc15 rfl
                      have hn8 : ¬ a2.toInt = 8 := lv_neT hc16 rfl
                      refine hz_tout (tgt := 152) hO dX10_guest_12 (by omega) (by decide) ?_
                      refine hz_nameX (hz_some_e h).1 (hz_some_e h).2 ?_
                      exact hz_thr (i := 15) hl hO hxt (by decide) (by decide +kernel) tw_5_37 tw_1_24 (List.mem_of_getElem? (i := 1) rfl) hz_AT_202 hz_ot_202 (Nat.le_of_ble_eq_true rfl) (Nat.le_of_ble_eq_true rfl) dX10_guest_152 dX10_guest_155 dX10_guest_156 dX10_guest_158 dX10_guest_161
  · exact hz_xS (as := [.int r1]) (rest := []) hO hxt (cx_X10_need l hl w hN r1 hx7) hz_cal_X10_need tw_5_111 (Nat.le_of_ble_eq_true rfl) rfl rfl (Nat.le_of_ble_eq_true rfl) dX10_guest_8
def fx_X10_towel (a1 : Int32) (a2 : Int32) (M : hz_M) : hz_O :=
  hz_ct (f_X3_isTowel a1 M) fun r1 M2 =>
  hz_xt (f_X10_need r1 M2) (fx_X10_need r1 M2) fun r4 M5 =>
    if a2 = 0 then
      none
    else
    if a2 = 1 then
      none
    else
    if a2 = 2 then
      none
    else
    if a2 = 3 then
      none
    else
    some (1, M5)
set_option maxRecDepth 100000 in
set_option maxHeartbeats 4000000 in
theorem cx_X10_towel (l : Launch) (hl : l.stackTraces = false) (w : hz_C) {N : Nat} (hN : 178 ≤ N) (a1 : Int32) (a2 : Int32) {M : hz_M} {rE : Int32} {ME : hz_M} (h : fx_X10_towel a1 a2 M = some (rE, ME)) : hz_Cx l yX10_towel cX10_towel 3 (some .int) 7 w N [.ref (hz_ad w 0), .int a1, .int a2] M rE ME := by
  refine hz_ofX (by decide) rfl (Nat.le_of_ble_eq_true rfl) tw_5_127 ?_
  intro p e s m args below meth c hO hxt
  show hz_G p l e 7 hz_z1 s m args below meth c w N 3 _ M 0 [(0, .ref (hz_ad w 0)), (1, .int a1), (2, .int a2)] []
  unfold fx_X10_towel at h
  refine hz_aload_n hO dX10_towel_0 rfl 0 rfl ?_
  refine hz_getR (k := 0) hO 1 hz_K_8 hz_sh_0 (hz_lt_0 hN) rfl (Nat.le_of_ble_eq_true rfl) tw_3_43 rfl dX10_towel_1 ?_
  refine hz_iload_n hO dX10_towel_4 rfl 1 rfl ?_
  obtain ⟨r1, M2, hq3, h⟩ := hz_ct_e h
  refine hz_callVi (as := [.int a1]) (rest := []) hO (c_X3_isTowel l w hN a1 hq3) hz_cal_X3_isTowel hz_K_2 hz_sh_1 (hz_lt_1 hN) tw_5_128 (Nat.le_of_ble_eq_true rfl) rfl rfl (Nat.le_of_ble_eq_true rfl) dX10_towel_5 ?_
  rcases hz_xt_e h with ⟨r4, M5, hq6, h⟩ | hx7
  · refine hz_callSv (as := [.int r1]) (rest := []) hO (c_X10_need l w hN r1 hq6) hz_cal_X10_need tw_5_111 (Nat.le_of_ble_eq_true rfl) rfl rfl (Nat.le_of_ble_eq_true rfl) dX10_towel_8 ?_
    refine hz_iload_n hO dX10_towel_11 rfl 2 rfl ?_
    by_cases hc8 : a2 = (0 : Int32)
    · rw [if_pos hc8] at h
      refine hz_tin (tgt := 44) hO hc8 dX10_towel_12 (by decide) (by decide) rfl (by decide) ?_
      cases h
    · rw [if_neg hc8] at h
      by_cases hc9 : a2 = (1 : Int32)
      · rw [if_pos hc9] at h
        refine hz_tin (tgt := 54) hO hc9 dX10_towel_12 (by decide) (by decide) rfl (by decide) ?_
        cases h
      · rw [if_neg hc9] at h
        by_cases hc10 : a2 = (2 : Int32)
        · rw [if_pos hc10] at h
          refine hz_tin (tgt := 64) hO hc10 dX10_towel_12 (by decide) (by decide) rfl (by decide) ?_
          cases h
        · rw [if_neg hc10] at h
          by_cases hc11 : a2 = (3 : Int32)
          · rw [if_pos hc11] at h
            refine hz_tin (tgt := 74) hO hc11 dX10_towel_12 (by decide) (by decide) rfl (by decide) ?_
            cases h
          · rw [if_neg hc11] at h
            have hn0 : ¬ a2.toInt = 0 := lv_neT hc8 rfl
            have hn1 : ¬ a2.toInt = 1 := lv_neT hc9 rfl
            have hn2 : ¬ a2.toInt = 2 := lv_neT hc10 rfl
            have hn3 : ¬ a2.toInt = 3 := lv_neT hc11 rfl
            refine hz_tout (tgt := 91) hO dX10_towel_12 (by omega) (by decide) ?_
            refine hz_nameX (hz_some_e h).1 (hz_some_e h).2 ?_
            exact hz_thrW (i := 16) hl hO hxt (by decide) (by decide +kernel) tw_5_37 tw_1_24 (List.mem_of_getElem? (i := 2) rfl) hz_AT_202 hz_ot_202 (Nat.le_of_ble_eq_true rfl) (Nat.le_of_ble_eq_true rfl) dX10_towel_91 dX10_towel_94 dX10_towel_95 dX10_towel_98 dX10_towel_101
  · exact hz_xS (as := [.int r1]) (rest := []) hO hxt (cx_X10_need l hl w hN r1 hx7) hz_cal_X10_need tw_5_111 (Nat.le_of_ble_eq_true rfl) rfl rfl (Nat.le_of_ble_eq_true rfl) dX10_towel_8
def fx_X10_peg (a1 : Int32) (M : hz_M) : hz_O :=
  hz_ct (f_X3_isPeg a1 M) fun r1 M2 =>
  hz_xt (f_X10_need r1 M2) (fx_X10_need r1 M2) fun r4 M5 =>
    none
set_option maxRecDepth 100000 in
set_option maxHeartbeats 4000000 in
theorem cx_X10_peg (l : Launch) (hl : l.stackTraces = false) (w : hz_C) {N : Nat} (hN : 178 ≤ N) (a1 : Int32) {M : hz_M} {rE : Int32} {ME : hz_M} (h : fx_X10_peg a1 M = some (rE, ME)) : hz_Cx l yX10_peg cX10_peg 2 (some .int) 7 w N [.ref (hz_ad w 0), .int a1] M rE ME := by
  refine hz_ofX (by decide) rfl (Nat.le_of_ble_eq_true rfl) tw_5_137 ?_
  intro p e s m args below meth c hO hxt
  show hz_G p l e 7 hz_z1 s m args below meth c w N 2 _ M 0 [(0, .ref (hz_ad w 0)), (1, .int a1)] []
  unfold fx_X10_peg at h
  refine hz_aload_n hO dX10_peg_0 rfl 0 rfl ?_
  refine hz_getR (k := 0) hO 1 hz_K_8 hz_sh_0 (hz_lt_0 hN) rfl (Nat.le_of_ble_eq_true rfl) tw_3_43 rfl dX10_peg_1 ?_
  refine hz_iload_n hO dX10_peg_4 rfl 1 rfl ?_
  obtain ⟨r1, M2, hq3, h⟩ := hz_ct_e h
  refine hz_callVi (as := [.int a1]) (rest := []) hO (c_X3_isPeg l w hN a1 hq3) hz_cal_X3_isPeg hz_K_2 hz_sh_1 (hz_lt_1 hN) tw_5_138 (Nat.le_of_ble_eq_true rfl) rfl rfl (Nat.le_of_ble_eq_true rfl) dX10_peg_5 ?_
  rcases hz_xt_e h with ⟨r4, M5, hq6, h⟩ | hx7
  · refine hz_callSv (as := [.int r1]) (rest := []) hO (c_X10_need l w hN r1 hq6) hz_cal_X10_need tw_5_111 (Nat.le_of_ble_eq_true rfl) rfl rfl (Nat.le_of_ble_eq_true rfl) dX10_peg_8 ?_
    cases h
  · exact hz_xS (as := [.int r1]) (rest := []) hO hxt (cx_X10_need l hl w hN r1 hx7) hz_cal_X10_need tw_5_111 (Nat.le_of_ble_eq_true rfl) rfl rfl (Nat.le_of_ble_eq_true rfl) dX10_peg_8
def fx_X10_locker (a1 : Int32) (M : hz_M) : hz_O :=
  hz_ct (f_X3_isLocker a1 M) fun r1 M2 =>
  hz_xt (f_X10_need r1 M2) (fx_X10_need r1 M2) fun r4 M5 =>
    none
set_option maxRecDepth 100000 in
set_option maxHeartbeats 4000000 in
theorem cx_X10_locker (l : Launch) (hl : l.stackTraces = false) (w : hz_C) {N : Nat} (hN : 178 ≤ N) (a1 : Int32) {M : hz_M} {rE : Int32} {ME : hz_M} (h : fx_X10_locker a1 M = some (rE, ME)) : hz_Cx l yX10_locker cX10_locker 2 (some .int) 7 w N [.ref (hz_ad w 0), .int a1] M rE ME := by
  refine hz_ofX (by decide) rfl (Nat.le_of_ble_eq_true rfl) tw_5_145 ?_
  intro p e s m args below meth c hO hxt
  show hz_G p l e 7 hz_z1 s m args below meth c w N 2 _ M 0 [(0, .ref (hz_ad w 0)), (1, .int a1)] []
  unfold fx_X10_locker at h
  refine hz_aload_n hO dX10_locker_0 rfl 0 rfl ?_
  refine hz_getR (k := 0) hO 1 hz_K_8 hz_sh_0 (hz_lt_0 hN) rfl (Nat.le_of_ble_eq_true rfl) tw_3_43 rfl dX10_locker_1 ?_
  refine hz_iload_n hO dX10_locker_4 rfl 1 rfl ?_
  obtain ⟨r1, M2, hq3, h⟩ := hz_ct_e h
  refine hz_callVi (as := [.int a1]) (rest := []) hO (c_X3_isLocker l w hN a1 hq3) hz_cal_X3_isLocker hz_K_2 hz_sh_1 (hz_lt_1 hN) tw_5_146 (Nat.le_of_ble_eq_true rfl) rfl rfl (Nat.le_of_ble_eq_true rfl) dX10_locker_5 ?_
  rcases hz_xt_e h with ⟨r4, M5, hq6, h⟩ | hx7
  · refine hz_callSv (as := [.int r1]) (rest := []) hO (c_X10_need l w hN r1 hq6) hz_cal_X10_need tw_5_111 (Nat.le_of_ble_eq_true rfl) rfl rfl (Nat.le_of_ble_eq_true rfl) dX10_locker_8 ?_
    cases h
  · exact hz_xS (as := [.int r1]) (rest := []) hO hxt (cx_X10_need l hl w hN r1 hx7) hz_cal_X10_need tw_5_111 (Nat.le_of_ble_eq_true rfl) rfl rfl (Nat.le_of_ble_eq_true rfl) dX10_locker_8
def fx_X10_opening (a1 : Int32) (M : hz_M) : hz_O :=
  hz_ct (f_X3_isValve a1 M) fun r1 M2 =>
  hz_xt (f_X10_need r1 M2) (fx_X10_need r1 M2) fun r4 M5 =>
    none
set_option maxRecDepth 100000 in
set_option maxHeartbeats 4000000 in
theorem cx_X10_opening (l : Launch) (hl : l.stackTraces = false) (w : hz_C) {N : Nat} (hN : 178 ≤ N) (a1 : Int32) {M : hz_M} {rE : Int32} {ME : hz_M} (h : fx_X10_opening a1 M = some (rE, ME)) : hz_Cx l yX10_opening cX10_opening 2 (some .int) 7 w N [.ref (hz_ad w 0), .int a1] M rE ME := by
  refine hz_ofX (by decide) rfl (Nat.le_of_ble_eq_true rfl) tw_5_153 ?_
  intro p e s m args below meth c hO hxt
  show hz_G p l e 7 hz_z1 s m args below meth c w N 2 _ M 0 [(0, .ref (hz_ad w 0)), (1, .int a1)] []
  unfold fx_X10_opening at h
  refine hz_aload_n hO dX10_opening_0 rfl 0 rfl ?_
  refine hz_getR (k := 0) hO 1 hz_K_8 hz_sh_0 (hz_lt_0 hN) rfl (Nat.le_of_ble_eq_true rfl) tw_3_43 rfl dX10_opening_1 ?_
  refine hz_iload_n hO dX10_opening_4 rfl 1 rfl ?_
  obtain ⟨r1, M2, hq3, h⟩ := hz_ct_e h
  refine hz_callVi (as := [.int a1]) (rest := []) hO (c_X3_isValve l w hN a1 hq3) hz_cal_X3_isValve hz_K_2 hz_sh_1 (hz_lt_1 hN) tw_5_154 (Nat.le_of_ble_eq_true rfl) rfl rfl (Nat.le_of_ble_eq_true rfl) dX10_opening_5 ?_
  rcases hz_xt_e h with ⟨r4, M5, hq6, h⟩ | hx7
  · refine hz_callSv (as := [.int r1]) (rest := []) hO (c_X10_need l w hN r1 hq6) hz_cal_X10_need tw_5_111 (Nat.le_of_ble_eq_true rfl) rfl rfl (Nat.le_of_ble_eq_true rfl) dX10_opening_8 ?_
    cases h
  · exact hz_xS (as := [.int r1]) (rest := []) hO hxt (cx_X10_need l hl w hN r1 hx7) hz_cal_X10_need tw_5_111 (Nat.le_of_ble_eq_true rfl) rfl rfl (Nat.le_of_ble_eq_true rfl) dX10_opening_8
def fx_X10_step (a1 : Int32) (a2 : Int32) (M : hz_M) : hz_O :=
  hz_ct (f_X3_isStep a1 M) fun r1 M2 =>
  hz_xt (f_X10_need r1 M2) (fx_X10_need r1 M2) fun r4 M5 =>
    if a2 = 0 then
      none
    else
    if a2 = 1 then
      none
    else
    if a2 = 2 then
      none
    else
    if a2 = 3 then
      none
    else
    if a2 = 4 then
      none
    else
    some (1, M5)
set_option maxRecDepth 100000 in
set_option maxHeartbeats 4000000 in
theorem cx_X10_step (l : Launch) (hl : l.stackTraces = false) (w : hz_C) {N : Nat} (hN : 178 ≤ N) (a1 : Int32) (a2 : Int32) {M : hz_M} {rE : Int32} {ME : hz_M} (h : fx_X10_step a1 a2 M = some (rE, ME)) : hz_Cx l yX10_step cX10_step 3 (some .int) 7 w N [.ref (hz_ad w 0), .int a1, .int a2] M rE ME := by
  refine hz_ofX (by decide) rfl (Nat.le_of_ble_eq_true rfl) tw_5_161 ?_
  intro p e s m args below meth c hO hxt
  show hz_G p l e 7 hz_z1 s m args below meth c w N 3 _ M 0 [(0, .ref (hz_ad w 0)), (1, .int a1), (2, .int a2)] []
  unfold fx_X10_step at h
  refine hz_aload_n hO dX10_step_0 rfl 0 rfl ?_
  refine hz_getR (k := 0) hO 1 hz_K_8 hz_sh_0 (hz_lt_0 hN) rfl (Nat.le_of_ble_eq_true rfl) tw_3_43 rfl dX10_step_1 ?_
  refine hz_iload_n hO dX10_step_4 rfl 1 rfl ?_
  obtain ⟨r1, M2, hq3, h⟩ := hz_ct_e h
  refine hz_callVi (as := [.int a1]) (rest := []) hO (c_X3_isStep l w hN a1 hq3) hz_cal_X3_isStep hz_K_2 hz_sh_1 (hz_lt_1 hN) tw_5_162 (Nat.le_of_ble_eq_true rfl) rfl rfl (Nat.le_of_ble_eq_true rfl) dX10_step_5 ?_
  rcases hz_xt_e h with ⟨r4, M5, hq6, h⟩ | hx7
  · refine hz_callSv (as := [.int r1]) (rest := []) hO (c_X10_need l w hN r1 hq6) hz_cal_X10_need tw_5_111 (Nat.le_of_ble_eq_true rfl) rfl rfl (Nat.le_of_ble_eq_true rfl) dX10_step_8 ?_
    refine hz_iload_n hO dX10_step_11 rfl 2 rfl ?_
    by_cases hc8 : a2 = (0 : Int32)
    · rw [if_pos hc8] at h
      refine hz_tin (tgt := 48) hO hc8 dX10_step_12 (by decide) (by decide) rfl (by decide) ?_
      cases h
    · rw [if_neg hc8] at h
      by_cases hc9 : a2 = (1 : Int32)
      · rw [if_pos hc9] at h
        refine hz_tin (tgt := 57) hO hc9 dX10_step_12 (by decide) (by decide) rfl (by decide) ?_
        cases h
      · rw [if_neg hc9] at h
        by_cases hc10 : a2 = (2 : Int32)
        · rw [if_pos hc10] at h
          refine hz_tin (tgt := 66) hO hc10 dX10_step_12 (by decide) (by decide) rfl (by decide) ?_
          cases h
        · rw [if_neg hc10] at h
          by_cases hc11 : a2 = (3 : Int32)
          · rw [if_pos hc11] at h
            refine hz_tin (tgt := 71) hO hc11 dX10_step_12 (by decide) (by decide) rfl (by decide) ?_
            cases h
          · rw [if_neg hc11] at h
            by_cases hc12 : a2 = (4 : Int32)
            · rw [if_pos hc12] at h
              refine hz_tin (tgt := 80) hO hc12 dX10_step_12 (by decide) (by decide) rfl (by decide) ?_
              cases h
            · rw [if_neg hc12] at h
              have hn0 : ¬ a2.toInt = 0 := lv_neT hc8 rfl
              have hn1 : ¬ a2.toInt = 1 := lv_neT hc9 rfl
              have hn2 : ¬ a2.toInt = 2 := lv_neT hc10 rfl
              have hn3 : ¬ a2.toInt = 3 := lv_neT hc11 rfl
              have hn4 : ¬ a2.toInt = 4 := lv_neT hc12 rfl
              refine hz_tout (tgt := 89) hO dX10_step_12 (by omega) (by decide) ?_
              refine hz_nameX (hz_some_e h).1 (hz_some_e h).2 ?_
              exact hz_thrW (i := 17) hl hO hxt (by decide) (by decide +kernel) tw_5_37 tw_1_24 (List.mem_of_getElem? (i := 3) rfl) hz_AT_202 hz_ot_202 (Nat.le_of_ble_eq_true rfl) (Nat.le_of_ble_eq_true rfl) dX10_step_89 dX10_step_92 dX10_step_93 dX10_step_96 dX10_step_99
  · exact hz_xS (as := [.int r1]) (rest := []) hO hxt (cx_X10_need l hl w hN r1 hx7) hz_cal_X10_need tw_5_111 (Nat.le_of_ble_eq_true rfl) rfl rfl (Nat.le_of_ble_eq_true rfl) dX10_step_8
def fx_X10_letter (a1 : Int32) (a2 : Int32) (M : hz_M) : hz_O :=
  hz_ct (f_X3_isGuest a1 M) fun r1 M2 =>
  hz_xt (f_X10_need r1 M2) (fx_X10_need r1 M2) fun r4 M5 =>
    none
set_option maxRecDepth 100000 in
set_option maxHeartbeats 4000000 in
theorem cx_X10_letter (l : Launch) (hl : l.stackTraces = false) (w : hz_C) {N : Nat} (hN : 178 ≤ N) (a1 : Int32) (a2 : Int32) {M : hz_M} {rE : Int32} {ME : hz_M} (h : fx_X10_letter a1 a2 M = some (rE, ME)) : hz_Cx l yX10_letter cX10_letter 3 (some .int) 7 w N [.ref (hz_ad w 0), .int a1, .int a2] M rE ME := by
  refine hz_ofX (by decide) rfl (Nat.le_of_ble_eq_true rfl) tw_5_180 ?_
  intro p e s m args below meth c hO hxt
  show hz_G p l e 7 hz_z1 s m args below meth c w N 3 _ M 0 [(0, .ref (hz_ad w 0)), (1, .int a1), (2, .int a2)] []
  unfold fx_X10_letter at h
  refine hz_aload_n hO dX10_letter_0 rfl 0 rfl ?_
  refine hz_getR (k := 0) hO 1 hz_K_8 hz_sh_0 (hz_lt_0 hN) rfl (Nat.le_of_ble_eq_true rfl) tw_3_43 rfl dX10_letter_1 ?_
  refine hz_iload_n hO dX10_letter_4 rfl 1 rfl ?_
  obtain ⟨r1, M2, hq3, h⟩ := hz_ct_e h
  refine hz_callVi (as := [.int a1]) (rest := []) hO (c_X3_isGuest l w hN a1 hq3) hz_cal_X3_isGuest hz_K_2 hz_sh_1 (hz_lt_1 hN) tw_5_110 (Nat.le_of_ble_eq_true rfl) rfl rfl (Nat.le_of_ble_eq_true rfl) dX10_letter_5 ?_
  rcases hz_xt_e h with ⟨r4, M5, hq6, h⟩ | hx7
  · refine hz_callSv (as := [.int r1]) (rest := []) hO (c_X10_need l w hN r1 hq6) hz_cal_X10_need tw_5_111 (Nat.le_of_ble_eq_true rfl) rfl rfl (Nat.le_of_ble_eq_true rfl) dX10_letter_8 ?_
    cases h
  · exact hz_xS (as := [.int r1]) (rest := []) hO hxt (cx_X10_need l hl w hN r1 hx7) hz_cal_X10_need tw_5_111 (Nat.le_of_ble_eq_true rfl) rfl rfl (Nat.le_of_ble_eq_true rfl) dX10_letter_8
def fx_X10_why (a1 : Int32) (a2 : Int32) (a3 : Int32) (M : hz_M) : hz_O :=
  hz_ct (f_X3_isGuest a1 M) fun r1 M2 =>
  hz_xt (f_X10_need r1 M2) (fx_X10_need r1 M2) fun r4 M5 =>
    hz_ct (f_X9_isDeed a2 M5) fun r8 M9 =>
    hz_xt (f_X10_need r8 M9) (fx_X10_need r8 M9) fun r11 M12 =>
      hz_jn (fun (v1_15 : Int32) (v2_16 : Int32) (v3_17 : Int32) (q18 : Int32) (M19 : hz_M) =>
        hz_xt (f_X10_need q18 M19) (fx_X10_need q18 M19) fun r20 M21 =>
          none
        ) fun k24 =>
      hz_jn (fun (v1_25 : Int32) (v2_26 : Int32) (v3_27 : Int32) (M28 : hz_M) =>
        k24 v1_25 v2_26 v3_27 (1 : Int32) M28
        ) fun k29 =>
      if a3 = 0 then
        k29 a1 a2 a3 M12
      else
        if a3 = (1 : Int32) then
          k29 a1 a2 a3 M12
        else
          k24 a1 a2 a3 (0 : Int32) M12
set_option maxRecDepth 100000 in
set_option maxHeartbeats 4000000 in
theorem cx_X10_why (l : Launch) (hl : l.stackTraces = false) (w : hz_C) {N : Nat} (hN : 178 ≤ N) (a1 : Int32) (a2 : Int32) (a3 : Int32) {M : hz_M} {rE : Int32} {ME : hz_M} (h : fx_X10_why a1 a2 a3 M = some (rE, ME)) : hz_Cx l yX10_why cX10_why 4 (some .int) 7 w N [.ref (hz_ad w 0), .int a1, .int a2, .int a3] M rE ME := by
  refine hz_ofX (by decide) rfl (Nat.le_of_ble_eq_true rfl) tw_5_188 ?_
  intro p e s m args below meth c hO hxt
  show hz_G p l e 7 hz_z1 s m args below meth c w N 4 _ M 0 [(0, .ref (hz_ad w 0)), (1, .int a1), (2, .int a2), (3, .int a3)] []
  unfold fx_X10_why at h
  refine hz_aload_n hO dX10_why_0 rfl 0 rfl ?_
  refine hz_getR (k := 0) hO 1 hz_K_8 hz_sh_0 (hz_lt_0 hN) rfl (Nat.le_of_ble_eq_true rfl) tw_3_43 rfl dX10_why_1 ?_
  refine hz_iload_n hO dX10_why_4 rfl 1 rfl ?_
  obtain ⟨r1, M2, hq3, h⟩ := hz_ct_e h
  refine hz_callVi (as := [.int a1]) (rest := []) hO (c_X3_isGuest l w hN a1 hq3) hz_cal_X3_isGuest hz_K_2 hz_sh_1 (hz_lt_1 hN) tw_5_110 (Nat.le_of_ble_eq_true rfl) rfl rfl (Nat.le_of_ble_eq_true rfl) dX10_why_5 ?_
  rcases hz_xt_e h with ⟨r4, M5, hq6, h⟩ | hx7
  · refine hz_callSv (as := [.int r1]) (rest := []) hO (c_X10_need l w hN r1 hq6) hz_cal_X10_need tw_5_111 (Nat.le_of_ble_eq_true rfl) rfl rfl (Nat.le_of_ble_eq_true rfl) dX10_why_8 ?_
    refine hz_aload_n hO dX10_why_11 rfl 0 rfl ?_
    refine hz_getR (k := 4) hO 25 hz_K_8 hz_sh_0 (hz_lt_0 hN) rfl (Nat.le_of_ble_eq_true rfl) tw_3_47 rfl dX10_why_12 ?_
    refine hz_iload_n hO dX10_why_15 rfl 2 rfl ?_
    obtain ⟨r8, M9, hq10, h⟩ := hz_ct_e h
    refine hz_callVi (as := [.int a2]) (rest := []) hO (c_X9_isDeed l w hN a2 hq10) hz_cal_X9_isDeed hz_K_7 hz_sh_25 (hz_lt_25 hN) tw_5_189 (Nat.le_of_ble_eq_true rfl) rfl rfl (Nat.le_of_ble_eq_true rfl) dX10_why_16 ?_
    rcases hz_xt_e h with ⟨r11, M12, hq13, h⟩ | hx14
    · refine hz_callSv (as := [.int r8]) (rest := []) hO (c_X10_need l w hN r8 hq13) hz_cal_X10_need tw_5_111 (Nat.le_of_ble_eq_true rfl) rfl rfl (Nat.le_of_ble_eq_true rfl) dX10_why_19 ?_
      refine hz_iload_n hO dX10_why_22 rfl 3 rfl ?_
      obtain ⟨k24, hk24, h⟩ := hz_jn_e h
      have gk24 : ∀ (v1_15 : Int32) (v2_16 : Int32) (v3_17 : Int32) (q18 : Int32) (M19 : hz_M), k24 v1_15 v2_16 v3_17 q18 M19 = some (rE, ME) → hz_G p l e 7 hz_z1 s m args below meth c w N 4 (vx_MQ below (hz_nQ w) (hz_XC w N rE ME) args s 1 6 (hz_A w)) M19 36 [(0, .ref (hz_ad w 0)), (1, .int v1_15), (2, .int v2_16), (3, .int v3_17)] [.int q18] := by
        intro v1_15 v2_16 v3_17 q18 M19 h
        rw [hk24] at h
        dsimp only at h
        rcases hz_xt_e h with ⟨r20, M21, hq22, h⟩ | hx23
        · refine hz_callSv (as := [.int q18]) (rest := []) hO (c_X10_need l w hN q18 hq22) hz_cal_X10_need tw_5_111 (Nat.le_of_ble_eq_true rfl) rfl rfl (Nat.le_of_ble_eq_true rfl) dX10_why_36 ?_
          cases h
        · exact hz_xS (as := [.int q18]) (rest := []) hO hxt (cx_X10_need l hl w hN q18 hx23) hz_cal_X10_need tw_5_111 (Nat.le_of_ble_eq_true rfl) rfl rfl (Nat.le_of_ble_eq_true rfl) dX10_why_36
      clear hk24
      obtain ⟨k29, hk29, h⟩ := hz_jn_e h
      have gk29 : ∀ (v1_25 : Int32) (v2_26 : Int32) (v3_27 : Int32) (M28 : hz_M), k29 v1_25 v2_26 v3_27 M28 = some (rE, ME) → hz_G p l e 7 hz_z1 s m args below meth c w N 4 (vx_MQ below (hz_nQ w) (hz_XC w N rE ME) args s 1 6 (hz_A w)) M28 31 [(0, .ref (hz_ad w 0)), (1, .int v1_25), (2, .int v2_26), (3, .int v3_27)] [] := by
        intro v1_25 v2_26 v3_27 M28 h
        rw [hk29] at h
        dsimp only at h
        refine hz_iconst (v := (1 : Int32)) hO dX10_why_31 (by decide) ?_
        refine hz_goto (tgt := 36) hO dX10_why_32 (by decide) ?_
        exact hz_ls [0, 1, 2, 3] rfl (gk24 v1_25 v2_26 v3_27 (1 : Int32) M28 h)
      clear hk29
      refine hz_if_eq (tgt := 31) hO dX10_why_23 (by decide) (fun hc30 => ?_) (fun hc30 => ?_)
      · rw [if_pos hc30] at h
        exact hz_ls [0, 1, 2, 3] rfl (gk29 a1 a2 a3 M12 h)
      · rw [if_neg hc30] at h
        refine hz_iload_n hO dX10_why_26 rfl 3 rfl ?_
        refine hz_iconst (v := (1 : Int32)) hO dX10_why_27 (by decide) ?_
        refine hz_icmp_ne (tgt := 35) hO dX10_why_28 (by decide) (fun hc31 => ?_) (fun hc31 => ?_)
        · rw [if_neg hc31] at h
          refine hz_iconst (v := (0 : Int32)) hO dX10_why_35 (by decide) ?_
          exact hz_ls [0, 1, 2, 3] rfl (gk24 a1 a2 a3 (0 : Int32) M12 h)
        · rw [if_pos hc31] at h
          exact hz_ls [0, 1, 2, 3] rfl (gk29 a1 a2 a3 M12 h)
    · exact hz_xS (as := [.int r8]) (rest := []) hO hxt (cx_X10_need l hl w hN r8 hx14) hz_cal_X10_need tw_5_111 (Nat.le_of_ble_eq_true rfl) rfl rfl (Nat.le_of_ble_eq_true rfl) dX10_why_19
  · exact hz_xS (as := [.int r1]) (rest := []) hO hxt (cx_X10_need l hl w hN r1 hx7) hz_cal_X10_need tw_5_111 (Nat.le_of_ble_eq_true rfl) rfl rfl (Nat.le_of_ble_eq_true rfl) dX10_why_8
def fx_X10_highest (a1 : Int32) (M : hz_M) : hz_O :=
  hz_ct (f_X3_isGuest a1 M) fun r1 M2 =>
  hz_xt (f_X10_need r1 M2) (fx_X10_need r1 M2) fun r4 M5 =>
    none
set_option maxRecDepth 100000 in
set_option maxHeartbeats 4000000 in
theorem cx_X10_highest (l : Launch) (hl : l.stackTraces = false) (w : hz_C) {N : Nat} (hN : 178 ≤ N) (a1 : Int32) {M : hz_M} {rE : Int32} {ME : hz_M} (h : fx_X10_highest a1 M = some (rE, ME)) : hz_Cx l yX10_highest cX10_highest 3 (some .int) 7 w N [.ref (hz_ad w 0), .int a1] M rE ME := by
  refine hz_ofX (by decide) rfl (Nat.le_of_ble_eq_true rfl) tw_5_213 ?_
  intro p e s m args below meth c hO hxt
  show hz_G p l e 7 hz_z1 s m args below meth c w N 3 _ M 0 [(0, .ref (hz_ad w 0)), (1, .int a1)] []
  unfold fx_X10_highest at h
  refine hz_aload_n hO dX10_highest_0 rfl 0 rfl ?_
  refine hz_getR (k := 0) hO 1 hz_K_8 hz_sh_0 (hz_lt_0 hN) rfl (Nat.le_of_ble_eq_true rfl) tw_3_43 rfl dX10_highest_1 ?_
  refine hz_iload_n hO dX10_highest_4 rfl 1 rfl ?_
  obtain ⟨r1, M2, hq3, h⟩ := hz_ct_e h
  refine hz_callVi (as := [.int a1]) (rest := []) hO (c_X3_isGuest l w hN a1 hq3) hz_cal_X3_isGuest hz_K_2 hz_sh_1 (hz_lt_1 hN) tw_5_110 (Nat.le_of_ble_eq_true rfl) rfl rfl (Nat.le_of_ble_eq_true rfl) dX10_highest_5 ?_
  rcases hz_xt_e h with ⟨r4, M5, hq6, h⟩ | hx7
  · refine hz_callSv (as := [.int r1]) (rest := []) hO (c_X10_need l w hN r1 hq6) hz_cal_X10_need tw_5_111 (Nat.le_of_ble_eq_true rfl) rfl rfl (Nat.le_of_ble_eq_true rfl) dX10_highest_8 ?_
    cases h
  · exact hz_xS (as := [.int r1]) (rest := []) hO hxt (cx_X10_need l hl w hN r1 hx7) hz_cal_X10_need tw_5_111 (Nat.le_of_ble_eq_true rfl) rfl rfl (Nat.le_of_ble_eq_true rfl) dX10_highest_8
def fx_X10_account (a1 : Int32) (M : hz_M) : hz_O :=
  hz_jn (fun (v1_1 : Int32) (q2 : Int32) (M3 : hz_M) =>
    hz_xt (f_X10_need q2 M3) (fx_X10_need q2 M3) fun r4 M5 =>
      none
    ) fun k8 =>
  hz_jn (fun (v1_9 : Int32) (M10 : hz_M) =>
    k8 v1_9 (0 : Int32) M10
    ) fun k11 =>
  if a1 < 0 then
    k11 a1 M
  else
    if (9 : Int32) < a1 then
      k11 a1 M
    else
      k8 a1 (1 : Int32) M
set_option maxRecDepth 100000 in
set_option maxHeartbeats 4000000 in
theorem cx_X10_account (l : Launch) (hl : l.stackTraces = false) (w : hz_C) {N : Nat} (hN : 178 ≤ N) (a1 : Int32) {M : hz_M} {rE : Int32} {ME : hz_M} (h : fx_X10_account a1 M = some (rE, ME)) : hz_Cx l yX10_account cX10_account 2 (some .int) 7 w N [.ref (hz_ad w 0), .int a1] M rE ME := by
  refine hz_ofX (by decide) rfl (Nat.le_of_ble_eq_true rfl) tw_5_220 ?_
  intro p e s m args below meth c hO hxt
  show hz_G p l e 7 hz_z1 s m args below meth c w N 2 _ M 0 [(0, .ref (hz_ad w 0)), (1, .int a1)] []
  unfold fx_X10_account at h
  refine hz_iload_n hO dX10_account_0 rfl 1 rfl ?_
  obtain ⟨k8, hk8, h⟩ := hz_jn_e h
  have gk8 : ∀ (v1_1 : Int32) (q2 : Int32) (M3 : hz_M), k8 v1_1 q2 M3 = some (rE, ME) → hz_G p l e 7 hz_z1 s m args below meth c w N 2 (vx_MQ below (hz_nQ w) (hz_XC w N rE ME) args s 1 6 (hz_A w)) M3 15 [(0, .ref (hz_ad w 0)), (1, .int v1_1)] [.int q2] := by
    intro v1_1 q2 M3 h
    rw [hk8] at h
    dsimp only at h
    rcases hz_xt_e h with ⟨r4, M5, hq6, h⟩ | hx7
    · refine hz_callSv (as := [.int q2]) (rest := []) hO (c_X10_need l w hN q2 hq6) hz_cal_X10_need tw_5_111 (Nat.le_of_ble_eq_true rfl) rfl rfl (Nat.le_of_ble_eq_true rfl) dX10_account_15 ?_
      cases h
    · exact hz_xS (as := [.int q2]) (rest := []) hO hxt (cx_X10_need l hl w hN q2 hx7) hz_cal_X10_need tw_5_111 (Nat.le_of_ble_eq_true rfl) rfl rfl (Nat.le_of_ble_eq_true rfl) dX10_account_15
  clear hk8
  obtain ⟨k11, hk11, h⟩ := hz_jn_e h
  have gk11 : ∀ (v1_9 : Int32) (M10 : hz_M), k11 v1_9 M10 = some (rE, ME) → hz_G p l e 7 hz_z1 s m args below meth c w N 2 (vx_MQ below (hz_nQ w) (hz_XC w N rE ME) args s 1 6 (hz_A w)) M10 14 [(0, .ref (hz_ad w 0)), (1, .int v1_9)] [] := by
    intro v1_9 M10 h
    rw [hk11] at h
    dsimp only at h
    refine hz_iconst (v := (0 : Int32)) hO dX10_account_14 (by decide) ?_
    exact hz_ls [0, 1] rfl (gk8 v1_9 (0 : Int32) M10 h)
  clear hk11
  refine hz_if_lt (tgt := 14) hO dX10_account_1 (by decide) (fun hc12 => ?_) (fun hc12 => ?_)
  · rw [if_pos hc12] at h
    exact hz_ls [0, 1] rfl (gk11 a1 M h)
  · rw [if_neg hc12] at h
    refine hz_iload_n hO dX10_account_4 rfl 1 rfl ?_
    refine hz_bipush (v := (9 : Int32)) hO dX10_account_5 (by decide) ?_
    refine hz_icmp_gt (tgt := 14) hO dX10_account_7 (by decide) (fun hc13 => ?_) (fun hc13 => ?_)
    · rw [if_pos hc13] at h
      exact hz_ls [0, 1] rfl (gk11 a1 M h)
    · rw [if_neg hc13] at h
      refine hz_iconst (v := (1 : Int32)) hO dX10_account_10 (by decide) ?_
      refine hz_goto (tgt := 15) hO dX10_account_11 (by decide) ?_
      exact hz_ls [0, 1] rfl (gk8 a1 (1 : Int32) M h)
def fx_X10_heatIn (a1 : Int32) (M : hz_M) : hz_O :=
  hz_jn (fun (v1_1 : Int32) (q2 : Int32) (M3 : hz_M) =>
    hz_xt (f_X10_need q2 M3) (fx_X10_need q2 M3) fun r4 M5 =>
      none
    ) fun k8 =>
  hz_jn (fun (v1_9 : Int32) (M10 : hz_M) =>
    k8 v1_9 (0 : Int32) M10
    ) fun k11 =>
  if a1 < 0 then
    k11 a1 M
  else
    if (200 : Int32) < a1 then
      k11 a1 M
    else
      k8 a1 (1 : Int32) M
set_option maxRecDepth 100000 in
set_option maxHeartbeats 4000000 in
theorem cx_X10_heatIn (l : Launch) (hl : l.stackTraces = false) (w : hz_C) {N : Nat} (hN : 178 ≤ N) (a1 : Int32) {M : hz_M} {rE : Int32} {ME : hz_M} (h : fx_X10_heatIn a1 M = some (rE, ME)) : hz_Cx l yX10_heatIn cX10_heatIn 4 (some .int) 7 w N [.ref (hz_ad w 0), .int a1] M rE ME := by
  refine hz_ofX (by decide) rfl (Nat.le_of_ble_eq_true rfl) tw_5_227 ?_
  intro p e s m args below meth c hO hxt
  show hz_G p l e 7 hz_z1 s m args below meth c w N 4 _ M 0 [(0, .ref (hz_ad w 0)), (1, .int a1)] []
  unfold fx_X10_heatIn at h
  refine hz_iload_n hO dX10_heatIn_0 rfl 1 rfl ?_
  obtain ⟨k8, hk8, h⟩ := hz_jn_e h
  have gk8 : ∀ (v1_1 : Int32) (q2 : Int32) (M3 : hz_M), k8 v1_1 q2 M3 = some (rE, ME) → hz_G p l e 7 hz_z1 s m args below meth c w N 4 (vx_MQ below (hz_nQ w) (hz_XC w N rE ME) args s 1 6 (hz_A w)) M3 16 [(0, .ref (hz_ad w 0)), (1, .int v1_1)] [.int q2] := by
    intro v1_1 q2 M3 h
    rw [hk8] at h
    dsimp only at h
    rcases hz_xt_e h with ⟨r4, M5, hq6, h⟩ | hx7
    · refine hz_callSv (as := [.int q2]) (rest := []) hO (c_X10_need l w hN q2 hq6) hz_cal_X10_need tw_5_111 (Nat.le_of_ble_eq_true rfl) rfl rfl (Nat.le_of_ble_eq_true rfl) dX10_heatIn_16 ?_
      cases h
    · exact hz_xS (as := [.int q2]) (rest := []) hO hxt (cx_X10_need l hl w hN q2 hx7) hz_cal_X10_need tw_5_111 (Nat.le_of_ble_eq_true rfl) rfl rfl (Nat.le_of_ble_eq_true rfl) dX10_heatIn_16
  clear hk8
  obtain ⟨k11, hk11, h⟩ := hz_jn_e h
  have gk11 : ∀ (v1_9 : Int32) (M10 : hz_M), k11 v1_9 M10 = some (rE, ME) → hz_G p l e 7 hz_z1 s m args below meth c w N 4 (vx_MQ below (hz_nQ w) (hz_XC w N rE ME) args s 1 6 (hz_A w)) M10 15 [(0, .ref (hz_ad w 0)), (1, .int v1_9)] [] := by
    intro v1_9 M10 h
    rw [hk11] at h
    dsimp only at h
    refine hz_iconst (v := (0 : Int32)) hO dX10_heatIn_15 (by decide) ?_
    exact hz_ls [0, 1] rfl (gk8 v1_9 (0 : Int32) M10 h)
  clear hk11
  refine hz_if_lt (tgt := 15) hO dX10_heatIn_1 (by decide) (fun hc12 => ?_) (fun hc12 => ?_)
  · rw [if_pos hc12] at h
    exact hz_ls [0, 1] rfl (gk11 a1 M h)
  · rw [if_neg hc12] at h
    refine hz_iload_n hO dX10_heatIn_4 rfl 1 rfl ?_
    refine hz_sipush (v := (200 : Int32)) hO dX10_heatIn_5 (by decide) ?_
    refine hz_icmp_gt (tgt := 15) hO dX10_heatIn_8 (by decide) (fun hc13 => ?_) (fun hc13 => ?_)
    · rw [if_pos hc13] at h
      exact hz_ls [0, 1] rfl (gk11 a1 M h)
    · rw [if_neg hc13] at h
      refine hz_iconst (v := (1 : Int32)) hO dX10_heatIn_11 (by decide) ?_
      refine hz_goto (tgt := 16) hO dX10_heatIn_12 (by decide) ?_
      exact hz_ls [0, 1] rfl (gk8 a1 (1 : Int32) M h)
def fx_X10_downIn (a1 : Int32) (M : hz_M) : hz_O :=
  hz_ct (f_X3_isGuest a1 M) fun r1 M2 =>
  hz_xt (f_X10_need r1 M2) (fx_X10_need r1 M2) fun r4 M5 =>
    none
set_option maxRecDepth 100000 in
set_option maxHeartbeats 4000000 in
theorem cx_X10_downIn (l : Launch) (hl : l.stackTraces = false) (w : hz_C) {N : Nat} (hN : 178 ≤ N) (a1 : Int32) {M : hz_M} {rE : Int32} {ME : hz_M} (h : fx_X10_downIn a1 M = some (rE, ME)) : hz_Cx l yX10_downIn cX10_downIn 6 (some .int) 7 w N [.ref (hz_ad w 0), .int a1] M rE ME := by
  refine hz_ofX (by decide) rfl (Nat.le_of_ble_eq_true rfl) tw_5_236 ?_
  intro p e s m args below meth c hO hxt
  show hz_G p l e 7 hz_z1 s m args below meth c w N 6 _ M 0 [(0, .ref (hz_ad w 0)), (1, .int a1)] []
  unfold fx_X10_downIn at h
  refine hz_aload_n hO dX10_downIn_0 rfl 0 rfl ?_
  refine hz_getR (k := 0) hO 1 hz_K_8 hz_sh_0 (hz_lt_0 hN) rfl (Nat.le_of_ble_eq_true rfl) tw_3_43 rfl dX10_downIn_1 ?_
  refine hz_iload_n hO dX10_downIn_4 rfl 1 rfl ?_
  obtain ⟨r1, M2, hq3, h⟩ := hz_ct_e h
  refine hz_callVi (as := [.int a1]) (rest := []) hO (c_X3_isGuest l w hN a1 hq3) hz_cal_X3_isGuest hz_K_2 hz_sh_1 (hz_lt_1 hN) tw_5_110 (Nat.le_of_ble_eq_true rfl) rfl rfl (Nat.le_of_ble_eq_true rfl) dX10_downIn_5 ?_
  rcases hz_xt_e h with ⟨r4, M5, hq6, h⟩ | hx7
  · refine hz_callSv (as := [.int r1]) (rest := []) hO (c_X10_need l w hN r1 hq6) hz_cal_X10_need tw_5_111 (Nat.le_of_ble_eq_true rfl) rfl rfl (Nat.le_of_ble_eq_true rfl) dX10_downIn_8 ?_
    cases h
  · exact hz_xS (as := [.int r1]) (rest := []) hO hxt (cx_X10_need l hl w hN r1 hx7) hz_cal_X10_need tw_5_111 (Nat.le_of_ble_eq_true rfl) rfl rfl (Nat.le_of_ble_eq_true rfl) dX10_downIn_8
def fx_X10_dryIn (a1 : Int32) (M : hz_M) : hz_O :=
  hz_ct (f_X3_isTowel a1 M) fun r1 M2 =>
  hz_xt (f_X10_need r1 M2) (fx_X10_need r1 M2) fun r4 M5 =>
    none
set_option maxRecDepth 100000 in
set_option maxHeartbeats 4000000 in
theorem cx_X10_dryIn (l : Launch) (hl : l.stackTraces = false) (w : hz_C) {N : Nat} (hN : 178 ≤ N) (a1 : Int32) {M : hz_M} {rE : Int32} {ME : hz_M} (h : fx_X10_dryIn a1 M = some (rE, ME)) : hz_Cx l yX10_dryIn cX10_dryIn 5 (some .int) 7 w N [.ref (hz_ad w 0), .int a1] M rE ME := by
  refine hz_ofX (by decide) rfl (Nat.le_of_ble_eq_true rfl) tw_6_4 ?_
  intro p e s m args below meth c hO hxt
  show hz_G p l e 7 hz_z1 s m args below meth c w N 5 _ M 0 [(0, .ref (hz_ad w 0)), (1, .int a1)] []
  unfold fx_X10_dryIn at h
  refine hz_aload_n hO dX10_dryIn_0 rfl 0 rfl ?_
  refine hz_getR (k := 0) hO 1 hz_K_8 hz_sh_0 (hz_lt_0 hN) rfl (Nat.le_of_ble_eq_true rfl) tw_3_43 rfl dX10_dryIn_1 ?_
  refine hz_iload_n hO dX10_dryIn_4 rfl 1 rfl ?_
  obtain ⟨r1, M2, hq3, h⟩ := hz_ct_e h
  refine hz_callVi (as := [.int a1]) (rest := []) hO (c_X3_isTowel l w hN a1 hq3) hz_cal_X3_isTowel hz_K_2 hz_sh_1 (hz_lt_1 hN) tw_5_128 (Nat.le_of_ble_eq_true rfl) rfl rfl (Nat.le_of_ble_eq_true rfl) dX10_dryIn_5 ?_
  rcases hz_xt_e h with ⟨r4, M5, hq6, h⟩ | hx7
  · refine hz_callSv (as := [.int r1]) (rest := []) hO (c_X10_need l w hN r1 hq6) hz_cal_X10_need tw_5_111 (Nat.le_of_ble_eq_true rfl) rfl rfl (Nat.le_of_ble_eq_true rfl) dX10_dryIn_8 ?_
    cases h
  · exact hz_xS (as := [.int r1]) (rest := []) hO hxt (cx_X10_need l hl w hN r1 hx7) hz_cal_X10_need tw_5_111 (Nat.le_of_ble_eq_true rfl) rfl rfl (Nat.le_of_ble_eq_true rfl) dX10_dryIn_8
def fx_X10_ifValve (a1 : Int32) (a2 : Int32) (M : hz_M) : hz_O :=
  hz_ct (f_X3_isValve a1 M) fun r1 M2 =>
  hz_xt (f_X10_need r1 M2) (fx_X10_need r1 M2) fun r4 M5 =>
    hz_ct (f_X10_isOpening a2 M5) fun r8 M9 =>
    hz_xt (f_X10_need r8 M9) (fx_X10_need r8 M9) fun r11 M12 =>
      none
set_option maxRecDepth 100000 in
set_option maxHeartbeats 4000000 in
theorem cx_X10_ifValve (l : Launch) (hl : l.stackTraces = false) (w : hz_C) {N : Nat} (hN : 178 ≤ N) (a1 : Int32) (a2 : Int32) {M : hz_M} {rE : Int32} {ME : hz_M} (h : fx_X10_ifValve a1 a2 M = some (rE, ME)) : hz_Cx l yX10_ifValve cX10_ifValve 3 (some .int) 7 w N [.ref (hz_ad w 0), .int a1, .int a2] M rE ME := by
  refine hz_ofX (by decide) rfl (Nat.le_of_ble_eq_true rfl) tw_6_12 ?_
  intro p e s m args below meth c hO hxt
  show hz_G p l e 7 hz_z1 s m args below meth c w N 3 _ M 0 [(0, .ref (hz_ad w 0)), (1, .int a1), (2, .int a2)] []
  unfold fx_X10_ifValve at h
  refine hz_aload_n hO dX10_ifValve_0 rfl 0 rfl ?_
  refine hz_getR (k := 0) hO 1 hz_K_8 hz_sh_0 (hz_lt_0 hN) rfl (Nat.le_of_ble_eq_true rfl) tw_3_43 rfl dX10_ifValve_1 ?_
  refine hz_iload_n hO dX10_ifValve_4 rfl 1 rfl ?_
  obtain ⟨r1, M2, hq3, h⟩ := hz_ct_e h
  refine hz_callVi (as := [.int a1]) (rest := []) hO (c_X3_isValve l w hN a1 hq3) hz_cal_X3_isValve hz_K_2 hz_sh_1 (hz_lt_1 hN) tw_5_154 (Nat.le_of_ble_eq_true rfl) rfl rfl (Nat.le_of_ble_eq_true rfl) dX10_ifValve_5 ?_
  rcases hz_xt_e h with ⟨r4, M5, hq6, h⟩ | hx7
  · refine hz_callSv (as := [.int r1]) (rest := []) hO (c_X10_need l w hN r1 hq6) hz_cal_X10_need tw_5_111 (Nat.le_of_ble_eq_true rfl) rfl rfl (Nat.le_of_ble_eq_true rfl) dX10_ifValve_8 ?_
    refine hz_iload_n hO dX10_ifValve_11 rfl 2 rfl ?_
    obtain ⟨r8, M9, hq10, h⟩ := hz_ct_e h
    refine hz_callSi (as := [.int a2]) (rest := []) hO (c_X10_isOpening l w hN a2 hq10) hz_cal_X10_isOpening tw_6_13 (Nat.le_of_ble_eq_true rfl) rfl rfl (Nat.le_of_ble_eq_true rfl) dX10_ifValve_12 ?_
    rcases hz_xt_e h with ⟨r11, M12, hq13, h⟩ | hx14
    · refine hz_callSv (as := [.int r8]) (rest := []) hO (c_X10_need l w hN r8 hq13) hz_cal_X10_need tw_5_111 (Nat.le_of_ble_eq_true rfl) rfl rfl (Nat.le_of_ble_eq_true rfl) dX10_ifValve_15 ?_
      cases h
    · exact hz_xS (as := [.int r8]) (rest := []) hO hxt (cx_X10_need l hl w hN r8 hx14) hz_cal_X10_need tw_5_111 (Nat.le_of_ble_eq_true rfl) rfl rfl (Nat.le_of_ble_eq_true rfl) dX10_ifValve_15
  · exact hz_xS (as := [.int r1]) (rest := []) hO hxt (cx_X10_need l hl w hN r1 hx7) hz_cal_X10_need tw_5_111 (Nat.le_of_ble_eq_true rfl) rfl rfl (Nat.le_of_ble_eq_true rfl) dX10_ifValve_8
def fx_X10_enter (a1 : Int32) (M : hz_M) : hz_O :=
  hz_ct (f_X3_isGuest a1 M) fun r1 M2 =>
  hz_xt (f_X10_need r1 M2) (fx_X10_need r1 M2) fun r4 M5 =>
    none
set_option maxRecDepth 100000 in
set_option maxHeartbeats 4000000 in
theorem cx_X10_enter (l : Launch) (hl : l.stackTraces = false) (w : hz_C) {N : Nat} (hN : 178 ≤ N) (a1 : Int32) {M : hz_M} {rE : Int32} {ME : hz_M} (h : fx_X10_enter a1 M = some (rE, ME)) : hz_Cx l yX10_enter cX10_enter 2 (some .int) 7 w N [.ref (hz_ad w 0), .int a1] M rE ME := by
  refine hz_ofX (by decide) rfl (Nat.le_of_ble_eq_true rfl) tw_6_22 ?_
  intro p e s m args below meth c hO hxt
  show hz_G p l e 7 hz_z1 s m args below meth c w N 2 _ M 0 [(0, .ref (hz_ad w 0)), (1, .int a1)] []
  unfold fx_X10_enter at h
  refine hz_aload_n hO dX10_enter_0 rfl 0 rfl ?_
  refine hz_getR (k := 0) hO 1 hz_K_8 hz_sh_0 (hz_lt_0 hN) rfl (Nat.le_of_ble_eq_true rfl) tw_3_43 rfl dX10_enter_1 ?_
  refine hz_iload_n hO dX10_enter_4 rfl 1 rfl ?_
  obtain ⟨r1, M2, hq3, h⟩ := hz_ct_e h
  refine hz_callVi (as := [.int a1]) (rest := []) hO (c_X3_isGuest l w hN a1 hq3) hz_cal_X3_isGuest hz_K_2 hz_sh_1 (hz_lt_1 hN) tw_5_110 (Nat.le_of_ble_eq_true rfl) rfl rfl (Nat.le_of_ble_eq_true rfl) dX10_enter_5 ?_
  rcases hz_xt_e h with ⟨r4, M5, hq6, h⟩ | hx7
  · refine hz_callSv (as := [.int r1]) (rest := []) hO (c_X10_need l w hN r1 hq6) hz_cal_X10_need tw_5_111 (Nat.le_of_ble_eq_true rfl) rfl rfl (Nat.le_of_ble_eq_true rfl) dX10_enter_8 ?_
    cases h
  · exact hz_xS (as := [.int r1]) (rest := []) hO hxt (cx_X10_need l hl w hN r1 hx7) hz_cal_X10_need tw_5_111 (Nat.le_of_ble_eq_true rfl) rfl rfl (Nat.le_of_ble_eq_true rfl) dX10_enter_8
def fx_X10_sit (a1 : Int32) (a2 : Int32) (M : hz_M) : hz_O :=
  hz_ct (f_X3_isGuest a1 M) fun r1 M2 =>
  hz_xt (f_X10_need r1 M2) (fx_X10_need r1 M2) fun r4 M5 =>
    hz_ct (f_X3_isStep a2 M5) fun r8 M9 =>
    hz_xt (f_X10_need r8 M9) (fx_X10_need r8 M9) fun r11 M12 =>
      none
set_option maxRecDepth 100000 in
set_option maxHeartbeats 4000000 in
theorem cx_X10_sit (l : Launch) (hl : l.stackTraces = false) (w : hz_C) {N : Nat} (hN : 178 ≤ N) (a1 : Int32) (a2 : Int32) {M : hz_M} {rE : Int32} {ME : hz_M} (h : fx_X10_sit a1 a2 M = some (rE, ME)) : hz_Cx l yX10_sit cX10_sit 3 (some .int) 7 w N [.ref (hz_ad w 0), .int a1, .int a2] M rE ME := by
  refine hz_ofX (by decide) rfl (Nat.le_of_ble_eq_true rfl) tw_6_31 ?_
  intro p e s m args below meth c hO hxt
  show hz_G p l e 7 hz_z1 s m args below meth c w N 3 _ M 0 [(0, .ref (hz_ad w 0)), (1, .int a1), (2, .int a2)] []
  unfold fx_X10_sit at h
  refine hz_aload_n hO dX10_sit_0 rfl 0 rfl ?_
  refine hz_getR (k := 0) hO 1 hz_K_8 hz_sh_0 (hz_lt_0 hN) rfl (Nat.le_of_ble_eq_true rfl) tw_3_43 rfl dX10_sit_1 ?_
  refine hz_iload_n hO dX10_sit_4 rfl 1 rfl ?_
  obtain ⟨r1, M2, hq3, h⟩ := hz_ct_e h
  refine hz_callVi (as := [.int a1]) (rest := []) hO (c_X3_isGuest l w hN a1 hq3) hz_cal_X3_isGuest hz_K_2 hz_sh_1 (hz_lt_1 hN) tw_5_110 (Nat.le_of_ble_eq_true rfl) rfl rfl (Nat.le_of_ble_eq_true rfl) dX10_sit_5 ?_
  rcases hz_xt_e h with ⟨r4, M5, hq6, h⟩ | hx7
  · refine hz_callSv (as := [.int r1]) (rest := []) hO (c_X10_need l w hN r1 hq6) hz_cal_X10_need tw_5_111 (Nat.le_of_ble_eq_true rfl) rfl rfl (Nat.le_of_ble_eq_true rfl) dX10_sit_8 ?_
    refine hz_aload_n hO dX10_sit_11 rfl 0 rfl ?_
    refine hz_getR (k := 0) hO 1 hz_K_8 hz_sh_0 (hz_lt_0 hN) rfl (Nat.le_of_ble_eq_true rfl) tw_3_43 rfl dX10_sit_12 ?_
    refine hz_iload_n hO dX10_sit_15 rfl 2 rfl ?_
    obtain ⟨r8, M9, hq10, h⟩ := hz_ct_e h
    refine hz_callVi (as := [.int a2]) (rest := []) hO (c_X3_isStep l w hN a2 hq10) hz_cal_X3_isStep hz_K_2 hz_sh_1 (hz_lt_1 hN) tw_5_162 (Nat.le_of_ble_eq_true rfl) rfl rfl (Nat.le_of_ble_eq_true rfl) dX10_sit_16 ?_
    rcases hz_xt_e h with ⟨r11, M12, hq13, h⟩ | hx14
    · refine hz_callSv (as := [.int r8]) (rest := []) hO (c_X10_need l w hN r8 hq13) hz_cal_X10_need tw_5_111 (Nat.le_of_ble_eq_true rfl) rfl rfl (Nat.le_of_ble_eq_true rfl) dX10_sit_19 ?_
      cases h
    · exact hz_xS (as := [.int r8]) (rest := []) hO hxt (cx_X10_need l hl w hN r8 hx14) hz_cal_X10_need tw_5_111 (Nat.le_of_ble_eq_true rfl) rfl rfl (Nat.le_of_ble_eq_true rfl) dX10_sit_19
  · exact hz_xS (as := [.int r1]) (rest := []) hO hxt (cx_X10_need l hl w hN r1 hx7) hz_cal_X10_need tw_5_111 (Nat.le_of_ble_eq_true rfl) rfl rfl (Nat.le_of_ble_eq_true rfl) dX10_sit_8
def fx_X10_hall (a1 : Int32) (M : hz_M) : hz_O :=
  hz_ct (f_X3_isGuest a1 M) fun r1 M2 =>
  hz_xt (f_X10_need r1 M2) (fx_X10_need r1 M2) fun r4 M5 =>
    none
set_option maxRecDepth 100000 in
set_option maxHeartbeats 4000000 in
theorem cx_X10_hall (l : Launch) (hl : l.stackTraces = false) (w : hz_C) {N : Nat} (hN : 178 ≤ N) (a1 : Int32) {M : hz_M} {rE : Int32} {ME : hz_M} (h : fx_X10_hall a1 M = some (rE, ME)) : hz_Cx l yX10_hall cX10_hall 2 (some .int) 7 w N [.ref (hz_ad w 0), .int a1] M rE ME := by
  refine hz_ofX (by decide) rfl (Nat.le_of_ble_eq_true rfl) tw_6_39 ?_
  intro p e s m args below meth c hO hxt
  show hz_G p l e 7 hz_z1 s m args below meth c w N 2 _ M 0 [(0, .ref (hz_ad w 0)), (1, .int a1)] []
  unfold fx_X10_hall at h
  refine hz_aload_n hO dX10_hall_0 rfl 0 rfl ?_
  refine hz_getR (k := 0) hO 1 hz_K_8 hz_sh_0 (hz_lt_0 hN) rfl (Nat.le_of_ble_eq_true rfl) tw_3_43 rfl dX10_hall_1 ?_
  refine hz_iload_n hO dX10_hall_4 rfl 1 rfl ?_
  obtain ⟨r1, M2, hq3, h⟩ := hz_ct_e h
  refine hz_callVi (as := [.int a1]) (rest := []) hO (c_X3_isGuest l w hN a1 hq3) hz_cal_X3_isGuest hz_K_2 hz_sh_1 (hz_lt_1 hN) tw_5_110 (Nat.le_of_ble_eq_true rfl) rfl rfl (Nat.le_of_ble_eq_true rfl) dX10_hall_5 ?_
  rcases hz_xt_e h with ⟨r4, M5, hq6, h⟩ | hx7
  · refine hz_callSv (as := [.int r1]) (rest := []) hO (c_X10_need l w hN r1 hq6) hz_cal_X10_need tw_5_111 (Nat.le_of_ble_eq_true rfl) rfl rfl (Nat.le_of_ble_eq_true rfl) dX10_hall_8 ?_
    cases h
  · exact hz_xS (as := [.int r1]) (rest := []) hO hxt (cx_X10_need l hl w hN r1 hx7) hz_cal_X10_need tw_5_111 (Nat.le_of_ble_eq_true rfl) rfl rfl (Nat.le_of_ble_eq_true rfl) dX10_hall_8
def fx_X10_hang (a1 : Int32) (a2 : Int32) (M : hz_M) : hz_O :=
  hz_ct (f_X3_isGuest a1 M) fun r1 M2 =>
  hz_xt (f_X10_need r1 M2) (fx_X10_need r1 M2) fun r4 M5 =>
    hz_ct (f_X3_isPeg a2 M5) fun r8 M9 =>
    hz_xt (f_X10_need r8 M9) (fx_X10_need r8 M9) fun r11 M12 =>
      none
set_option maxRecDepth 100000 in
set_option maxHeartbeats 4000000 in
theorem cx_X10_hang (l : Launch) (hl : l.stackTraces = false) (w : hz_C) {N : Nat} (hN : 178 ≤ N) (a1 : Int32) (a2 : Int32) {M : hz_M} {rE : Int32} {ME : hz_M} (h : fx_X10_hang a1 a2 M = some (rE, ME)) : hz_Cx l yX10_hang cX10_hang 3 (some .int) 7 w N [.ref (hz_ad w 0), .int a1, .int a2] M rE ME := by
  refine hz_ofX (by decide) rfl (Nat.le_of_ble_eq_true rfl) tw_6_48 ?_
  intro p e s m args below meth c hO hxt
  show hz_G p l e 7 hz_z1 s m args below meth c w N 3 _ M 0 [(0, .ref (hz_ad w 0)), (1, .int a1), (2, .int a2)] []
  unfold fx_X10_hang at h
  refine hz_aload_n hO dX10_hang_0 rfl 0 rfl ?_
  refine hz_getR (k := 0) hO 1 hz_K_8 hz_sh_0 (hz_lt_0 hN) rfl (Nat.le_of_ble_eq_true rfl) tw_3_43 rfl dX10_hang_1 ?_
  refine hz_iload_n hO dX10_hang_4 rfl 1 rfl ?_
  obtain ⟨r1, M2, hq3, h⟩ := hz_ct_e h
  refine hz_callVi (as := [.int a1]) (rest := []) hO (c_X3_isGuest l w hN a1 hq3) hz_cal_X3_isGuest hz_K_2 hz_sh_1 (hz_lt_1 hN) tw_5_110 (Nat.le_of_ble_eq_true rfl) rfl rfl (Nat.le_of_ble_eq_true rfl) dX10_hang_5 ?_
  rcases hz_xt_e h with ⟨r4, M5, hq6, h⟩ | hx7
  · refine hz_callSv (as := [.int r1]) (rest := []) hO (c_X10_need l w hN r1 hq6) hz_cal_X10_need tw_5_111 (Nat.le_of_ble_eq_true rfl) rfl rfl (Nat.le_of_ble_eq_true rfl) dX10_hang_8 ?_
    refine hz_aload_n hO dX10_hang_11 rfl 0 rfl ?_
    refine hz_getR (k := 0) hO 1 hz_K_8 hz_sh_0 (hz_lt_0 hN) rfl (Nat.le_of_ble_eq_true rfl) tw_3_43 rfl dX10_hang_12 ?_
    refine hz_iload_n hO dX10_hang_15 rfl 2 rfl ?_
    obtain ⟨r8, M9, hq10, h⟩ := hz_ct_e h
    refine hz_callVi (as := [.int a2]) (rest := []) hO (c_X3_isPeg l w hN a2 hq10) hz_cal_X3_isPeg hz_K_2 hz_sh_1 (hz_lt_1 hN) tw_5_138 (Nat.le_of_ble_eq_true rfl) rfl rfl (Nat.le_of_ble_eq_true rfl) dX10_hang_16 ?_
    rcases hz_xt_e h with ⟨r11, M12, hq13, h⟩ | hx14
    · refine hz_callSv (as := [.int r8]) (rest := []) hO (c_X10_need l w hN r8 hq13) hz_cal_X10_need tw_5_111 (Nat.le_of_ble_eq_true rfl) rfl rfl (Nat.le_of_ble_eq_true rfl) dX10_hang_19 ?_
      cases h
    · exact hz_xS (as := [.int r8]) (rest := []) hO hxt (cx_X10_need l hl w hN r8 hx14) hz_cal_X10_need tw_5_111 (Nat.le_of_ble_eq_true rfl) rfl rfl (Nat.le_of_ble_eq_true rfl) dX10_hang_19
  · exact hz_xS (as := [.int r1]) (rest := []) hO hxt (cx_X10_need l hl w hN r1 hx7) hz_cal_X10_need tw_5_111 (Nat.le_of_ble_eq_true rfl) rfl rfl (Nat.le_of_ble_eq_true rfl) dX10_hang_8
def fx_X10_take (a1 : Int32) (a2 : Int32) (M : hz_M) : hz_O :=
  hz_ct (f_X3_isGuest a1 M) fun r1 M2 =>
  hz_xt (f_X10_need r1 M2) (fx_X10_need r1 M2) fun r4 M5 =>
    hz_ct (f_X3_isPeg a2 M5) fun r8 M9 =>
    hz_xt (f_X10_need r8 M9) (fx_X10_need r8 M9) fun r11 M12 =>
      none
set_option maxRecDepth 100000 in
set_option maxHeartbeats 4000000 in
theorem cx_X10_take (l : Launch) (hl : l.stackTraces = false) (w : hz_C) {N : Nat} (hN : 178 ≤ N) (a1 : Int32) (a2 : Int32) {M : hz_M} {rE : Int32} {ME : hz_M} (h : fx_X10_take a1 a2 M = some (rE, ME)) : hz_Cx l yX10_take cX10_take 3 (some .int) 7 w N [.ref (hz_ad w 0), .int a1, .int a2] M rE ME := by
  refine hz_ofX (by decide) rfl (Nat.le_of_ble_eq_true rfl) tw_6_56 ?_
  intro p e s m args below meth c hO hxt
  show hz_G p l e 7 hz_z1 s m args below meth c w N 3 _ M 0 [(0, .ref (hz_ad w 0)), (1, .int a1), (2, .int a2)] []
  unfold fx_X10_take at h
  refine hz_aload_n hO dX10_take_0 rfl 0 rfl ?_
  refine hz_getR (k := 0) hO 1 hz_K_8 hz_sh_0 (hz_lt_0 hN) rfl (Nat.le_of_ble_eq_true rfl) tw_3_43 rfl dX10_take_1 ?_
  refine hz_iload_n hO dX10_take_4 rfl 1 rfl ?_
  obtain ⟨r1, M2, hq3, h⟩ := hz_ct_e h
  refine hz_callVi (as := [.int a1]) (rest := []) hO (c_X3_isGuest l w hN a1 hq3) hz_cal_X3_isGuest hz_K_2 hz_sh_1 (hz_lt_1 hN) tw_5_110 (Nat.le_of_ble_eq_true rfl) rfl rfl (Nat.le_of_ble_eq_true rfl) dX10_take_5 ?_
  rcases hz_xt_e h with ⟨r4, M5, hq6, h⟩ | hx7
  · refine hz_callSv (as := [.int r1]) (rest := []) hO (c_X10_need l w hN r1 hq6) hz_cal_X10_need tw_5_111 (Nat.le_of_ble_eq_true rfl) rfl rfl (Nat.le_of_ble_eq_true rfl) dX10_take_8 ?_
    refine hz_aload_n hO dX10_take_11 rfl 0 rfl ?_
    refine hz_getR (k := 0) hO 1 hz_K_8 hz_sh_0 (hz_lt_0 hN) rfl (Nat.le_of_ble_eq_true rfl) tw_3_43 rfl dX10_take_12 ?_
    refine hz_iload_n hO dX10_take_15 rfl 2 rfl ?_
    obtain ⟨r8, M9, hq10, h⟩ := hz_ct_e h
    refine hz_callVi (as := [.int a2]) (rest := []) hO (c_X3_isPeg l w hN a2 hq10) hz_cal_X3_isPeg hz_K_2 hz_sh_1 (hz_lt_1 hN) tw_5_138 (Nat.le_of_ble_eq_true rfl) rfl rfl (Nat.le_of_ble_eq_true rfl) dX10_take_16 ?_
    rcases hz_xt_e h with ⟨r11, M12, hq13, h⟩ | hx14
    · refine hz_callSv (as := [.int r8]) (rest := []) hO (c_X10_need l w hN r8 hq13) hz_cal_X10_need tw_5_111 (Nat.le_of_ble_eq_true rfl) rfl rfl (Nat.le_of_ble_eq_true rfl) dX10_take_19 ?_
      cases h
    · exact hz_xS (as := [.int r8]) (rest := []) hO hxt (cx_X10_need l hl w hN r8 hx14) hz_cal_X10_need tw_5_111 (Nat.le_of_ble_eq_true rfl) rfl rfl (Nat.le_of_ble_eq_true rfl) dX10_take_19
  · exact hz_xS (as := [.int r1]) (rest := []) hO hxt (cx_X10_need l hl w hN r1 hx7) hz_cal_X10_need tw_5_111 (Nat.le_of_ble_eq_true rfl) rfl rfl (Nat.le_of_ble_eq_true rfl) dX10_take_8
def fx_X10_leave (a1 : Int32) (M : hz_M) : hz_O :=
  hz_ct (f_X3_isGuest a1 M) fun r1 M2 =>
  hz_xt (f_X10_need r1 M2) (fx_X10_need r1 M2) fun r4 M5 =>
    none
set_option maxRecDepth 100000 in
set_option maxHeartbeats 4000000 in
theorem cx_X10_leave (l : Launch) (hl : l.stackTraces = false) (w : hz_C) {N : Nat} (hN : 178 ≤ N) (a1 : Int32) {M : hz_M} {rE : Int32} {ME : hz_M} (h : fx_X10_leave a1 M = some (rE, ME)) : hz_Cx l yX10_leave cX10_leave 2 (some .int) 7 w N [.ref (hz_ad w 0), .int a1] M rE ME := by
  refine hz_ofX (by decide) rfl (Nat.le_of_ble_eq_true rfl) tw_6_64 ?_
  intro p e s m args below meth c hO hxt
  show hz_G p l e 7 hz_z1 s m args below meth c w N 2 _ M 0 [(0, .ref (hz_ad w 0)), (1, .int a1)] []
  unfold fx_X10_leave at h
  refine hz_aload_n hO dX10_leave_0 rfl 0 rfl ?_
  refine hz_getR (k := 0) hO 1 hz_K_8 hz_sh_0 (hz_lt_0 hN) rfl (Nat.le_of_ble_eq_true rfl) tw_3_43 rfl dX10_leave_1 ?_
  refine hz_iload_n hO dX10_leave_4 rfl 1 rfl ?_
  obtain ⟨r1, M2, hq3, h⟩ := hz_ct_e h
  refine hz_callVi (as := [.int a1]) (rest := []) hO (c_X3_isGuest l w hN a1 hq3) hz_cal_X3_isGuest hz_K_2 hz_sh_1 (hz_lt_1 hN) tw_5_110 (Nat.le_of_ble_eq_true rfl) rfl rfl (Nat.le_of_ble_eq_true rfl) dX10_leave_5 ?_
  rcases hz_xt_e h with ⟨r4, M5, hq6, h⟩ | hx7
  · refine hz_callSv (as := [.int r1]) (rest := []) hO (c_X10_need l w hN r1 hq6) hz_cal_X10_need tw_5_111 (Nat.le_of_ble_eq_true rfl) rfl rfl (Nat.le_of_ble_eq_true rfl) dX10_leave_8 ?_
    cases h
  · exact hz_xS (as := [.int r1]) (rest := []) hO hxt (cx_X10_need l hl w hN r1 hx7) hz_cal_X10_need tw_5_111 (Nat.le_of_ble_eq_true rfl) rfl rfl (Nat.le_of_ble_eq_true rfl) dX10_leave_8
def fx_X10_speak (a1 : Int32) (M : hz_M) : hz_O :=
  hz_ct (f_X3_isGuest a1 M) fun r1 M2 =>
  hz_xt (f_X10_need r1 M2) (fx_X10_need r1 M2) fun r4 M5 =>
    none
set_option maxRecDepth 100000 in
set_option maxHeartbeats 4000000 in
theorem cx_X10_speak (l : Launch) (hl : l.stackTraces = false) (w : hz_C) {N : Nat} (hN : 178 ≤ N) (a1 : Int32) {M : hz_M} {rE : Int32} {ME : hz_M} (h : fx_X10_speak a1 M = some (rE, ME)) : hz_Cx l yX10_speak cX10_speak 2 (some .int) 7 w N [.ref (hz_ad w 0), .int a1] M rE ME := by
  refine hz_ofX (by decide) rfl (Nat.le_of_ble_eq_true rfl) tw_6_73 ?_
  intro p e s m args below meth c hO hxt
  show hz_G p l e 7 hz_z1 s m args below meth c w N 2 _ M 0 [(0, .ref (hz_ad w 0)), (1, .int a1)] []
  unfold fx_X10_speak at h
  refine hz_aload_n hO dX10_speak_0 rfl 0 rfl ?_
  refine hz_getR (k := 0) hO 1 hz_K_8 hz_sh_0 (hz_lt_0 hN) rfl (Nat.le_of_ble_eq_true rfl) tw_3_43 rfl dX10_speak_1 ?_
  refine hz_iload_n hO dX10_speak_4 rfl 1 rfl ?_
  obtain ⟨r1, M2, hq3, h⟩ := hz_ct_e h
  refine hz_callVi (as := [.int a1]) (rest := []) hO (c_X3_isGuest l w hN a1 hq3) hz_cal_X3_isGuest hz_K_2 hz_sh_1 (hz_lt_1 hN) tw_5_110 (Nat.le_of_ble_eq_true rfl) rfl rfl (Nat.le_of_ble_eq_true rfl) dX10_speak_5 ?_
  rcases hz_xt_e h with ⟨r4, M5, hq6, h⟩ | hx7
  · refine hz_callSv (as := [.int r1]) (rest := []) hO (c_X10_need l w hN r1 hq6) hz_cal_X10_need tw_5_111 (Nat.le_of_ble_eq_true rfl) rfl rfl (Nat.le_of_ble_eq_true rfl) dX10_speak_8 ?_
    cases h
  · exact hz_xS (as := [.int r1]) (rest := []) hO hxt (cx_X10_need l hl w hN r1 hx7) hz_cal_X10_need tw_5_111 (Nat.le_of_ble_eq_true rfl) rfl rfl (Nat.le_of_ble_eq_true rfl) dX10_speak_8
def fx_X10_valve (a1 : Int32) (a2 : Int32) (M : hz_M) : hz_O :=
  hz_ct (f_X3_isValve a1 M) fun r1 M2 =>
  hz_xt (f_X10_need r1 M2) (fx_X10_need r1 M2) fun r4 M5 =>
    hz_ct (f_X10_isOpening a2 M5) fun r8 M9 =>
    hz_xt (f_X10_need r8 M9) (fx_X10_need r8 M9) fun r11 M12 =>
      none
set_option maxRecDepth 100000 in
set_option maxHeartbeats 4000000 in
theorem cx_X10_valve (l : Launch) (hl : l.stackTraces = false) (w : hz_C) {N : Nat} (hN : 178 ≤ N) (a1 : Int32) (a2 : Int32) {M : hz_M} {rE : Int32} {ME : hz_M} (h : fx_X10_valve a1 a2 M = some (rE, ME)) : hz_Cx l yX10_valve cX10_valve 3 (some .int) 7 w N [.ref (hz_ad w 0), .int a1, .int a2] M rE ME := by
  refine hz_ofX (by decide) rfl (Nat.le_of_ble_eq_true rfl) tw_6_82 ?_
  intro p e s m args below meth c hO hxt
  show hz_G p l e 7 hz_z1 s m args below meth c w N 3 _ M 0 [(0, .ref (hz_ad w 0)), (1, .int a1), (2, .int a2)] []
  unfold fx_X10_valve at h
  refine hz_aload_n hO dX10_valve_0 rfl 0 rfl ?_
  refine hz_getR (k := 0) hO 1 hz_K_8 hz_sh_0 (hz_lt_0 hN) rfl (Nat.le_of_ble_eq_true rfl) tw_3_43 rfl dX10_valve_1 ?_
  refine hz_iload_n hO dX10_valve_4 rfl 1 rfl ?_
  obtain ⟨r1, M2, hq3, h⟩ := hz_ct_e h
  refine hz_callVi (as := [.int a1]) (rest := []) hO (c_X3_isValve l w hN a1 hq3) hz_cal_X3_isValve hz_K_2 hz_sh_1 (hz_lt_1 hN) tw_5_154 (Nat.le_of_ble_eq_true rfl) rfl rfl (Nat.le_of_ble_eq_true rfl) dX10_valve_5 ?_
  rcases hz_xt_e h with ⟨r4, M5, hq6, h⟩ | hx7
  · refine hz_callSv (as := [.int r1]) (rest := []) hO (c_X10_need l w hN r1 hq6) hz_cal_X10_need tw_5_111 (Nat.le_of_ble_eq_true rfl) rfl rfl (Nat.le_of_ble_eq_true rfl) dX10_valve_8 ?_
    refine hz_iload_n hO dX10_valve_11 rfl 2 rfl ?_
    obtain ⟨r8, M9, hq10, h⟩ := hz_ct_e h
    refine hz_callSi (as := [.int a2]) (rest := []) hO (c_X10_isOpening l w hN a2 hq10) hz_cal_X10_isOpening tw_6_13 (Nat.le_of_ble_eq_true rfl) rfl rfl (Nat.le_of_ble_eq_true rfl) dX10_valve_12 ?_
    rcases hz_xt_e h with ⟨r11, M12, hq13, h⟩ | hx14
    · refine hz_callSv (as := [.int r8]) (rest := []) hO (c_X10_need l w hN r8 hq13) hz_cal_X10_need tw_5_111 (Nat.le_of_ble_eq_true rfl) rfl rfl (Nat.le_of_ble_eq_true rfl) dX10_valve_15 ?_
      cases h
    · exact hz_xS (as := [.int r8]) (rest := []) hO hxt (cx_X10_need l hl w hN r8 hx14) hz_cal_X10_need tw_5_111 (Nat.le_of_ble_eq_true rfl) rfl rfl (Nat.le_of_ble_eq_true rfl) dX10_valve_15
  · exact hz_xS (as := [.int r1]) (rest := []) hO hxt (cx_X10_need l hl w hN r1 hx7) hz_cal_X10_need tw_5_111 (Nat.le_of_ble_eq_true rfl) rfl rfl (Nat.le_of_ble_eq_true rfl) dX10_valve_8
def fx_X10_waits (a1 : Int32) (M : hz_M) : hz_O :=
  hz_jn (fun (v1_1 : Int32) (q2 : Int32) (M3 : hz_M) =>
    hz_xt (f_X10_need q2 M3) (fx_X10_need q2 M3) fun r4 M5 =>
      none
    ) fun k8 =>
  hz_jn (fun (v1_9 : Int32) (M10 : hz_M) =>
    k8 v1_9 (0 : Int32) M10
    ) fun k11 =>
  if a1 < (1 : Int32) then
    k11 a1 M
  else
    if (60 : Int32) < a1 then
      k11 a1 M
    else
      k8 a1 (1 : Int32) M
set_option maxRecDepth 100000 in
set_option maxHeartbeats 4000000 in
theorem cx_X10_waits (l : Launch) (hl : l.stackTraces = false) (w : hz_C) {N : Nat} (hN : 178 ≤ N) (a1 : Int32) {M : hz_M} {rE : Int32} {ME : hz_M} (h : fx_X10_waits a1 M = some (rE, ME)) : hz_Cx l yX10_waits cX10_waits 2 (some .int) 7 w N [.ref (hz_ad w 0), .int a1] M rE ME := by
  refine hz_ofX (by decide) rfl (Nat.le_of_ble_eq_true rfl) tw_6_90 ?_
  intro p e s m args below meth c hO hxt
  show hz_G p l e 7 hz_z1 s m args below meth c w N 2 _ M 0 [(0, .ref (hz_ad w 0)), (1, .int a1)] []
  unfold fx_X10_waits at h
  refine hz_iload_n hO dX10_waits_0 rfl 1 rfl ?_
  refine hz_iconst (v := (1 : Int32)) hO dX10_waits_1 (by decide) ?_
  obtain ⟨k8, hk8, h⟩ := hz_jn_e h
  have gk8 : ∀ (v1_1 : Int32) (q2 : Int32) (M3 : hz_M), k8 v1_1 q2 M3 = some (rE, ME) → hz_G p l e 7 hz_z1 s m args below meth c w N 2 (vx_MQ below (hz_nQ w) (hz_XC w N rE ME) args s 1 6 (hz_A w)) M3 16 [(0, .ref (hz_ad w 0)), (1, .int v1_1)] [.int q2] := by
    intro v1_1 q2 M3 h
    rw [hk8] at h
    dsimp only at h
    rcases hz_xt_e h with ⟨r4, M5, hq6, h⟩ | hx7
    · refine hz_callSv (as := [.int q2]) (rest := []) hO (c_X10_need l w hN q2 hq6) hz_cal_X10_need tw_5_111 (Nat.le_of_ble_eq_true rfl) rfl rfl (Nat.le_of_ble_eq_true rfl) dX10_waits_16 ?_
      cases h
    · exact hz_xS (as := [.int q2]) (rest := []) hO hxt (cx_X10_need l hl w hN q2 hx7) hz_cal_X10_need tw_5_111 (Nat.le_of_ble_eq_true rfl) rfl rfl (Nat.le_of_ble_eq_true rfl) dX10_waits_16
  clear hk8
  obtain ⟨k11, hk11, h⟩ := hz_jn_e h
  have gk11 : ∀ (v1_9 : Int32) (M10 : hz_M), k11 v1_9 M10 = some (rE, ME) → hz_G p l e 7 hz_z1 s m args below meth c w N 2 (vx_MQ below (hz_nQ w) (hz_XC w N rE ME) args s 1 6 (hz_A w)) M10 15 [(0, .ref (hz_ad w 0)), (1, .int v1_9)] [] := by
    intro v1_9 M10 h
    rw [hk11] at h
    dsimp only at h
    refine hz_iconst (v := (0 : Int32)) hO dX10_waits_15 (by decide) ?_
    exact hz_ls [0, 1] rfl (gk8 v1_9 (0 : Int32) M10 h)
  clear hk11
  refine hz_icmp_lt (tgt := 15) hO dX10_waits_2 (by decide) (fun hc12 => ?_) (fun hc12 => ?_)
  · rw [if_pos hc12] at h
    exact hz_ls [0, 1] rfl (gk11 a1 M h)
  · rw [if_neg hc12] at h
    refine hz_iload_n hO dX10_waits_5 rfl 1 rfl ?_
    refine hz_bipush (v := (60 : Int32)) hO dX10_waits_6 (by decide) ?_
    refine hz_icmp_gt (tgt := 15) hO dX10_waits_8 (by decide) (fun hc13 => ?_) (fun hc13 => ?_)
    · rw [if_pos hc13] at h
      exact hz_ls [0, 1] rfl (gk11 a1 M h)
    · rw [if_neg hc13] at h
      refine hz_iconst (v := (1 : Int32)) hO dX10_waits_11 (by decide) ?_
      refine hz_goto (tgt := 16) hO dX10_waits_12 (by decide) ?_
      exact hz_ls [0, 1] rfl (gk8 a1 (1 : Int32) M h)
def fx_X10_set (a1 : Int32) (a2 : Int32) (M : hz_M) : hz_O :=
  hz_ct (f_X10_isSetting a1 a2 M) fun r1 M2 =>
  hz_xt (f_X10_need r1 M2) (fx_X10_need r1 M2) fun r4 M5 =>
    none
set_option maxRecDepth 100000 in
set_option maxHeartbeats 4000000 in
theorem cx_X10_set (l : Launch) (hl : l.stackTraces = false) (w : hz_C) {N : Nat} (hN : 178 ≤ N) (a1 : Int32) (a2 : Int32) {M : hz_M} {rE : Int32} {ME : hz_M} (h : fx_X10_set a1 a2 M = some (rE, ME)) : hz_Cx l yX10_set cX10_set 4 (some .int) 7 w N [.ref (hz_ad w 0), .int a1, .int a2] M rE ME := by
  refine hz_ofX (by decide) rfl (Nat.le_of_ble_eq_true rfl) tw_6_99 ?_
  intro p e s m args below meth c hO hxt
  show hz_G p l e 7 hz_z1 s m args below meth c w N 4 _ M 0 [(0, .ref (hz_ad w 0)), (1, .int a1), (2, .int a2)] []
  unfold fx_X10_set at h
  refine hz_iload_n hO dX10_set_0 rfl 1 rfl ?_
  refine hz_iload_n hO dX10_set_1 rfl 2 rfl ?_
  obtain ⟨r1, M2, hq3, h⟩ := hz_ct_e h
  refine hz_callSi (as := [.int a1, .int a2]) (rest := []) hO (c_X10_isSetting l w hN a1 a2 hq3) hz_cal_X10_isSetting tw_6_100 (Nat.le_of_ble_eq_true rfl) rfl rfl (Nat.le_of_ble_eq_true rfl) dX10_set_2 ?_
  rcases hz_xt_e h with ⟨r4, M5, hq6, h⟩ | hx7
  · refine hz_callSv (as := [.int r1]) (rest := []) hO (c_X10_need l w hN r1 hq6) hz_cal_X10_need tw_5_111 (Nat.le_of_ble_eq_true rfl) rfl rfl (Nat.le_of_ble_eq_true rfl) dX10_set_5 ?_
    cases h
  · exact hz_xS (as := [.int r1]) (rest := []) hO hxt (cx_X10_need l hl w hN r1 hx7) hz_cal_X10_need tw_5_111 (Nat.le_of_ble_eq_true rfl) rfl rfl (Nat.le_of_ble_eq_true rfl) dX10_set_5
def fx_X10_save (a1 : Int32) (M : hz_M) : hz_O :=
  hz_ct (f_X2_isSlot a1 M) fun r1 M2 =>
  hz_xt (f_X10_need r1 M2) (fx_X10_need r1 M2) fun r4 M5 =>
    none
set_option maxRecDepth 100000 in
set_option maxHeartbeats 4000000 in
theorem cx_X10_save (l : Launch) (hl : l.stackTraces = false) (w : hz_C) {N : Nat} (hN : 178 ≤ N) (a1 : Int32) {M : hz_M} {rE : Int32} {ME : hz_M} (h : fx_X10_save a1 M = some (rE, ME)) : hz_Cx l yX10_save cX10_save 2 (some .int) 7 w N [.ref (hz_ad w 0), .int a1] M rE ME := by
  refine hz_ofX (by decide) rfl (Nat.le_of_ble_eq_true rfl) tw_6_110 ?_
  intro p e s m args below meth c hO hxt
  show hz_G p l e 7 hz_z1 s m args below meth c w N 2 _ M 0 [(0, .ref (hz_ad w 0)), (1, .int a1)] []
  unfold fx_X10_save at h
  refine hz_iload_n hO dX10_save_0 rfl 1 rfl ?_
  obtain ⟨r1, M2, hq3, h⟩ := hz_ct_e h
  refine hz_callSi (as := [.int a1]) (rest := []) hO (c_X2_isSlot l w hN a1 hq3) hz_cal_X2_isSlot tw_6_111 (Nat.le_of_ble_eq_true rfl) rfl rfl (Nat.le_of_ble_eq_true rfl) dX10_save_1 ?_
  rcases hz_xt_e h with ⟨r4, M5, hq6, h⟩ | hx7
  · refine hz_callSv (as := [.int r1]) (rest := []) hO (c_X10_need l w hN r1 hq6) hz_cal_X10_need tw_5_111 (Nat.le_of_ble_eq_true rfl) rfl rfl (Nat.le_of_ble_eq_true rfl) dX10_save_4 ?_
    cases h
  · exact hz_xS (as := [.int r1]) (rest := []) hO hxt (cx_X10_need l hl w hN r1 hx7) hz_cal_X10_need tw_5_111 (Nat.le_of_ble_eq_true rfl) rfl rfl (Nat.le_of_ble_eq_true rfl) dX10_save_4
def fx_X10_restore (a1 : Int32) (M : hz_M) : hz_O :=
  hz_ct (f_X2_isSlot a1 M) fun r1 M2 =>
  hz_xt (f_X10_need r1 M2) (fx_X10_need r1 M2) fun r4 M5 =>
    hz_ct (f_X2_bringBack a1 M5) fun r8 M9 =>
    if r8 = 0 then
      some (2, M9)
    else
      none
set_option maxRecDepth 100000 in
set_option maxHeartbeats 4000000 in
theorem cx_X10_restore (l : Launch) (hl : l.stackTraces = false) (w : hz_C) {N : Nat} (hN : 178 ≤ N) (a1 : Int32) {M : hz_M} {rE : Int32} {ME : hz_M} (h : fx_X10_restore a1 M = some (rE, ME)) : hz_Cx l yX10_restore cX10_restore 2 (some .int) 7 w N [.ref (hz_ad w 0), .int a1] M rE ME := by
  refine hz_ofX (by decide) rfl (Nat.le_of_ble_eq_true rfl) tw_6_125 ?_
  intro p e s m args below meth c hO hxt
  show hz_G p l e 7 hz_z1 s m args below meth c w N 2 _ M 0 [(0, .ref (hz_ad w 0)), (1, .int a1)] []
  unfold fx_X10_restore at h
  refine hz_iload_n hO dX10_restore_0 rfl 1 rfl ?_
  obtain ⟨r1, M2, hq3, h⟩ := hz_ct_e h
  refine hz_callSi (as := [.int a1]) (rest := []) hO (c_X2_isSlot l w hN a1 hq3) hz_cal_X2_isSlot tw_6_111 (Nat.le_of_ble_eq_true rfl) rfl rfl (Nat.le_of_ble_eq_true rfl) dX10_restore_1 ?_
  rcases hz_xt_e h with ⟨r4, M5, hq6, h⟩ | hx7
  · refine hz_callSv (as := [.int r1]) (rest := []) hO (c_X10_need l w hN r1 hq6) hz_cal_X10_need tw_5_111 (Nat.le_of_ble_eq_true rfl) rfl rfl (Nat.le_of_ble_eq_true rfl) dX10_restore_4 ?_
    refine hz_aload_n hO dX10_restore_7 rfl 0 rfl ?_
    refine hz_getR (k := 7) hO 32 hz_K_8 hz_sh_0 (hz_lt_0 hN) rfl (Nat.le_of_ble_eq_true rfl) tw_3_50 rfl dX10_restore_8 ?_
    refine hz_iload_n hO dX10_restore_11 rfl 1 rfl ?_
    refine hz_aload_n hO dX10_restore_12 rfl 0 rfl ?_
    refine hz_getR (k := 3) hO 11 hz_K_8 hz_sh_0 (hz_lt_0 hN) rfl (Nat.le_of_ble_eq_true rfl) tw_3_46 rfl dX10_restore_13 ?_
    obtain ⟨r8, M9, hq10, h⟩ := hz_ct_e h
    refine hz_callVi (as := [.int a1, .ref (hz_ad w 11)]) (rest := []) hO (c_X2_bringBack l w hN a1 hq10) hz_cal_X2_bringBack hz_K_1 hz_sh_32 (hz_lt_32 hN) tw_6_126 (Nat.le_of_ble_eq_true rfl) rfl rfl (Nat.le_of_ble_eq_true rfl) dX10_restore_16 ?_
    refine hz_if_ne (tgt := 33) hO dX10_restore_19 (by decide) (fun hc11 => ?_) (fun hc11 => ?_)
    · rw [if_neg hc11] at h
      cases h
    · rw [if_pos hc11] at h
      refine hz_nameX (hz_some_e h).1 (hz_some_e h).2 ?_
      exact hz_thrN (i := 18) hl hO hxt (List.mem_of_getElem? (i := 4) rfl) (Nat.le_of_ble_eq_true rfl) (Nat.le_of_ble_eq_true rfl) dX10_restore_22 dX10_restore_25 dX10_restore_26 dX10_restore_29 dX10_restore_32
  · exact hz_xS (as := [.int r1]) (rest := []) hO hxt (cx_X10_need l hl w hN r1 hx7) hz_cal_X10_need tw_5_111 (Nat.le_of_ble_eq_true rfl) rfl rfl (Nat.le_of_ble_eq_true rfl) dX10_restore_4
