-- X10_size X10_need X10_guest X10_towel X10_peg X10_locker X10_opening X10_step X10_letter X10_why X10_highest X10_account X10_heatIn X10_downIn X10_dryIn X10_ifValve X10_set X10_undo X10_save X10_restore X10_change X10_enter X10_sit X10_hall X10_hang X10_take X10_leave X10_speak X10_wash X10_valve X10_waits X10_load X10_play
def f_X10_size (a1 : Int32) (M : hz_M) : hz_O :=
  if a1 = 0 then
    some ((M 1 3), M)
  else
  if a1 = 1 then
    some ((M 1 4), M)
  else
  if a1 = 2 then
    some ((M 1 5), M)
  else
  if a1 = 3 then
    some ((M 1 6), M)
  else
  if a1 = 4 then
    some ((M 1 7), M)
  else
  if a1 = 5 then
    some ((M 1 8), M)
  else
  if a1 = 6 then
    some ((M 11 17), M)
  else
  if a1 = 7 then
    some ((M 11 18), M)
  else
  if a1 = 8 then
    some ((M 11 19), M)
  else
  if a1 = 9 then
    some ((M 11 14), M)
  else
  if a1 = 10 then
    some ((M 11 15), M)
  else
  if a1 = 11 then
    hz_ct (f_X7_guestsInside M) fun r13 M14 =>
    some (r13, M14)
  else
  if a1 = 12 then
    hz_ct (f_X7_guestsInside M) fun r17 M18 =>
    hz_ct (f_X7_guestsAt (0 : Int32) M18) fun r20 M21 =>
    some ((r17 - r20), M21)
  else
  if a1 = 13 then
    hz_ct (f_X7_towelsInBasket M) fun r24 M25 =>
    some (r24, M25)
  else
  if a1 = 14 then
    hz_ct (f_X7_lockersInUse M) fun r28 M29 =>
    some (((M 1 4) - r28), M29)
  else
  if a1 = 15 then
    hz_ct (f_X7_isSilence M) fun r32 M33 =>
    if r32 = 0 then
      some ((0 : Int32), M33)
    else
      some ((1 : Int32), M33)
  else
  if a1 = 16 then
    some ((M 32 4), M)
  else
  none
set_option maxRecDepth 100000 in
set_option maxHeartbeats 4000000 in
theorem c_X10_size (l : Launch) (w : hz_C) {N : Nat} (hN : 178 ≤ N) (a1 : Int32) {M : hz_M} {rE : Int32} {ME : hz_M} (h : f_X10_size a1 M = some (rE, ME)) : hz_Ct l yX10_size cX10_size 2 (some .int) 2 w N [.ref (hz_ad w 0), .int a1] M (hz_Qi w N rE ME) := by
  refine hz_ofW (by decide) rfl (Nat.le_of_ble_eq_true rfl) tw_5_35 ?_
  intro p e s m args below meth c hO
  show hz_G p l e 2 hz_z0 s m args below meth c w N 2 _ M 0 [(0, .ref (hz_ad w 0)), (1, .int a1)] []
  unfold f_X10_size at h
  refine hz_iload_n hO dX10_size_0 rfl 1 rfl ?_
  by_cases hc1 : a1 = (0 : Int32)
  · rw [if_pos hc1] at h
    refine hz_tin (tgt := 84) hO hc1 dX10_size_1 (by decide) (by decide) rfl (by decide) ?_
    refine hz_aload_n hO dX10_size_84 rfl 0 rfl ?_
    refine hz_getR (k := 0) hO 1 hz_K_8 hz_sh_0 (hz_lt_0 hN) rfl (Nat.le_of_ble_eq_true rfl) tw_3_43 rfl dX10_size_85 ?_
    refine hz_getI (k := 3) hO hz_K_2 hz_sh_1 (hz_lt_1 hN) rfl (Nat.le_of_ble_eq_true rfl) tw_1_51 rfl dX10_size_88 ?_
    exact hz_nameM (hz_some_e h).2.symm (hz_name (hz_some_e h).1.symm (hz_iret hO dX10_size_91))
  · rw [if_neg hc1] at h
    by_cases hc2 : a1 = (1 : Int32)
    · rw [if_pos hc2] at h
      refine hz_tin (tgt := 92) hO hc2 dX10_size_1 (by decide) (by decide) rfl (by decide) ?_
      refine hz_aload_n hO dX10_size_92 rfl 0 rfl ?_
      refine hz_getR (k := 0) hO 1 hz_K_8 hz_sh_0 (hz_lt_0 hN) rfl (Nat.le_of_ble_eq_true rfl) tw_3_43 rfl dX10_size_93 ?_
      refine hz_getI (k := 4) hO hz_K_2 hz_sh_1 (hz_lt_1 hN) rfl (Nat.le_of_ble_eq_true rfl) tw_1_54 rfl dX10_size_96 ?_
      exact hz_nameM (hz_some_e h).2.symm (hz_name (hz_some_e h).1.symm (hz_iret hO dX10_size_99))
    · rw [if_neg hc2] at h
      by_cases hc3 : a1 = (2 : Int32)
      · rw [if_pos hc3] at h
        refine hz_tin (tgt := 100) hO hc3 dX10_size_1 (by decide) (by decide) rfl (by decide) ?_
        refine hz_aload_n hO dX10_size_100 rfl 0 rfl ?_
        refine hz_getR (k := 0) hO 1 hz_K_8 hz_sh_0 (hz_lt_0 hN) rfl (Nat.le_of_ble_eq_true rfl) tw_3_43 rfl dX10_size_101 ?_
        refine hz_getI (k := 5) hO hz_K_2 hz_sh_1 (hz_lt_1 hN) rfl (Nat.le_of_ble_eq_true rfl) tw_1_59 rfl dX10_size_104 ?_
        exact hz_nameM (hz_some_e h).2.symm (hz_name (hz_some_e h).1.symm (hz_iret hO dX10_size_107))
      · rw [if_neg hc3] at h
        by_cases hc4 : a1 = (3 : Int32)
        · rw [if_pos hc4] at h
          refine hz_tin (tgt := 108) hO hc4 dX10_size_1 (by decide) (by decide) rfl (by decide) ?_
          refine hz_aload_n hO dX10_size_108 rfl 0 rfl ?_
          refine hz_getR (k := 0) hO 1 hz_K_8 hz_sh_0 (hz_lt_0 hN) rfl (Nat.le_of_ble_eq_true rfl) tw_3_43 rfl dX10_size_109 ?_
          refine hz_getI (k := 6) hO hz_K_2 hz_sh_1 (hz_lt_1 hN) rfl (Nat.le_of_ble_eq_true rfl) tw_1_63 rfl dX10_size_112 ?_
          exact hz_nameM (hz_some_e h).2.symm (hz_name (hz_some_e h).1.symm (hz_iret hO dX10_size_115))
        · rw [if_neg hc4] at h
          by_cases hc5 : a1 = (4 : Int32)
          · rw [if_pos hc5] at h
            refine hz_tin (tgt := 116) hO hc5 dX10_size_1 (by decide) (by decide) rfl (by decide) ?_
            refine hz_aload_n hO dX10_size_116 rfl 0 rfl ?_
            refine hz_getR (k := 0) hO 1 hz_K_8 hz_sh_0 (hz_lt_0 hN) rfl (Nat.le_of_ble_eq_true rfl) tw_3_43 rfl dX10_size_117 ?_
            refine hz_getI (k := 7) hO hz_K_2 hz_sh_1 (hz_lt_1 hN) rfl (Nat.le_of_ble_eq_true rfl) tw_1_66 rfl dX10_size_120 ?_
            exact hz_nameM (hz_some_e h).2.symm (hz_name (hz_some_e h).1.symm (hz_iret hO dX10_size_123))
          · rw [if_neg hc5] at h
            by_cases hc6 : a1 = (5 : Int32)
            · rw [if_pos hc6] at h
              refine hz_tin (tgt := 124) hO hc6 dX10_size_1 (by decide) (by decide) rfl (by decide) ?_
              refine hz_aload_n hO dX10_size_124 rfl 0 rfl ?_
              refine hz_getR (k := 0) hO 1 hz_K_8 hz_sh_0 (hz_lt_0 hN) rfl (Nat.le_of_ble_eq_true rfl) tw_3_43 rfl dX10_size_125 ?_
              refine hz_getI (k := 8) hO hz_K_2 hz_sh_1 (hz_lt_1 hN) rfl (Nat.le_of_ble_eq_true rfl) tw_1_70 rfl dX10_size_128 ?_
              exact hz_nameM (hz_some_e h).2.symm (hz_name (hz_some_e h).1.symm (hz_iret hO dX10_size_131))
            · rw [if_neg hc6] at h
              by_cases hc7 : a1 = (6 : Int32)
              · rw [if_pos hc7] at h
                refine hz_tin (tgt := 132) hO hc7 dX10_size_1 (by decide) (by decide) rfl (by decide) ?_
                refine hz_aload_n hO dX10_size_132 rfl 0 rfl ?_
                refine hz_getR (k := 3) hO 11 hz_K_8 hz_sh_0 (hz_lt_0 hN) rfl (Nat.le_of_ble_eq_true rfl) tw_3_46 rfl dX10_size_133 ?_
                refine hz_getI (k := 17) hO hz_K_5 hz_sh_11 (hz_lt_11 hN) rfl (Nat.le_of_ble_eq_true rfl) tw_1_204 rfl dX10_size_136 ?_
                exact hz_nameM (hz_some_e h).2.symm (hz_name (hz_some_e h).1.symm (hz_iret hO dX10_size_139))
              · rw [if_neg hc7] at h
                by_cases hc8 : a1 = (7 : Int32)
                · rw [if_pos hc8] at h
                  refine hz_tin (tgt := 140) hO hc8 dX10_size_1 (by decide) (by decide) rfl (by decide) ?_
                  refine hz_aload_n hO dX10_size_140 rfl 0 rfl ?_
                  refine hz_getR (k := 3) hO 11 hz_K_8 hz_sh_0 (hz_lt_0 hN) rfl (Nat.le_of_ble_eq_true rfl) tw_3_46 rfl dX10_size_141 ?_
                  refine hz_getI (k := 18) hO hz_K_5 hz_sh_11 (hz_lt_11 hN) rfl (Nat.le_of_ble_eq_true rfl) tw_1_206 rfl dX10_size_144 ?_
                  exact hz_nameM (hz_some_e h).2.symm (hz_name (hz_some_e h).1.symm (hz_iret hO dX10_size_147))
                · rw [if_neg hc8] at h
                  by_cases hc9 : a1 = (8 : Int32)
                  · rw [if_pos hc9] at h
                    refine hz_tin (tgt := 148) hO hc9 dX10_size_1 (by decide) (by decide) rfl (by decide) ?_
                    refine hz_aload_n hO dX10_size_148 rfl 0 rfl ?_
                    refine hz_getR (k := 3) hO 11 hz_K_8 hz_sh_0 (hz_lt_0 hN) rfl (Nat.le_of_ble_eq_true rfl) tw_3_46 rfl dX10_size_149 ?_
                    refine hz_getI (k := 19) hO hz_K_5 hz_sh_11 (hz_lt_11 hN) rfl (Nat.le_of_ble_eq_true rfl) tw_1_208 rfl dX10_size_152 ?_
                    exact hz_nameM (hz_some_e h).2.symm (hz_name (hz_some_e h).1.symm (hz_iret hO dX10_size_155))
                  · rw [if_neg hc9] at h
                    by_cases hc10 : a1 = (9 : Int32)
                    · rw [if_pos hc10] at h
                      refine hz_tin (tgt := 156) hO hc10 dX10_size_1 (by decide) (by decide) rfl (by decide) ?_
                      refine hz_aload_n hO dX10_size_156 rfl 0 rfl ?_
                      refine hz_getR (k := 3) hO 11 hz_K_8 hz_sh_0 (hz_lt_0 hN) rfl (Nat.le_of_ble_eq_true rfl) tw_3_46 rfl dX10_size_157 ?_
                      refine hz_getI (k := 14) hO hz_K_5 hz_sh_11 (hz_lt_11 hN) rfl (Nat.le_of_ble_eq_true rfl) tw_1_198 rfl dX10_size_160 ?_
                      exact hz_nameM (hz_some_e h).2.symm (hz_name (hz_some_e h).1.symm (hz_iret hO dX10_size_163))
                    · rw [if_neg hc10] at h
                      by_cases hc11 : a1 = (10 : Int32)
                      · rw [if_pos hc11] at h
                        refine hz_tin (tgt := 164) hO hc11 dX10_size_1 (by decide) (by decide) rfl (by decide) ?_
                        refine hz_aload_n hO dX10_size_164 rfl 0 rfl ?_
                        refine hz_getR (k := 3) hO 11 hz_K_8 hz_sh_0 (hz_lt_0 hN) rfl (Nat.le_of_ble_eq_true rfl) tw_3_46 rfl dX10_size_165 ?_
                        refine hz_getI (k := 15) hO hz_K_5 hz_sh_11 (hz_lt_11 hN) rfl (Nat.le_of_ble_eq_true rfl) tw_1_200 rfl dX10_size_168 ?_
                        exact hz_nameM (hz_some_e h).2.symm (hz_name (hz_some_e h).1.symm (hz_iret hO dX10_size_171))
                      · rw [if_neg hc11] at h
                        by_cases hc12 : a1 = (11 : Int32)
                        · rw [if_pos hc12] at h
                          refine hz_tin (tgt := 172) hO hc12 dX10_size_1 (by decide) (by decide) rfl (by decide) ?_
                          refine hz_aload_n hO dX10_size_172 rfl 0 rfl ?_
                          refine hz_getR (k := 3) hO 11 hz_K_8 hz_sh_0 (hz_lt_0 hN) rfl (Nat.le_of_ble_eq_true rfl) tw_3_46 rfl dX10_size_173 ?_
                          obtain ⟨r13, M14, hq15, h⟩ := hz_ct_e h
                          refine hz_callVi (as := []) (rest := []) hO (c_X7_guestsInside l w hN hq15) hz_cal_X7_guestsInside hz_K_5 hz_sh_11 (hz_lt_11 hN) tw_4_152 (Nat.le_of_ble_eq_true rfl) rfl rfl (Nat.le_of_ble_eq_true rfl) dX10_size_176 ?_
                          exact hz_nameM (hz_some_e h).2.symm (hz_name (hz_some_e h).1.symm (hz_iret hO dX10_size_179))
                        · rw [if_neg hc12] at h
                          by_cases hc16 : a1 = (12 : Int32)
                          · rw [if_pos hc16] at h
                            refine hz_tin (tgt := 180) hO hc16 dX10_size_1 (by decide) (by decide) rfl (by decide) ?_
                            refine hz_aload_n hO dX10_size_180 rfl 0 rfl ?_
                            refine hz_getR (k := 3) hO 11 hz_K_8 hz_sh_0 (hz_lt_0 hN) rfl (Nat.le_of_ble_eq_true rfl) tw_3_46 rfl dX10_size_181 ?_
                            obtain ⟨r17, M18, hq19, h⟩ := hz_ct_e h
                            refine hz_callVi (as := []) (rest := []) hO (c_X7_guestsInside l w hN hq19) hz_cal_X7_guestsInside hz_K_5 hz_sh_11 (hz_lt_11 hN) tw_4_152 (Nat.le_of_ble_eq_true rfl) rfl rfl (Nat.le_of_ble_eq_true rfl) dX10_size_184 ?_
                            refine hz_aload_n hO dX10_size_187 rfl 0 rfl ?_
                            refine hz_getR (k := 3) hO 11 hz_K_8 hz_sh_0 (hz_lt_0 hN) rfl (Nat.le_of_ble_eq_true rfl) tw_3_46 rfl dX10_size_188 ?_
                            refine hz_iconst (v := (0 : Int32)) hO dX10_size_191 (by decide) ?_
                            obtain ⟨r20, M21, hq22, h⟩ := hz_ct_e h
                            refine hz_callVi (as := [.int (0 : Int32)]) (rest := [.int r17]) hO (c_X7_guestsAt l w hN (0 : Int32) hq22) hz_cal_X7_guestsAt hz_K_5 hz_sh_11 (hz_lt_11 hN) tw_5_36 (Nat.le_of_ble_eq_true rfl) rfl rfl (Nat.le_of_ble_eq_true rfl) dX10_size_192 ?_
                            refine hz_isub hO dX10_size_195 ?_
                            exact hz_nameM (hz_some_e h).2.symm (hz_name (hz_some_e h).1.symm (hz_iret hO dX10_size_196))
                          · rw [if_neg hc16] at h
                            by_cases hc23 : a1 = (13 : Int32)
                            · rw [if_pos hc23] at h
                              refine hz_tin (tgt := 197) hO hc23 dX10_size_1 (by decide) (by decide) rfl (by decide) ?_
                              refine hz_aload_n hO dX10_size_197 rfl 0 rfl ?_
                              refine hz_getR (k := 3) hO 11 hz_K_8 hz_sh_0 (hz_lt_0 hN) rfl (Nat.le_of_ble_eq_true rfl) tw_3_46 rfl dX10_size_198 ?_
                              obtain ⟨r24, M25, hq26, h⟩ := hz_ct_e h
                              refine hz_callVi (as := []) (rest := []) hO (c_X7_towelsInBasket l w hN hq26) hz_cal_X7_towelsInBasket hz_K_5 hz_sh_11 (hz_lt_11 hN) tw_4_164 (Nat.le_of_ble_eq_true rfl) rfl rfl (Nat.le_of_ble_eq_true rfl) dX10_size_201 ?_
                              exact hz_nameM (hz_some_e h).2.symm (hz_name (hz_some_e h).1.symm (hz_iret hO dX10_size_204))
                            · rw [if_neg hc23] at h
                              by_cases hc27 : a1 = (14 : Int32)
                              · rw [if_pos hc27] at h
                                refine hz_tin (tgt := 205) hO hc27 dX10_size_1 (by decide) (by decide) rfl (by decide) ?_
                                refine hz_aload_n hO dX10_size_205 rfl 0 rfl ?_
                                refine hz_getR (k := 0) hO 1 hz_K_8 hz_sh_0 (hz_lt_0 hN) rfl (Nat.le_of_ble_eq_true rfl) tw_3_43 rfl dX10_size_206 ?_
                                refine hz_getI (k := 4) hO hz_K_2 hz_sh_1 (hz_lt_1 hN) rfl (Nat.le_of_ble_eq_true rfl) tw_1_54 rfl dX10_size_209 ?_
                                refine hz_aload_n hO dX10_size_212 rfl 0 rfl ?_
                                refine hz_getR (k := 3) hO 11 hz_K_8 hz_sh_0 (hz_lt_0 hN) rfl (Nat.le_of_ble_eq_true rfl) tw_3_46 rfl dX10_size_213 ?_
                                obtain ⟨r28, M29, hq30, h⟩ := hz_ct_e h
                                refine hz_callVi (as := []) (rest := [.int (M 1 4)]) hO (c_X7_lockersInUse l w hN hq30) hz_cal_X7_lockersInUse hz_K_5 hz_sh_11 (hz_lt_11 hN) tw_4_169 (Nat.le_of_ble_eq_true rfl) rfl rfl (Nat.le_of_ble_eq_true rfl) dX10_size_216 ?_
                                refine hz_isub hO dX10_size_219 ?_
                                exact hz_nameM (hz_some_e h).2.symm (hz_name (hz_some_e h).1.symm (hz_iret hO dX10_size_220))
                              · rw [if_neg hc27] at h
                                by_cases hc31 : a1 = (15 : Int32)
                                · rw [if_pos hc31] at h
                                  refine hz_tin (tgt := 221) hO hc31 dX10_size_1 (by decide) (by decide) rfl (by decide) ?_
                                  refine hz_aload_n hO dX10_size_221 rfl 0 rfl ?_
                                  refine hz_getR (k := 3) hO 11 hz_K_8 hz_sh_0 (hz_lt_0 hN) rfl (Nat.le_of_ble_eq_true rfl) tw_3_46 rfl dX10_size_222 ?_
                                  obtain ⟨r32, M33, hq34, h⟩ := hz_ct_e h
                                  refine hz_callVi (as := []) (rest := []) hO (c_X7_isSilence l w hN hq34) hz_cal_X7_isSilence hz_K_5 hz_sh_11 (hz_lt_11 hN) tw_4_202 (Nat.le_of_ble_eq_true rfl) rfl rfl (Nat.le_of_ble_eq_true rfl) dX10_size_225 ?_
                                  refine hz_if_eq (tgt := 235) hO dX10_size_228 (by decide) (fun hc35 => ?_) (fun hc35 => ?_)
                                  · rw [if_pos hc35] at h
                                    refine hz_iconst (v := (0 : Int32)) hO dX10_size_235 (by decide) ?_
                                    exact hz_nameM (hz_some_e h).2.symm (hz_name (hz_some_e h).1.symm (hz_iret hO dX10_size_236))
                                  · rw [if_neg hc35] at h
                                    refine hz_iconst (v := (1 : Int32)) hO dX10_size_231 (by decide) ?_
                                    refine hz_goto (tgt := 236) hO dX10_size_232 (by decide) ?_
                                    exact hz_nameM (hz_some_e h).2.symm (hz_name (hz_some_e h).1.symm (hz_iret hO dX10_size_236))
                                · rw [if_neg hc31] at h
                                  by_cases hc36 : a1 = (16 : Int32)
                                  · rw [if_pos hc36] at h
                                    refine hz_tin (tgt := 237) hO hc36 dX10_size_1 (by decide) (by decide) rfl (by decide) ?_
                                    refine hz_aload_n hO dX10_size_237 rfl 0 rfl ?_
                                    refine hz_getR (k := 7) hO 32 hz_K_8 hz_sh_0 (hz_lt_0 hN) rfl (Nat.le_of_ble_eq_true rfl) tw_3_50 rfl dX10_size_238 ?_
                                    refine hz_getI (k := 4) hO hz_K_1 hz_sh_32 (hz_lt_32 hN) rfl (Nat.le_of_ble_eq_true rfl) tw_2_95 rfl dX10_size_241 ?_
                                    exact hz_nameM (hz_some_e h).2.symm (hz_name (hz_some_e h).1.symm (hz_iret hO dX10_size_244))
                                  · rw [if_neg hc36] at h
                                    have hn0 : ¬ a1.toInt = 0 := lv_neT hc1 rfl
                                    have hn1 : ¬ a1.toInt = 1 := lv_neT hc2 rfl
                                    have hn2 : ¬ a1.toInt = 2 := lv_neT hc3 rfl
                                    have hn3 : ¬ a1.toInt = 3 := lv_neT hc4 rfl
                                    have hn4 : ¬ a1.toInt = 4 := lv_neT hc5 rfl
                                    have hn5 : ¬ a1.toInt = 5 := lv_neT hc6 rfl
                                    have hn6 : ¬ a1.toInt = 6 := lv_neT hc7 rfl
                                    have hn7 : ¬ a1.toInt = 7 := lv_neT hc8 rfl
                                    have hn8 : ¬ a1.toInt = 8 := lv_neT hc9 rfl
                                    have hn9 : ¬ a1.toInt = 9 := lv_neT hc10 rfl
                                    have hn10 : ¬ a1.toInt = 10 := lv_neT hc11 rfl
                                    have hn11 : ¬ a1.toInt = 11 := lv_neT hc12 rfl
                                    have hn12 : ¬ a1.toInt = 12 := lv_neT hc16 rfl
                                    have hn13 : ¬ a1.toInt = 13 := lv_neT hc23 rfl
                                    have hn14 : ¬ a1.toInt = 14 := lv_neT hc27 rfl
                                    have hn15 : ¬ a1.toInt = 15 := lv_neT hc31 rfl
                                    have hn16 : ¬ a1.toInt = 16 := lv_neT hc36 rfl
                                    refine hz_tout (tgt := 245) hO dX10_size_1 (by omega) (by decide) ?_
                                    cases h
def f_X10_need (a0 : Int32) (M : hz_M) : hz_O :=
  if a0 = 0 then
    none
  else
    some (0, M)
set_option maxRecDepth 100000 in
set_option maxHeartbeats 4000000 in
theorem c_X10_need (l : Launch) (w : hz_C) {N : Nat} (hN : 178 ≤ N) (a0 : Int32) {M : hz_M} {rE : Int32} {ME : hz_M} (h : f_X10_need a0 M = some (rE, ME)) : hz_Ct l yX10_need cX10_need 1 none 0 w N [.int a0] M (hz_Qv w N ME) := by
  refine hz_ofW (by decide) rfl (Nat.le_of_ble_eq_true rfl) tw_5_113 ?_
  intro p e s m args below meth c hO
  show hz_G p l e 0 hz_z0 s m args below meth c w N 1 _ M 0 [(0, .int a0)] []
  unfold f_X10_need at h
  refine hz_iload_n hO dX10_need_0 rfl 0 rfl ?_
  refine hz_if_ne (tgt := 15) hO dX10_need_1 (by decide) (fun hc1 => ?_) (fun hc1 => ?_)
  · rw [if_neg hc1] at h
    exact hz_nameM (hz_some_e h).2.symm (hz_vret hO dX10_need_15)
  · rw [if_pos hc1] at h
    cases h
def f_X10_guest (a1 : Int32) (a2 : Int32) (M : hz_M) : hz_O :=
  hz_ct (f_X3_isGuest a1 M) fun r1 M2 =>
  hz_ct (f_X10_need r1 M2) fun r4 M5 =>
  if a2 = 0 then
    hz_gd (hz_in a1 16) <|
    some ((M5 2 (Int32.toNatClampNeg a1)), M5)
  else
  if a2 = 1 then
    hz_gd (hz_in a1 16) <|
    some ((M5 13 (Int32.toNatClampNeg a1)), M5)
  else
  if a2 = 2 then
    hz_gd (hz_in a1 16) <|
    some ((M5 14 (Int32.toNatClampNeg a1)), M5)
  else
  if a2 = 3 then
    hz_gd (hz_in a1 16) <|
    some ((M5 15 (Int32.toNatClampNeg a1)), M5)
  else
  if a2 = 4 then
    hz_gd (hz_in a1 16) <|
    some ((M5 16 (Int32.toNatClampNeg a1)), M5)
  else
  if a2 = 5 then
    hz_gd (hz_in a1 16) <|
    some ((M5 17 (Int32.toNatClampNeg a1)), M5)
  else
  if a2 = 6 then
    hz_ct (f_X3_bears a1 M5) fun r20 M21 =>
    some (r20, M21)
  else
  if a2 = 7 then
    hz_ct (f_X3_highestByAge a1 M5) fun r24 M25 =>
    some (r24, M25)
  else
  if a2 = 8 then
    hz_gd (hz_in a1 16) <|
    some ((M5 18 (Int32.toNatClampNeg a1)), M5)
  else
  none
set_option maxRecDepth 100000 in
set_option maxHeartbeats 4000000 in
theorem c_X10_guest (l : Launch) (w : hz_C) {N : Nat} (hN : 178 ≤ N) (a1 : Int32) (a2 : Int32) {M : hz_M} {rE : Int32} {ME : hz_M} (h : f_X10_guest a1 a2 M = some (rE, ME)) : hz_Ct l yX10_guest cX10_guest 3 (some .int) 2 w N [.ref (hz_ad w 0), .int a1, .int a2] M (hz_Qi w N rE ME) := by
  refine hz_ofW (by decide) rfl (Nat.le_of_ble_eq_true rfl) tw_5_109 ?_
  intro p e s m args below meth c hO
  show hz_G p l e 2 hz_z0 s m args below meth c w N 3 _ M 0 [(0, .ref (hz_ad w 0)), (1, .int a1), (2, .int a2)] []
  unfold f_X10_guest at h
  refine hz_aload_n hO dX10_guest_0 rfl 0 rfl ?_
  refine hz_getR (k := 0) hO 1 hz_K_8 hz_sh_0 (hz_lt_0 hN) rfl (Nat.le_of_ble_eq_true rfl) tw_3_43 rfl dX10_guest_1 ?_
  refine hz_iload_n hO dX10_guest_4 rfl 1 rfl ?_
  obtain ⟨r1, M2, hq3, h⟩ := hz_ct_e h
  refine hz_callVi (as := [.int a1]) (rest := []) hO (c_X3_isGuest l w hN a1 hq3) hz_cal_X3_isGuest hz_K_2 hz_sh_1 (hz_lt_1 hN) tw_5_110 (Nat.le_of_ble_eq_true rfl) rfl rfl (Nat.le_of_ble_eq_true rfl) dX10_guest_5 ?_
  obtain ⟨r4, M5, hq6, h⟩ := hz_ct_e h
  refine hz_callSv (as := [.int r1]) (rest := []) hO (c_X10_need l w hN r1 hq6) hz_cal_X10_need tw_5_111 (Nat.le_of_ble_eq_true rfl) rfl rfl (Nat.le_of_ble_eq_true rfl) dX10_guest_8 ?_
  refine hz_iload_n hO dX10_guest_11 rfl 2 rfl ?_
  by_cases hc7 : a2 = (0 : Int32)
  · rw [if_pos hc7] at h
    refine hz_tin (tgt := 64) hO hc7 dX10_guest_12 (by decide) (by decide) rfl (by decide) ?_
    refine hz_aload_n hO dX10_guest_64 rfl 0 rfl ?_
    refine hz_getR (k := 0) hO 1 hz_K_8 hz_sh_0 (hz_lt_0 hN) rfl (Nat.le_of_ble_eq_true rfl) tw_3_43 rfl dX10_guest_65 ?_
    refine hz_getR (k := 0) hO 2 hz_K_2 hz_sh_1 (hz_lt_1 hN) rfl (Nat.le_of_ble_eq_true rfl) tw_1_44 rfl dX10_guest_68 ?_
    refine hz_iload_n hO dX10_guest_71 rfl 1 rfl ?_
    obtain ⟨hg8, h⟩ := hz_gd_e h
    refine hz_iald hO hz_sh_2 (hz_lt_2 hN) hg8 dX10_guest_72 ?_
    exact hz_nameM (hz_some_e h).2.symm (hz_name (hz_some_e h).1.symm (hz_iret hO dX10_guest_73))
  · rw [if_neg hc7] at h
    by_cases hc9 : a2 = (1 : Int32)
    · rw [if_pos hc9] at h
      refine hz_tin (tgt := 74) hO hc9 dX10_guest_12 (by decide) (by decide) rfl (by decide) ?_
      refine hz_aload_n hO dX10_guest_74 rfl 0 rfl ?_
      refine hz_getR (k := 3) hO 11 hz_K_8 hz_sh_0 (hz_lt_0 hN) rfl (Nat.le_of_ble_eq_true rfl) tw_3_46 rfl dX10_guest_75 ?_
      refine hz_getR (k := 2) hO 13 hz_K_5 hz_sh_11 (hz_lt_11 hN) rfl (Nat.le_of_ble_eq_true rfl) tw_1_159 rfl dX10_guest_78 ?_
      refine hz_iload_n hO dX10_guest_81 rfl 1 rfl ?_
      obtain ⟨hg10, h⟩ := hz_gd_e h
      refine hz_iald hO hz_sh_13 (hz_lt_13 hN) hg10 dX10_guest_82 ?_
      exact hz_nameM (hz_some_e h).2.symm (hz_name (hz_some_e h).1.symm (hz_iret hO dX10_guest_83))
    · rw [if_neg hc9] at h
      by_cases hc11 : a2 = (2 : Int32)
      · rw [if_pos hc11] at h
        refine hz_tin (tgt := 84) hO hc11 dX10_guest_12 (by decide) (by decide) rfl (by decide) ?_
        refine hz_aload_n hO dX10_guest_84 rfl 0 rfl ?_
        refine hz_getR (k := 3) hO 11 hz_K_8 hz_sh_0 (hz_lt_0 hN) rfl (Nat.le_of_ble_eq_true rfl) tw_3_46 rfl dX10_guest_85 ?_
        refine hz_getR (k := 3) hO 14 hz_K_5 hz_sh_11 (hz_lt_11 hN) rfl (Nat.le_of_ble_eq_true rfl) tw_1_162 rfl dX10_guest_88 ?_
        refine hz_iload_n hO dX10_guest_91 rfl 1 rfl ?_
        obtain ⟨hg12, h⟩ := hz_gd_e h
        refine hz_iald hO hz_sh_14 (hz_lt_14 hN) hg12 dX10_guest_92 ?_
        exact hz_nameM (hz_some_e h).2.symm (hz_name (hz_some_e h).1.symm (hz_iret hO dX10_guest_93))
      · rw [if_neg hc11] at h
        by_cases hc13 : a2 = (3 : Int32)
        · rw [if_pos hc13] at h
          refine hz_tin (tgt := 94) hO hc13 dX10_guest_12 (by decide) (by decide) rfl (by decide) ?_
          refine hz_aload_n hO dX10_guest_94 rfl 0 rfl ?_
          refine hz_getR (k := 3) hO 11 hz_K_8 hz_sh_0 (hz_lt_0 hN) rfl (Nat.le_of_ble_eq_true rfl) tw_3_46 rfl dX10_guest_95 ?_
          refine hz_getR (k := 4) hO 15 hz_K_5 hz_sh_11 (hz_lt_11 hN) rfl (Nat.le_of_ble_eq_true rfl) tw_1_165 rfl dX10_guest_98 ?_
          refine hz_iload_n hO dX10_guest_101 rfl 1 rfl ?_
          obtain ⟨hg14, h⟩ := hz_gd_e h
          refine hz_iald hO hz_sh_15 (hz_lt_15 hN) hg14 dX10_guest_102 ?_
          exact hz_nameM (hz_some_e h).2.symm (hz_name (hz_some_e h).1.symm (hz_iret hO dX10_guest_103))
        · rw [if_neg hc13] at h
          by_cases hc15 : a2 = (4 : Int32)
          · rw [if_pos hc15] at h
            refine hz_tin (tgt := 104) hO hc15 dX10_guest_12 (by decide) (by decide) rfl (by decide) ?_
            refine hz_aload_n hO dX10_guest_104 rfl 0 rfl ?_
            refine hz_getR (k := 3) hO 11 hz_K_8 hz_sh_0 (hz_lt_0 hN) rfl (Nat.le_of_ble_eq_true rfl) tw_3_46 rfl dX10_guest_105 ?_
            refine hz_getR (k := 5) hO 16 hz_K_5 hz_sh_11 (hz_lt_11 hN) rfl (Nat.le_of_ble_eq_true rfl) tw_1_169 rfl dX10_guest_108 ?_
            refine hz_iload_n hO dX10_guest_111 rfl 1 rfl ?_
            obtain ⟨hg16, h⟩ := hz_gd_e h
            refine hz_iald hO hz_sh_16 (hz_lt_16 hN) hg16 dX10_guest_112 ?_
            exact hz_nameM (hz_some_e h).2.symm (hz_name (hz_some_e h).1.symm (hz_iret hO dX10_guest_113))
          · rw [if_neg hc15] at h
            by_cases hc17 : a2 = (5 : Int32)
            · rw [if_pos hc17] at h
              refine hz_tin (tgt := 114) hO hc17 dX10_guest_12 (by decide) (by decide) rfl (by decide) ?_
              refine hz_aload_n hO dX10_guest_114 rfl 0 rfl ?_
              refine hz_getR (k := 3) hO 11 hz_K_8 hz_sh_0 (hz_lt_0 hN) rfl (Nat.le_of_ble_eq_true rfl) tw_3_46 rfl dX10_guest_115 ?_
              refine hz_getR (k := 6) hO 17 hz_K_5 hz_sh_11 (hz_lt_11 hN) rfl (Nat.le_of_ble_eq_true rfl) tw_1_171 rfl dX10_guest_118 ?_
              refine hz_iload_n hO dX10_guest_121 rfl 1 rfl ?_
              obtain ⟨hg18, h⟩ := hz_gd_e h
              refine hz_iald hO hz_sh_17 (hz_lt_17 hN) hg18 dX10_guest_122 ?_
              exact hz_nameM (hz_some_e h).2.symm (hz_name (hz_some_e h).1.symm (hz_iret hO dX10_guest_123))
            · rw [if_neg hc17] at h
              by_cases hc19 : a2 = (6 : Int32)
              · rw [if_pos hc19] at h
                refine hz_tin (tgt := 124) hO hc19 dX10_guest_12 (by decide) (by decide) rfl (by decide) ?_
                refine hz_aload_n hO dX10_guest_124 rfl 0 rfl ?_
                refine hz_getR (k := 0) hO 1 hz_K_8 hz_sh_0 (hz_lt_0 hN) rfl (Nat.le_of_ble_eq_true rfl) tw_3_43 rfl dX10_guest_125 ?_
                refine hz_iload_n hO dX10_guest_128 rfl 1 rfl ?_
                obtain ⟨r20, M21, hq22, h⟩ := hz_ct_e h
                refine hz_callVi (as := [.int a1]) (rest := []) hO (c_X3_bears l w hN a1 hq22) hz_cal_X3_bears hz_K_2 hz_sh_1 (hz_lt_1 hN) tw_5_115 (Nat.le_of_ble_eq_true rfl) rfl rfl (Nat.le_of_ble_eq_true rfl) dX10_guest_129 ?_
                exact hz_nameM (hz_some_e h).2.symm (hz_name (hz_some_e h).1.symm (hz_iret hO dX10_guest_132))
              · rw [if_neg hc19] at h
                by_cases hc23 : a2 = (7 : Int32)
                · rw [if_pos hc23] at h
                  refine hz_tin (tgt := 133) hO hc23 dX10_guest_12 (by decide) (by decide) rfl (by decide) ?_
                  refine hz_aload_n hO dX10_guest_133 rfl 0 rfl ?_
                  refine hz_getR (k := 0) hO 1 hz_K_8 hz_sh_0 (hz_lt_0 hN) rfl (Nat.le_of_ble_eq_true rfl) tw_3_43 rfl dX10_guest_134 ?_
                  refine hz_iload_n hO dX10_guest_137 rfl 1 rfl ?_
                  obtain ⟨r24, M25, hq26, h⟩ := hz_ct_e h
                  refine hz_callVi (as := [.int a1]) (rest := []) hO (c_X3_highestByAge l w hN a1 hq26) hz_cal_X3_highestByAge hz_K_2 hz_sh_1 (hz_lt_1 hN) tw_5_116 (Nat.le_of_ble_eq_true rfl) rfl rfl (Nat.le_of_ble_eq_true rfl) dX10_guest_138 ?_
                  exact hz_nameM (hz_some_e h).2.symm (hz_name (hz_some_e h).1.symm (hz_iret hO dX10_guest_141))
                · rw [if_neg hc23] at h
                  by_cases hc27 : a2 = (8 : Int32)
                  · rw [if_pos hc27] at h
                    refine hz_tin (tgt := 142) hO hc27 dX10_guest_12 (by decide) (by decide) rfl (by decide) ?_
                    refine hz_aload_n hO dX10_guest_142 rfl 0 rfl ?_
                    refine hz_getR (k := 3) hO 11 hz_K_8 hz_sh_0 (hz_lt_0 hN) rfl (Nat.le_of_ble_eq_true rfl) tw_3_46 rfl dX10_guest_143 ?_
                    refine hz_getR (k := 7) hO 18 hz_K_5 hz_sh_11 (hz_lt_11 hN) rfl (Nat.le_of_ble_eq_true rfl) tw_1_175 rfl dX10_guest_146 ?_
                    refine hz_iload_n hO dX10_guest_149 rfl 1 rfl ?_
                    obtain ⟨hg28, h⟩ := hz_gd_e h
                    refine hz_iald hO hz_sh_18 (hz_lt_18 hN) hg28 dX10_guest_150 ?_
                    exact hz_nameM (hz_some_e h).2.symm (hz_name (hz_some_e h).1.symm (hz_iret hO dX10_guest_151))
                  · rw [if_neg hc27] at h
                    have hn0 : ¬ a2.toInt = 0 := lv_neT hc7 rfl
                    have hn1 : ¬ a2.toInt = 1 := lv_neT hc9 rfl
                    have hn2 : ¬ a2.toInt = 2 := lv_neT hc11 rfl
                    have hn3 : ¬ a2.toInt = 3 := lv_neT hc13 rfl
                    have hn4 : ¬ a2.toInt = 4 := lv_neT hc15 rfl
                    have hn5 : ¬ a2.toInt = 5 := lv_neT hc17 rfl
                    have hn6 : ¬ a2.toInt = 6 := lv_neT hc19 rfl
                    have hn7 : ¬ a2.toInt = 7 := lv_neT hc23 rfl
                    have hn8 : ¬ a2.toInt = 8 := lv_neT hc27 rfl
                    refine hz_tout (tgt := 152) hO dX10_guest_12 (by omega) (by decide) ?_
                    cases h
def f_X10_towel (a1 : Int32) (a2 : Int32) (M : hz_M) : hz_O :=
  hz_ct (f_X3_isTowel a1 M) fun r1 M2 =>
  hz_ct (f_X10_need r1 M2) fun r4 M5 =>
  if a2 = 0 then
    hz_gd (hz_in a1 16) <|
    some ((M5 20 (Int32.toNatClampNeg a1)), M5)
  else
  if a2 = 1 then
    hz_gd (hz_in a1 16) <|
    some ((M5 21 (Int32.toNatClampNeg a1)), M5)
  else
  if a2 = 2 then
    hz_gd (hz_in a1 16) <|
    some ((M5 22 (Int32.toNatClampNeg a1)), M5)
  else
  if a2 = 3 then
    hz_ct (f_X7_isInBasket a1 M5) fun r14 M15 =>
    if r14 = 0 then
      some ((0 : Int32), M15)
    else
      some ((1 : Int32), M15)
  else
  none
set_option maxRecDepth 100000 in
set_option maxHeartbeats 4000000 in
theorem c_X10_towel (l : Launch) (w : hz_C) {N : Nat} (hN : 178 ≤ N) (a1 : Int32) (a2 : Int32) {M : hz_M} {rE : Int32} {ME : hz_M} (h : f_X10_towel a1 a2 M = some (rE, ME)) : hz_Ct l yX10_towel cX10_towel 3 (some .int) 1 w N [.ref (hz_ad w 0), .int a1, .int a2] M (hz_Qi w N rE ME) := by
  refine hz_ofW (by decide) rfl (Nat.le_of_ble_eq_true rfl) tw_5_127 ?_
  intro p e s m args below meth c hO
  show hz_G p l e 1 hz_z0 s m args below meth c w N 3 _ M 0 [(0, .ref (hz_ad w 0)), (1, .int a1), (2, .int a2)] []
  unfold f_X10_towel at h
  refine hz_aload_n hO dX10_towel_0 rfl 0 rfl ?_
  refine hz_getR (k := 0) hO 1 hz_K_8 hz_sh_0 (hz_lt_0 hN) rfl (Nat.le_of_ble_eq_true rfl) tw_3_43 rfl dX10_towel_1 ?_
  refine hz_iload_n hO dX10_towel_4 rfl 1 rfl ?_
  obtain ⟨r1, M2, hq3, h⟩ := hz_ct_e h
  refine hz_callVi (as := [.int a1]) (rest := []) hO (c_X3_isTowel l w hN a1 hq3) hz_cal_X3_isTowel hz_K_2 hz_sh_1 (hz_lt_1 hN) tw_5_128 (Nat.le_of_ble_eq_true rfl) rfl rfl (Nat.le_of_ble_eq_true rfl) dX10_towel_5 ?_
  obtain ⟨r4, M5, hq6, h⟩ := hz_ct_e h
  refine hz_callSv (as := [.int r1]) (rest := []) hO (c_X10_need l w hN r1 hq6) hz_cal_X10_need tw_5_111 (Nat.le_of_ble_eq_true rfl) rfl rfl (Nat.le_of_ble_eq_true rfl) dX10_towel_8 ?_
  refine hz_iload_n hO dX10_towel_11 rfl 2 rfl ?_
  by_cases hc7 : a2 = (0 : Int32)
  · rw [if_pos hc7] at h
    refine hz_tin (tgt := 44) hO hc7 dX10_towel_12 (by decide) (by decide) rfl (by decide) ?_
    refine hz_aload_n hO dX10_towel_44 rfl 0 rfl ?_
    refine hz_getR (k := 3) hO 11 hz_K_8 hz_sh_0 (hz_lt_0 hN) rfl (Nat.le_of_ble_eq_true rfl) tw_3_46 rfl dX10_towel_45 ?_
    refine hz_getR (k := 9) hO 20 hz_K_5 hz_sh_11 (hz_lt_11 hN) rfl (Nat.le_of_ble_eq_true rfl) tw_1_181 rfl dX10_towel_48 ?_
    refine hz_iload_n hO dX10_towel_51 rfl 1 rfl ?_
    obtain ⟨hg8, h⟩ := hz_gd_e h
    refine hz_iald hO hz_sh_20 (hz_lt_20 hN) hg8 dX10_towel_52 ?_
    exact hz_nameM (hz_some_e h).2.symm (hz_name (hz_some_e h).1.symm (hz_iret hO dX10_towel_53))
  · rw [if_neg hc7] at h
    by_cases hc9 : a2 = (1 : Int32)
    · rw [if_pos hc9] at h
      refine hz_tin (tgt := 54) hO hc9 dX10_towel_12 (by decide) (by decide) rfl (by decide) ?_
      refine hz_aload_n hO dX10_towel_54 rfl 0 rfl ?_
      refine hz_getR (k := 3) hO 11 hz_K_8 hz_sh_0 (hz_lt_0 hN) rfl (Nat.le_of_ble_eq_true rfl) tw_3_46 rfl dX10_towel_55 ?_
      refine hz_getR (k := 10) hO 21 hz_K_5 hz_sh_11 (hz_lt_11 hN) rfl (Nat.le_of_ble_eq_true rfl) tw_1_184 rfl dX10_towel_58 ?_
      refine hz_iload_n hO dX10_towel_61 rfl 1 rfl ?_
      obtain ⟨hg10, h⟩ := hz_gd_e h
      refine hz_iald hO hz_sh_21 (hz_lt_21 hN) hg10 dX10_towel_62 ?_
      exact hz_nameM (hz_some_e h).2.symm (hz_name (hz_some_e h).1.symm (hz_iret hO dX10_towel_63))
    · rw [if_neg hc9] at h
      by_cases hc11 : a2 = (2 : Int32)
      · rw [if_pos hc11] at h
        refine hz_tin (tgt := 64) hO hc11 dX10_towel_12 (by decide) (by decide) rfl (by decide) ?_
        refine hz_aload_n hO dX10_towel_64 rfl 0 rfl ?_
        refine hz_getR (k := 3) hO 11 hz_K_8 hz_sh_0 (hz_lt_0 hN) rfl (Nat.le_of_ble_eq_true rfl) tw_3_46 rfl dX10_towel_65 ?_
        refine hz_getR (k := 11) hO 22 hz_K_5 hz_sh_11 (hz_lt_11 hN) rfl (Nat.le_of_ble_eq_true rfl) tw_1_186 rfl dX10_towel_68 ?_
        refine hz_iload_n hO dX10_towel_71 rfl 1 rfl ?_
        obtain ⟨hg12, h⟩ := hz_gd_e h
        refine hz_iald hO hz_sh_22 (hz_lt_22 hN) hg12 dX10_towel_72 ?_
        exact hz_nameM (hz_some_e h).2.symm (hz_name (hz_some_e h).1.symm (hz_iret hO dX10_towel_73))
      · rw [if_neg hc11] at h
        by_cases hc13 : a2 = (3 : Int32)
        · rw [if_pos hc13] at h
          refine hz_tin (tgt := 74) hO hc13 dX10_towel_12 (by decide) (by decide) rfl (by decide) ?_
          refine hz_aload_n hO dX10_towel_74 rfl 0 rfl ?_
          refine hz_getR (k := 3) hO 11 hz_K_8 hz_sh_0 (hz_lt_0 hN) rfl (Nat.le_of_ble_eq_true rfl) tw_3_46 rfl dX10_towel_75 ?_
          refine hz_iload_n hO dX10_towel_78 rfl 1 rfl ?_
          obtain ⟨r14, M15, hq16, h⟩ := hz_ct_e h
          refine hz_callVi (as := [.int a1]) (rest := []) hO (c_X7_isInBasket l w hN a1 hq16) hz_cal_X7_isInBasket hz_K_5 hz_sh_11 (hz_lt_11 hN) tw_5_129 (Nat.le_of_ble_eq_true rfl) rfl rfl (Nat.le_of_ble_eq_true rfl) dX10_towel_79 ?_
          refine hz_if_eq (tgt := 89) hO dX10_towel_82 (by decide) (fun hc17 => ?_) (fun hc17 => ?_)
          · rw [if_pos hc17] at h
            refine hz_iconst (v := (0 : Int32)) hO dX10_towel_89 (by decide) ?_
            exact hz_nameM (hz_some_e h).2.symm (hz_name (hz_some_e h).1.symm (hz_iret hO dX10_towel_90))
          · rw [if_neg hc17] at h
            refine hz_iconst (v := (1 : Int32)) hO dX10_towel_85 (by decide) ?_
            refine hz_goto (tgt := 90) hO dX10_towel_86 (by decide) ?_
            exact hz_nameM (hz_some_e h).2.symm (hz_name (hz_some_e h).1.symm (hz_iret hO dX10_towel_90))
        · rw [if_neg hc13] at h
          have hn0 : ¬ a2.toInt = 0 := lv_neT hc7 rfl
          have hn1 : ¬ a2.toInt = 1 := lv_neT hc9 rfl
          have hn2 : ¬ a2.toInt = 2 := lv_neT hc11 rfl
          have hn3 : ¬ a2.toInt = 3 := lv_neT hc13 rfl
          refine hz_tout (tgt := 91) hO dX10_towel_12 (by omega) (by decide) ?_
          cases h
def f_X10_peg (a1 : Int32) (M : hz_M) : hz_O :=
  hz_ct (f_X3_isPeg a1 M) fun r1 M2 =>
  hz_ct (f_X10_need r1 M2) fun r4 M5 =>
  hz_gd (hz_in a1 16) <|
  some ((M5 23 (Int32.toNatClampNeg a1)), M5)
set_option maxRecDepth 100000 in
set_option maxHeartbeats 4000000 in
theorem c_X10_peg (l : Launch) (w : hz_C) {N : Nat} (hN : 178 ≤ N) (a1 : Int32) {M : hz_M} {rE : Int32} {ME : hz_M} (h : f_X10_peg a1 M = some (rE, ME)) : hz_Ct l yX10_peg cX10_peg 2 (some .int) 1 w N [.ref (hz_ad w 0), .int a1] M (hz_Qi w N rE ME) := by
  refine hz_ofW (by decide) rfl (Nat.le_of_ble_eq_true rfl) tw_5_137 ?_
  intro p e s m args below meth c hO
  show hz_G p l e 1 hz_z0 s m args below meth c w N 2 _ M 0 [(0, .ref (hz_ad w 0)), (1, .int a1)] []
  unfold f_X10_peg at h
  refine hz_aload_n hO dX10_peg_0 rfl 0 rfl ?_
  refine hz_getR (k := 0) hO 1 hz_K_8 hz_sh_0 (hz_lt_0 hN) rfl (Nat.le_of_ble_eq_true rfl) tw_3_43 rfl dX10_peg_1 ?_
  refine hz_iload_n hO dX10_peg_4 rfl 1 rfl ?_
  obtain ⟨r1, M2, hq3, h⟩ := hz_ct_e h
  refine hz_callVi (as := [.int a1]) (rest := []) hO (c_X3_isPeg l w hN a1 hq3) hz_cal_X3_isPeg hz_K_2 hz_sh_1 (hz_lt_1 hN) tw_5_138 (Nat.le_of_ble_eq_true rfl) rfl rfl (Nat.le_of_ble_eq_true rfl) dX10_peg_5 ?_
  obtain ⟨r4, M5, hq6, h⟩ := hz_ct_e h
  refine hz_callSv (as := [.int r1]) (rest := []) hO (c_X10_need l w hN r1 hq6) hz_cal_X10_need tw_5_111 (Nat.le_of_ble_eq_true rfl) rfl rfl (Nat.le_of_ble_eq_true rfl) dX10_peg_8 ?_
  refine hz_aload_n hO dX10_peg_11 rfl 0 rfl ?_
  refine hz_getR (k := 3) hO 11 hz_K_8 hz_sh_0 (hz_lt_0 hN) rfl (Nat.le_of_ble_eq_true rfl) tw_3_46 rfl dX10_peg_12 ?_
  refine hz_getR (k := 12) hO 23 hz_K_5 hz_sh_11 (hz_lt_11 hN) rfl (Nat.le_of_ble_eq_true rfl) tw_1_191 rfl dX10_peg_15 ?_
  refine hz_iload_n hO dX10_peg_18 rfl 1 rfl ?_
  obtain ⟨hg7, h⟩ := hz_gd_e h
  refine hz_iald hO hz_sh_23 (hz_lt_23 hN) hg7 dX10_peg_19 ?_
  exact hz_nameM (hz_some_e h).2.symm (hz_name (hz_some_e h).1.symm (hz_iret hO dX10_peg_20))
def f_X10_locker (a1 : Int32) (M : hz_M) : hz_O :=
  hz_ct (f_X3_isLocker a1 M) fun r1 M2 =>
  hz_ct (f_X10_need r1 M2) fun r4 M5 =>
  hz_gd (hz_in a1 12) <|
  some ((M5 19 (Int32.toNatClampNeg a1)), M5)
set_option maxRecDepth 100000 in
set_option maxHeartbeats 4000000 in
theorem c_X10_locker (l : Launch) (w : hz_C) {N : Nat} (hN : 178 ≤ N) (a1 : Int32) {M : hz_M} {rE : Int32} {ME : hz_M} (h : f_X10_locker a1 M = some (rE, ME)) : hz_Ct l yX10_locker cX10_locker 2 (some .int) 1 w N [.ref (hz_ad w 0), .int a1] M (hz_Qi w N rE ME) := by
  refine hz_ofW (by decide) rfl (Nat.le_of_ble_eq_true rfl) tw_5_145 ?_
  intro p e s m args below meth c hO
  show hz_G p l e 1 hz_z0 s m args below meth c w N 2 _ M 0 [(0, .ref (hz_ad w 0)), (1, .int a1)] []
  unfold f_X10_locker at h
  refine hz_aload_n hO dX10_locker_0 rfl 0 rfl ?_
  refine hz_getR (k := 0) hO 1 hz_K_8 hz_sh_0 (hz_lt_0 hN) rfl (Nat.le_of_ble_eq_true rfl) tw_3_43 rfl dX10_locker_1 ?_
  refine hz_iload_n hO dX10_locker_4 rfl 1 rfl ?_
  obtain ⟨r1, M2, hq3, h⟩ := hz_ct_e h
  refine hz_callVi (as := [.int a1]) (rest := []) hO (c_X3_isLocker l w hN a1 hq3) hz_cal_X3_isLocker hz_K_2 hz_sh_1 (hz_lt_1 hN) tw_5_146 (Nat.le_of_ble_eq_true rfl) rfl rfl (Nat.le_of_ble_eq_true rfl) dX10_locker_5 ?_
  obtain ⟨r4, M5, hq6, h⟩ := hz_ct_e h
  refine hz_callSv (as := [.int r1]) (rest := []) hO (c_X10_need l w hN r1 hq6) hz_cal_X10_need tw_5_111 (Nat.le_of_ble_eq_true rfl) rfl rfl (Nat.le_of_ble_eq_true rfl) dX10_locker_8 ?_
  refine hz_aload_n hO dX10_locker_11 rfl 0 rfl ?_
  refine hz_getR (k := 3) hO 11 hz_K_8 hz_sh_0 (hz_lt_0 hN) rfl (Nat.le_of_ble_eq_true rfl) tw_3_46 rfl dX10_locker_12 ?_
  refine hz_getR (k := 8) hO 19 hz_K_5 hz_sh_11 (hz_lt_11 hN) rfl (Nat.le_of_ble_eq_true rfl) tw_1_179 rfl dX10_locker_15 ?_
  refine hz_iload_n hO dX10_locker_18 rfl 1 rfl ?_
  obtain ⟨hg7, h⟩ := hz_gd_e h
  refine hz_iald hO hz_sh_19 (hz_lt_19 hN) hg7 dX10_locker_19 ?_
  exact hz_nameM (hz_some_e h).2.symm (hz_name (hz_some_e h).1.symm (hz_iret hO dX10_locker_20))
def f_X10_opening (a1 : Int32) (M : hz_M) : hz_O :=
  hz_ct (f_X3_isValve a1 M) fun r1 M2 =>
  hz_ct (f_X10_need r1 M2) fun r4 M5 =>
  hz_gd (hz_in a1 4) <|
  some ((M5 12 (Int32.toNatClampNeg a1)), M5)
set_option maxRecDepth 100000 in
set_option maxHeartbeats 4000000 in
theorem c_X10_opening (l : Launch) (w : hz_C) {N : Nat} (hN : 178 ≤ N) (a1 : Int32) {M : hz_M} {rE : Int32} {ME : hz_M} (h : f_X10_opening a1 M = some (rE, ME)) : hz_Ct l yX10_opening cX10_opening 2 (some .int) 1 w N [.ref (hz_ad w 0), .int a1] M (hz_Qi w N rE ME) := by
  refine hz_ofW (by decide) rfl (Nat.le_of_ble_eq_true rfl) tw_5_153 ?_
  intro p e s m args below meth c hO
  show hz_G p l e 1 hz_z0 s m args below meth c w N 2 _ M 0 [(0, .ref (hz_ad w 0)), (1, .int a1)] []
  unfold f_X10_opening at h
  refine hz_aload_n hO dX10_opening_0 rfl 0 rfl ?_
  refine hz_getR (k := 0) hO 1 hz_K_8 hz_sh_0 (hz_lt_0 hN) rfl (Nat.le_of_ble_eq_true rfl) tw_3_43 rfl dX10_opening_1 ?_
  refine hz_iload_n hO dX10_opening_4 rfl 1 rfl ?_
  obtain ⟨r1, M2, hq3, h⟩ := hz_ct_e h
  refine hz_callVi (as := [.int a1]) (rest := []) hO (c_X3_isValve l w hN a1 hq3) hz_cal_X3_isValve hz_K_2 hz_sh_1 (hz_lt_1 hN) tw_5_154 (Nat.le_of_ble_eq_true rfl) rfl rfl (Nat.le_of_ble_eq_true rfl) dX10_opening_5 ?_
  obtain ⟨r4, M5, hq6, h⟩ := hz_ct_e h
  refine hz_callSv (as := [.int r1]) (rest := []) hO (c_X10_need l w hN r1 hq6) hz_cal_X10_need tw_5_111 (Nat.le_of_ble_eq_true rfl) rfl rfl (Nat.le_of_ble_eq_true rfl) dX10_opening_8 ?_
  refine hz_aload_n hO dX10_opening_11 rfl 0 rfl ?_
  refine hz_getR (k := 3) hO 11 hz_K_8 hz_sh_0 (hz_lt_0 hN) rfl (Nat.le_of_ble_eq_true rfl) tw_3_46 rfl dX10_opening_12 ?_
  refine hz_getR (k := 1) hO 12 hz_K_5 hz_sh_11 (hz_lt_11 hN) rfl (Nat.le_of_ble_eq_true rfl) tw_1_153 rfl dX10_opening_15 ?_
  refine hz_iload_n hO dX10_opening_18 rfl 1 rfl ?_
  obtain ⟨hg7, h⟩ := hz_gd_e h
  refine hz_iald hO hz_sh_12 (hz_lt_12 hN) hg7 dX10_opening_19 ?_
  exact hz_nameM (hz_some_e h).2.symm (hz_name (hz_some_e h).1.symm (hz_iret hO dX10_opening_20))
def f_X10_step (a1 : Int32) (a2 : Int32) (M : hz_M) : hz_O :=
  hz_ct (f_X3_isStep a1 M) fun r1 M2 =>
  hz_ct (f_X10_need r1 M2) fun r4 M5 =>
  if a2 = 0 then
    hz_ct (f_X7_guestsAt a1 M5) fun r8 M9 =>
    some (r8, M9)
  else
  if a2 = 1 then
    hz_ct (f_X7_temperature a1 M5) fun r12 M13 =>
    some (r12, M13)
  else
  if a2 = 2 then
    hz_ct (f_X3_ageFor a1 M5) fun r16 M17 =>
    some (r16, M17)
  else
  if a2 = 3 then
    hz_ct (f_X7_eldestAt a1 M5) fun r20 M21 =>
    some (r20, M21)
  else
  if a2 = 4 then
    hz_ct (f_X7_strainedAt a1 M5) fun r24 M25 =>
    some (r24, M25)
  else
  none
set_option maxRecDepth 100000 in
set_option maxHeartbeats 4000000 in
theorem c_X10_step (l : Launch) (w : hz_C) {N : Nat} (hN : 178 ≤ N) (a1 : Int32) (a2 : Int32) {M : hz_M} {rE : Int32} {ME : hz_M} (h : f_X10_step a1 a2 M = some (rE, ME)) : hz_Ct l yX10_step cX10_step 3 (some .int) 2 w N [.ref (hz_ad w 0), .int a1, .int a2] M (hz_Qi w N rE ME) := by
  refine hz_ofW (by decide) rfl (Nat.le_of_ble_eq_true rfl) tw_5_161 ?_
  intro p e s m args below meth c hO
  show hz_G p l e 2 hz_z0 s m args below meth c w N 3 _ M 0 [(0, .ref (hz_ad w 0)), (1, .int a1), (2, .int a2)] []
  unfold f_X10_step at h
  refine hz_aload_n hO dX10_step_0 rfl 0 rfl ?_
  refine hz_getR (k := 0) hO 1 hz_K_8 hz_sh_0 (hz_lt_0 hN) rfl (Nat.le_of_ble_eq_true rfl) tw_3_43 rfl dX10_step_1 ?_
  refine hz_iload_n hO dX10_step_4 rfl 1 rfl ?_
  obtain ⟨r1, M2, hq3, h⟩ := hz_ct_e h
  refine hz_callVi (as := [.int a1]) (rest := []) hO (c_X3_isStep l w hN a1 hq3) hz_cal_X3_isStep hz_K_2 hz_sh_1 (hz_lt_1 hN) tw_5_162 (Nat.le_of_ble_eq_true rfl) rfl rfl (Nat.le_of_ble_eq_true rfl) dX10_step_5 ?_
  obtain ⟨r4, M5, hq6, h⟩ := hz_ct_e h
  refine hz_callSv (as := [.int r1]) (rest := []) hO (c_X10_need l w hN r1 hq6) hz_cal_X10_need tw_5_111 (Nat.le_of_ble_eq_true rfl) rfl rfl (Nat.le_of_ble_eq_true rfl) dX10_step_8 ?_
  refine hz_iload_n hO dX10_step_11 rfl 2 rfl ?_
  by_cases hc7 : a2 = (0 : Int32)
  · rw [if_pos hc7] at h
    refine hz_tin (tgt := 48) hO hc7 dX10_step_12 (by decide) (by decide) rfl (by decide) ?_
    refine hz_aload_n hO dX10_step_48 rfl 0 rfl ?_
    refine hz_getR (k := 3) hO 11 hz_K_8 hz_sh_0 (hz_lt_0 hN) rfl (Nat.le_of_ble_eq_true rfl) tw_3_46 rfl dX10_step_49 ?_
    refine hz_iload_n hO dX10_step_52 rfl 1 rfl ?_
    obtain ⟨r8, M9, hq10, h⟩ := hz_ct_e h
    refine hz_callVi (as := [.int a1]) (rest := []) hO (c_X7_guestsAt l w hN a1 hq10) hz_cal_X7_guestsAt hz_K_5 hz_sh_11 (hz_lt_11 hN) tw_5_36 (Nat.le_of_ble_eq_true rfl) rfl rfl (Nat.le_of_ble_eq_true rfl) dX10_step_53 ?_
    exact hz_nameM (hz_some_e h).2.symm (hz_name (hz_some_e h).1.symm (hz_iret hO dX10_step_56))
  · rw [if_neg hc7] at h
    by_cases hc11 : a2 = (1 : Int32)
    · rw [if_pos hc11] at h
      refine hz_tin (tgt := 57) hO hc11 dX10_step_12 (by decide) (by decide) rfl (by decide) ?_
      refine hz_aload_n hO dX10_step_57 rfl 0 rfl ?_
      refine hz_getR (k := 3) hO 11 hz_K_8 hz_sh_0 (hz_lt_0 hN) rfl (Nat.le_of_ble_eq_true rfl) tw_3_46 rfl dX10_step_58 ?_
      refine hz_iload_n hO dX10_step_61 rfl 1 rfl ?_
      obtain ⟨r12, M13, hq14, h⟩ := hz_ct_e h
      refine hz_callVi (as := [.int a1]) (rest := []) hO (c_X7_temperature l w hN a1 hq14) hz_cal_X7_temperature hz_K_5 hz_sh_11 (hz_lt_11 hN) tw_5_163 (Nat.le_of_ble_eq_true rfl) rfl rfl (Nat.le_of_ble_eq_true rfl) dX10_step_62 ?_
      exact hz_nameM (hz_some_e h).2.symm (hz_name (hz_some_e h).1.symm (hz_iret hO dX10_step_65))
    · rw [if_neg hc11] at h
      by_cases hc15 : a2 = (2 : Int32)
      · rw [if_pos hc15] at h
        refine hz_tin (tgt := 66) hO hc15 dX10_step_12 (by decide) (by decide) rfl (by decide) ?_
        refine hz_iload_n hO dX10_step_66 rfl 1 rfl ?_
        obtain ⟨r16, M17, hq18, h⟩ := hz_ct_e h
        refine hz_callSi (as := [.int a1]) (rest := []) hO (c_X3_ageFor l w hN a1 hq18) hz_cal_X3_ageFor tw_5_164 (Nat.le_of_ble_eq_true rfl) rfl rfl (Nat.le_of_ble_eq_true rfl) dX10_step_67 ?_
        exact hz_nameM (hz_some_e h).2.symm (hz_name (hz_some_e h).1.symm (hz_iret hO dX10_step_70))
      · rw [if_neg hc15] at h
        by_cases hc19 : a2 = (3 : Int32)
        · rw [if_pos hc19] at h
          refine hz_tin (tgt := 71) hO hc19 dX10_step_12 (by decide) (by decide) rfl (by decide) ?_
          refine hz_aload_n hO dX10_step_71 rfl 0 rfl ?_
          refine hz_getR (k := 3) hO 11 hz_K_8 hz_sh_0 (hz_lt_0 hN) rfl (Nat.le_of_ble_eq_true rfl) tw_3_46 rfl dX10_step_72 ?_
          refine hz_iload_n hO dX10_step_75 rfl 1 rfl ?_
          obtain ⟨r20, M21, hq22, h⟩ := hz_ct_e h
          refine hz_callVi (as := [.int a1]) (rest := []) hO (c_X7_eldestAt l w hN a1 hq22) hz_cal_X7_eldestAt hz_K_5 hz_sh_11 (hz_lt_11 hN) tw_5_165 (Nat.le_of_ble_eq_true rfl) rfl rfl (Nat.le_of_ble_eq_true rfl) dX10_step_76 ?_
          exact hz_nameM (hz_some_e h).2.symm (hz_name (hz_some_e h).1.symm (hz_iret hO dX10_step_79))
        · rw [if_neg hc19] at h
          by_cases hc23 : a2 = (4 : Int32)
          · rw [if_pos hc23] at h
            refine hz_tin (tgt := 80) hO hc23 dX10_step_12 (by decide) (by decide) rfl (by decide) ?_
            refine hz_aload_n hO dX10_step_80 rfl 0 rfl ?_
            refine hz_getR (k := 3) hO 11 hz_K_8 hz_sh_0 (hz_lt_0 hN) rfl (Nat.le_of_ble_eq_true rfl) tw_3_46 rfl dX10_step_81 ?_
            refine hz_iload_n hO dX10_step_84 rfl 1 rfl ?_
            obtain ⟨r24, M25, hq26, h⟩ := hz_ct_e h
            refine hz_callVi (as := [.int a1]) (rest := []) hO (c_X7_strainedAt l w hN a1 hq26) hz_cal_X7_strainedAt hz_K_5 hz_sh_11 (hz_lt_11 hN) tw_5_169 (Nat.le_of_ble_eq_true rfl) rfl rfl (Nat.le_of_ble_eq_true rfl) dX10_step_85 ?_
            exact hz_nameM (hz_some_e h).2.symm (hz_name (hz_some_e h).1.symm (hz_iret hO dX10_step_88))
          · rw [if_neg hc23] at h
            have hn0 : ¬ a2.toInt = 0 := lv_neT hc7 rfl
            have hn1 : ¬ a2.toInt = 1 := lv_neT hc11 rfl
            have hn2 : ¬ a2.toInt = 2 := lv_neT hc15 rfl
            have hn3 : ¬ a2.toInt = 3 := lv_neT hc19 rfl
            have hn4 : ¬ a2.toInt = 4 := lv_neT hc23 rfl
            refine hz_tout (tgt := 89) hO dX10_step_12 (by omega) (by decide) ?_
            cases h
def f_X10_letter (a1 : Int32) (a2 : Int32) (M : hz_M) : hz_O :=
  hz_ct (f_X3_isGuest a1 M) fun r1 M2 =>
  hz_ct (f_X10_need r1 M2) fun r4 M5 =>
  hz_ct (f_X3_letterOf a1 a2 M5) fun r7 M8 =>
  some (r7, M8)
set_option maxRecDepth 100000 in
set_option maxHeartbeats 4000000 in
theorem c_X10_letter (l : Launch) (w : hz_C) {N : Nat} (hN : 178 ≤ N) (a1 : Int32) (a2 : Int32) {M : hz_M} {rE : Int32} {ME : hz_M} (h : f_X10_letter a1 a2 M = some (rE, ME)) : hz_Ct l yX10_letter cX10_letter 3 (some .int) 2 w N [.ref (hz_ad w 0), .int a1, .int a2] M (hz_Qi w N rE ME) := by
  refine hz_ofW (by decide) rfl (Nat.le_of_ble_eq_true rfl) tw_5_180 ?_
  intro p e s m args below meth c hO
  show hz_G p l e 2 hz_z0 s m args below meth c w N 3 _ M 0 [(0, .ref (hz_ad w 0)), (1, .int a1), (2, .int a2)] []
  unfold f_X10_letter at h
  refine hz_aload_n hO dX10_letter_0 rfl 0 rfl ?_
  refine hz_getR (k := 0) hO 1 hz_K_8 hz_sh_0 (hz_lt_0 hN) rfl (Nat.le_of_ble_eq_true rfl) tw_3_43 rfl dX10_letter_1 ?_
  refine hz_iload_n hO dX10_letter_4 rfl 1 rfl ?_
  obtain ⟨r1, M2, hq3, h⟩ := hz_ct_e h
  refine hz_callVi (as := [.int a1]) (rest := []) hO (c_X3_isGuest l w hN a1 hq3) hz_cal_X3_isGuest hz_K_2 hz_sh_1 (hz_lt_1 hN) tw_5_110 (Nat.le_of_ble_eq_true rfl) rfl rfl (Nat.le_of_ble_eq_true rfl) dX10_letter_5 ?_
  obtain ⟨r4, M5, hq6, h⟩ := hz_ct_e h
  refine hz_callSv (as := [.int r1]) (rest := []) hO (c_X10_need l w hN r1 hq6) hz_cal_X10_need tw_5_111 (Nat.le_of_ble_eq_true rfl) rfl rfl (Nat.le_of_ble_eq_true rfl) dX10_letter_8 ?_
  refine hz_aload_n hO dX10_letter_11 rfl 0 rfl ?_
  refine hz_getR (k := 0) hO 1 hz_K_8 hz_sh_0 (hz_lt_0 hN) rfl (Nat.le_of_ble_eq_true rfl) tw_3_43 rfl dX10_letter_12 ?_
  refine hz_iload_n hO dX10_letter_15 rfl 1 rfl ?_
  refine hz_iload_n hO dX10_letter_16 rfl 2 rfl ?_
  obtain ⟨r7, M8, hq9, h⟩ := hz_ct_e h
  refine hz_callVi (as := [.int a1, .int a2]) (rest := []) hO (c_X3_letterOf l w hN a1 a2 hq9) hz_cal_X3_letterOf hz_K_2 hz_sh_1 (hz_lt_1 hN) tw_5_181 (Nat.le_of_ble_eq_true rfl) rfl rfl (Nat.le_of_ble_eq_true rfl) dX10_letter_17 ?_
  exact hz_nameM (hz_some_e h).2.symm (hz_name (hz_some_e h).1.symm (hz_iret hO dX10_letter_20))
def f_X10_why (a1 : Int32) (a2 : Int32) (a3 : Int32) (M : hz_M) : hz_O :=
  hz_ct (f_X3_isGuest a1 M) fun r1 M2 =>
  hz_ct (f_X10_need r1 M2) fun r4 M5 =>
  hz_ct (f_X9_isDeed a2 M5) fun r7 M8 =>
  hz_ct (f_X10_need r7 M8) fun r10 M11 =>
  hz_jn (fun (v1_13 : Int32) (v2_14 : Int32) (v3_15 : Int32) (q16 : Int32) (M17 : hz_M) =>
    hz_ct (f_X10_need q16 M17) fun r18 M19 =>
    if v3_15 = 0 then
      hz_ct (f_X9_reason v1_13 v2_14 M19) fun r25 M26 =>
      some (r25, M26)
    else
      hz_ct (f_X9_cause v1_13 v2_14 M19) fun r22 M23 =>
      some (r22, M23)
    ) fun k28 =>
  hz_jn (fun (v1_29 : Int32) (v2_30 : Int32) (v3_31 : Int32) (M32 : hz_M) =>
    k28 v1_29 v2_30 v3_31 (1 : Int32) M32
    ) fun k33 =>
  if a3 = 0 then
    k33 a1 a2 a3 M11
  else
    if a3 = (1 : Int32) then
      k33 a1 a2 a3 M11
    else
      k28 a1 a2 a3 (0 : Int32) M11
set_option maxRecDepth 100000 in
set_option maxHeartbeats 4000000 in
theorem c_X10_why (l : Launch) (w : hz_C) {N : Nat} (hN : 178 ≤ N) (a1 : Int32) (a2 : Int32) (a3 : Int32) {M : hz_M} {rE : Int32} {ME : hz_M} (h : f_X10_why a1 a2 a3 M = some (rE, ME)) : hz_Ct l yX10_why cX10_why 4 (some .int) 4 w N [.ref (hz_ad w 0), .int a1, .int a2, .int a3] M (hz_Qi w N rE ME) := by
  refine hz_ofW (by decide) rfl (Nat.le_of_ble_eq_true rfl) tw_5_188 ?_
  intro p e s m args below meth c hO
  show hz_G p l e 4 hz_z0 s m args below meth c w N 4 _ M 0 [(0, .ref (hz_ad w 0)), (1, .int a1), (2, .int a2), (3, .int a3)] []
  unfold f_X10_why at h
  refine hz_aload_n hO dX10_why_0 rfl 0 rfl ?_
  refine hz_getR (k := 0) hO 1 hz_K_8 hz_sh_0 (hz_lt_0 hN) rfl (Nat.le_of_ble_eq_true rfl) tw_3_43 rfl dX10_why_1 ?_
  refine hz_iload_n hO dX10_why_4 rfl 1 rfl ?_
  obtain ⟨r1, M2, hq3, h⟩ := hz_ct_e h
  refine hz_callVi (as := [.int a1]) (rest := []) hO (c_X3_isGuest l w hN a1 hq3) hz_cal_X3_isGuest hz_K_2 hz_sh_1 (hz_lt_1 hN) tw_5_110 (Nat.le_of_ble_eq_true rfl) rfl rfl (Nat.le_of_ble_eq_true rfl) dX10_why_5 ?_
  obtain ⟨r4, M5, hq6, h⟩ := hz_ct_e h
  refine hz_callSv (as := [.int r1]) (rest := []) hO (c_X10_need l w hN r1 hq6) hz_cal_X10_need tw_5_111 (Nat.le_of_ble_eq_true rfl) rfl rfl (Nat.le_of_ble_eq_true rfl) dX10_why_8 ?_
  refine hz_aload_n hO dX10_why_11 rfl 0 rfl ?_
  refine hz_getR (k := 4) hO 25 hz_K_8 hz_sh_0 (hz_lt_0 hN) rfl (Nat.le_of_ble_eq_true rfl) tw_3_47 rfl dX10_why_12 ?_
  refine hz_iload_n hO dX10_why_15 rfl 2 rfl ?_
  obtain ⟨r7, M8, hq9, h⟩ := hz_ct_e h
  refine hz_callVi (as := [.int a2]) (rest := []) hO (c_X9_isDeed l w hN a2 hq9) hz_cal_X9_isDeed hz_K_7 hz_sh_25 (hz_lt_25 hN) tw_5_189 (Nat.le_of_ble_eq_true rfl) rfl rfl (Nat.le_of_ble_eq_true rfl) dX10_why_16 ?_
  obtain ⟨r10, M11, hq12, h⟩ := hz_ct_e h
  refine hz_callSv (as := [.int r7]) (rest := []) hO (c_X10_need l w hN r7 hq12) hz_cal_X10_need tw_5_111 (Nat.le_of_ble_eq_true rfl) rfl rfl (Nat.le_of_ble_eq_true rfl) dX10_why_19 ?_
  refine hz_iload_n hO dX10_why_22 rfl 3 rfl ?_
  obtain ⟨k28, hk28, h⟩ := hz_jn_e h
  have gk28 : ∀ (v1_13 : Int32) (v2_14 : Int32) (v3_15 : Int32) (q16 : Int32) (M17 : hz_M), k28 v1_13 v2_14 v3_15 q16 M17 = some (rE, ME) → hz_G p l e 4 hz_z0 s m args below meth c w N 4 (MQ below (hz_Qi w N rE ME) args s 0 0 (hz_A w)) M17 36 [(0, .ref (hz_ad w 0)), (1, .int v1_13), (2, .int v2_14), (3, .int v3_15)] [.int q16] := by
    intro v1_13 v2_14 v3_15 q16 M17 h
    rw [hk28] at h
    dsimp only at h
    obtain ⟨r18, M19, hq20, h⟩ := hz_ct_e h
    refine hz_callSv (as := [.int q16]) (rest := []) hO (c_X10_need l w hN q16 hq20) hz_cal_X10_need tw_5_111 (Nat.le_of_ble_eq_true rfl) rfl rfl (Nat.le_of_ble_eq_true rfl) dX10_why_36 ?_
    refine hz_iload_n hO dX10_why_39 rfl 3 rfl ?_
    refine hz_if_ne (tgt := 55) hO dX10_why_40 (by decide) (fun hc21 => ?_) (fun hc21 => ?_)
    · rw [if_neg hc21] at h
      refine hz_aload_n hO dX10_why_55 rfl 0 rfl ?_
      refine hz_getR (k := 4) hO 25 hz_K_8 hz_sh_0 (hz_lt_0 hN) rfl (Nat.le_of_ble_eq_true rfl) tw_3_47 rfl dX10_why_56 ?_
      refine hz_iload_n hO dX10_why_59 rfl 1 rfl ?_
      refine hz_iload_n hO dX10_why_60 rfl 2 rfl ?_
      obtain ⟨r22, M23, hq24, h⟩ := hz_ct_e h
      refine hz_callVi (as := [.int v1_13, .int v2_14]) (rest := []) hO (c_X9_cause l w hN v1_13 v2_14 hq24) hz_cal_X9_cause hz_K_7 hz_sh_25 (hz_lt_25 hN) tw_5_194 (Nat.le_of_ble_eq_true rfl) rfl rfl (Nat.le_of_ble_eq_true rfl) dX10_why_61 ?_
      exact hz_nameM (hz_some_e h).2.symm (hz_name (hz_some_e h).1.symm (hz_iret hO dX10_why_64))
    · rw [if_pos hc21] at h
      refine hz_aload_n hO dX10_why_43 rfl 0 rfl ?_
      refine hz_getR (k := 4) hO 25 hz_K_8 hz_sh_0 (hz_lt_0 hN) rfl (Nat.le_of_ble_eq_true rfl) tw_3_47 rfl dX10_why_44 ?_
      refine hz_iload_n hO dX10_why_47 rfl 1 rfl ?_
      refine hz_iload_n hO dX10_why_48 rfl 2 rfl ?_
      obtain ⟨r25, M26, hq27, h⟩ := hz_ct_e h
      refine hz_callVi (as := [.int v1_13, .int v2_14]) (rest := []) hO (c_X9_reason l w hN v1_13 v2_14 hq27) hz_cal_X9_reason hz_K_7 hz_sh_25 (hz_lt_25 hN) tw_5_193 (Nat.le_of_ble_eq_true rfl) rfl rfl (Nat.le_of_ble_eq_true rfl) dX10_why_49 ?_
      refine hz_goto (tgt := 64) hO dX10_why_52 (by decide) ?_
      exact hz_nameM (hz_some_e h).2.symm (hz_name (hz_some_e h).1.symm (hz_iret hO dX10_why_64))
  clear hk28
  obtain ⟨k33, hk33, h⟩ := hz_jn_e h
  have gk33 : ∀ (v1_29 : Int32) (v2_30 : Int32) (v3_31 : Int32) (M32 : hz_M), k33 v1_29 v2_30 v3_31 M32 = some (rE, ME) → hz_G p l e 4 hz_z0 s m args below meth c w N 4 (MQ below (hz_Qi w N rE ME) args s 0 0 (hz_A w)) M32 31 [(0, .ref (hz_ad w 0)), (1, .int v1_29), (2, .int v2_30), (3, .int v3_31)] [] := by
    intro v1_29 v2_30 v3_31 M32 h
    rw [hk33] at h
    dsimp only at h
    refine hz_iconst (v := (1 : Int32)) hO dX10_why_31 (by decide) ?_
    refine hz_goto (tgt := 36) hO dX10_why_32 (by decide) ?_
    exact hz_ls [0, 1, 2, 3] rfl (gk28 v1_29 v2_30 v3_31 (1 : Int32) M32 h)
  clear hk33
  refine hz_if_eq (tgt := 31) hO dX10_why_23 (by decide) (fun hc34 => ?_) (fun hc34 => ?_)
  · rw [if_pos hc34] at h
    exact hz_ls [0, 1, 2, 3] rfl (gk33 a1 a2 a3 M11 h)
  · rw [if_neg hc34] at h
    refine hz_iload_n hO dX10_why_26 rfl 3 rfl ?_
    refine hz_iconst (v := (1 : Int32)) hO dX10_why_27 (by decide) ?_
    refine hz_icmp_ne (tgt := 35) hO dX10_why_28 (by decide) (fun hc35 => ?_) (fun hc35 => ?_)
    · rw [if_neg hc35] at h
      refine hz_iconst (v := (0 : Int32)) hO dX10_why_35 (by decide) ?_
      exact hz_ls [0, 1, 2, 3] rfl (gk28 a1 a2 a3 (0 : Int32) M11 h)
    · rw [if_pos hc35] at h
      exact hz_ls [0, 1, 2, 3] rfl (gk33 a1 a2 a3 M11 h)
def f_X10_highest_L19 : Nat → Int32 → Int32 → hz_M → hz_O
  | 0, _, _, _ => none
  | n + 1, v1_8, v2_9, M10 =>
    if v2_9 < (1 : Int32) then
      some ((0 : Int32), M10)
    else
      hz_ct (f_X9_reason v1_8 ((10 : Int32) + v2_9) M10) fun r12 M13 =>
      if r12 = 0 then
        some (v2_9, M13)
      else
        hz_lt (v2_9 + (-1 : Int32)) fun x16 =>
        f_X10_highest_L19 n v1_8 x16 M13
def f_X10_highest (a1 : Int32) (M : hz_M) : hz_O :=
  hz_ct (f_X3_isGuest a1 M) fun r1 M2 =>
  hz_ct (f_X10_need r1 M2) fun r4 M5 =>
  hz_lt ((M5 1 8)) fun x7 =>
  f_X10_highest_L19 hz_FU a1 x7 M5
set_option maxRecDepth 100000 in
set_option maxHeartbeats 4000000 in
theorem g_X10_highest_L19 {p : Program} {l : Launch} {e : Env} {s : State} {m : MethodId} {args : Array Value} {below : List Frame} {meth : Method} {c : Code} {w : hz_C} {N : Nat} (hN : 178 ≤ N) {rE : Int32} {ME : hz_M} (hO : hz_Ok p s m args meth c w cX10_highest 3 RX10 (some .int)) : ∀ (n : Nat) (v1_8 : Int32) (v2_9 : Int32) (M10 : hz_M), f_X10_highest_L19 n v1_8 v2_9 M10 = some (rE, ME) → hz_G p l e 3 hz_z0 s m args below meth c w N 3 (MQ below (hz_Qi w N rE ME) args s 0 0 (hz_A w)) M10 19 [(0, .ref (hz_ad w 0)), (1, .int v1_8), (2, .int v2_9)] [] := by
  intro n
  induction n with
  | zero =>
    intro v1_8 v2_9 M10 h
    rw [f_X10_highest_L19] at h
    cases h
  | succ n ih =>
    intro v1_8 v2_9 M10 h
    rw [f_X10_highest_L19] at h
    refine hz_iload_n hO dX10_highest_19 rfl 2 rfl ?_
    refine hz_iconst (v := (1 : Int32)) hO dX10_highest_20 (by decide) ?_
    refine hz_icmp_lt (tgt := 47) hO dX10_highest_21 (by decide) (fun hc11 => ?_) (fun hc11 => ?_)
    · rw [if_pos hc11] at h
      refine hz_iconst (v := (0 : Int32)) hO dX10_highest_47 (by decide) ?_
      exact hz_nameM (hz_some_e h).2.symm (hz_name (hz_some_e h).1.symm (hz_iret hO dX10_highest_48))
    · rw [if_neg hc11] at h
      refine hz_aload_n hO dX10_highest_24 rfl 0 rfl ?_
      refine hz_getR (k := 4) hO 25 hz_K_8 hz_sh_0 (hz_lt_0 hN) rfl (Nat.le_of_ble_eq_true rfl) tw_3_47 rfl dX10_highest_25 ?_
      refine hz_iload_n hO dX10_highest_28 rfl 1 rfl ?_
      refine hz_bipush (v := (10 : Int32)) hO dX10_highest_29 (by decide) ?_
      refine hz_iload_n hO dX10_highest_31 rfl 2 rfl ?_
      refine hz_iadd hO dX10_highest_32 ?_
      obtain ⟨r12, M13, hq14, h⟩ := hz_ct_e h
      refine hz_callVi (as := [.int v1_8, .int ((10 : Int32) + v2_9)]) (rest := []) hO (c_X9_reason l w hN v1_8 ((10 : Int32) + v2_9) hq14) hz_cal_X9_reason hz_K_7 hz_sh_25 (hz_lt_25 hN) tw_5_193 (Nat.le_of_ble_eq_true rfl) rfl rfl (Nat.le_of_ble_eq_true rfl) dX10_highest_33 ?_
      refine hz_if_ne (tgt := 41) hO dX10_highest_36 (by decide) (fun hc15 => ?_) (fun hc15 => ?_)
      · rw [if_neg hc15] at h
        obtain ⟨x16, h_x16, h⟩ := hz_lt_e h
        refine hz_iinc (k := 2) (v := x16) (ls1 := [(2, .int x16), (0, .ref (hz_ad w 0)), (1, .int v1_8)]) hO dX10_highest_41 rfl (by rw [h_x16]; rfl) (Nat.le_of_ble_eq_true rfl) rfl ?_
        refine hz_goto (tgt := 19) hO dX10_highest_44 (by decide) ?_
        exact hz_ls [1, 2, 0] rfl (ih v1_8 x16 M13 h)
      · rw [if_pos hc15] at h
        refine hz_iload_n hO dX10_highest_39 rfl 2 rfl ?_
        exact hz_nameM (hz_some_e h).2.symm (hz_name (hz_some_e h).1.symm (hz_iret hO dX10_highest_40))
set_option maxRecDepth 100000 in
set_option maxHeartbeats 4000000 in
theorem c_X10_highest (l : Launch) (w : hz_C) {N : Nat} (hN : 178 ≤ N) (a1 : Int32) {M : hz_M} {rE : Int32} {ME : hz_M} (h : f_X10_highest a1 M = some (rE, ME)) : hz_Ct l yX10_highest cX10_highest 3 (some .int) 3 w N [.ref (hz_ad w 0), .int a1] M (hz_Qi w N rE ME) := by
  refine hz_ofW (by decide) rfl (Nat.le_of_ble_eq_true rfl) tw_5_213 ?_
  intro p e s m args below meth c hO
  show hz_G p l e 3 hz_z0 s m args below meth c w N 3 _ M 0 [(0, .ref (hz_ad w 0)), (1, .int a1)] []
  unfold f_X10_highest at h
  refine hz_aload_n hO dX10_highest_0 rfl 0 rfl ?_
  refine hz_getR (k := 0) hO 1 hz_K_8 hz_sh_0 (hz_lt_0 hN) rfl (Nat.le_of_ble_eq_true rfl) tw_3_43 rfl dX10_highest_1 ?_
  refine hz_iload_n hO dX10_highest_4 rfl 1 rfl ?_
  obtain ⟨r1, M2, hq3, h⟩ := hz_ct_e h
  refine hz_callVi (as := [.int a1]) (rest := []) hO (c_X3_isGuest l w hN a1 hq3) hz_cal_X3_isGuest hz_K_2 hz_sh_1 (hz_lt_1 hN) tw_5_110 (Nat.le_of_ble_eq_true rfl) rfl rfl (Nat.le_of_ble_eq_true rfl) dX10_highest_5 ?_
  obtain ⟨r4, M5, hq6, h⟩ := hz_ct_e h
  refine hz_callSv (as := [.int r1]) (rest := []) hO (c_X10_need l w hN r1 hq6) hz_cal_X10_need tw_5_111 (Nat.le_of_ble_eq_true rfl) rfl rfl (Nat.le_of_ble_eq_true rfl) dX10_highest_8 ?_
  refine hz_aload_n hO dX10_highest_11 rfl 0 rfl ?_
  refine hz_getR (k := 0) hO 1 hz_K_8 hz_sh_0 (hz_lt_0 hN) rfl (Nat.le_of_ble_eq_true rfl) tw_3_43 rfl dX10_highest_12 ?_
  refine hz_getI (k := 8) hO hz_K_2 hz_sh_1 (hz_lt_1 hN) rfl (Nat.le_of_ble_eq_true rfl) tw_1_70 rfl dX10_highest_15 ?_
  obtain ⟨x7, h_x7, h⟩ := hz_lt_e h
  refine hz_name h_x7 ?_
  refine hz_istore_n (ls1 := [(2, .int x7), (0, .ref (hz_ad w 0)), (1, .int a1)]) hO dX10_highest_18 rfl (Nat.le_of_ble_eq_true rfl) rfl ?_
  exact hz_ls [1, 2, 0] rfl (g_X10_highest_L19 hN hO _ a1 x7 M5 h)
def f_X10_account (a1 : Int32) (M : hz_M) : hz_O :=
  hz_jn (fun (v1_1 : Int32) (q2 : Int32) (M3 : hz_M) =>
    hz_ct (f_X10_need q2 M3) fun r4 M5 =>
    if (9 : Int32) ≤ v1_1 then
      some ((M5 26 3), M5)
    else
      hz_gd (hz_in v1_1 9) <|
      some ((M5 24 (Int32.toNatClampNeg v1_1)), M5)
    ) fun k9 =>
  hz_jn (fun (v1_10 : Int32) (M11 : hz_M) =>
    k9 v1_10 (0 : Int32) M11
    ) fun k12 =>
  if a1 < 0 then
    k12 a1 M
  else
    if (9 : Int32) < a1 then
      k12 a1 M
    else
      k9 a1 (1 : Int32) M
set_option maxRecDepth 100000 in
set_option maxHeartbeats 4000000 in
theorem c_X10_account (l : Launch) (w : hz_C) {N : Nat} (hN : 178 ≤ N) (a1 : Int32) {M : hz_M} {rE : Int32} {ME : hz_M} (h : f_X10_account a1 M = some (rE, ME)) : hz_Ct l yX10_account cX10_account 2 (some .int) 1 w N [.ref (hz_ad w 0), .int a1] M (hz_Qi w N rE ME) := by
  refine hz_ofW (by decide) rfl (Nat.le_of_ble_eq_true rfl) tw_5_220 ?_
  intro p e s m args below meth c hO
  show hz_G p l e 1 hz_z0 s m args below meth c w N 2 _ M 0 [(0, .ref (hz_ad w 0)), (1, .int a1)] []
  unfold f_X10_account at h
  refine hz_iload_n hO dX10_account_0 rfl 1 rfl ?_
  obtain ⟨k9, hk9, h⟩ := hz_jn_e h
  have gk9 : ∀ (v1_1 : Int32) (q2 : Int32) (M3 : hz_M), k9 v1_1 q2 M3 = some (rE, ME) → hz_G p l e 1 hz_z0 s m args below meth c w N 2 (MQ below (hz_Qi w N rE ME) args s 0 0 (hz_A w)) M3 15 [(0, .ref (hz_ad w 0)), (1, .int v1_1)] [.int q2] := by
    intro v1_1 q2 M3 h
    rw [hk9] at h
    dsimp only at h
    obtain ⟨r4, M5, hq6, h⟩ := hz_ct_e h
    refine hz_callSv (as := [.int q2]) (rest := []) hO (c_X10_need l w hN q2 hq6) hz_cal_X10_need tw_5_111 (Nat.le_of_ble_eq_true rfl) rfl rfl (Nat.le_of_ble_eq_true rfl) dX10_account_15 ?_
    refine hz_iload_n hO dX10_account_18 rfl 1 rfl ?_
    refine hz_bipush (v := (9 : Int32)) hO dX10_account_19 (by decide) ?_
    refine hz_icmp_ge (tgt := 36) hO dX10_account_21 (by decide) (fun hc7 => ?_) (fun hc7 => ?_)
    · rw [if_pos hc7] at h
      refine hz_aload_n hO dX10_account_36 rfl 0 rfl ?_
      refine hz_getR (k := 5) hO 26 hz_K_8 hz_sh_0 (hz_lt_0 hN) rfl (Nat.le_of_ble_eq_true rfl) tw_3_48 rfl dX10_account_37 ?_
      refine hz_getI (k := 3) hO hz_K_0 hz_sh_26 (hz_lt_26 hN) rfl (Nat.le_of_ble_eq_true rfl) tw_2_32 rfl dX10_account_40 ?_
      exact hz_nameM (hz_some_e h).2.symm (hz_name (hz_some_e h).1.symm (hz_iret hO dX10_account_43))
    · rw [if_neg hc7] at h
      refine hz_aload_n hO dX10_account_24 rfl 0 rfl ?_
      refine hz_getR (k := 3) hO 11 hz_K_8 hz_sh_0 (hz_lt_0 hN) rfl (Nat.le_of_ble_eq_true rfl) tw_3_46 rfl dX10_account_25 ?_
      refine hz_getR (k := 13) hO 24 hz_K_5 hz_sh_11 (hz_lt_11 hN) rfl (Nat.le_of_ble_eq_true rfl) tw_1_195 rfl dX10_account_28 ?_
      refine hz_iload_n hO dX10_account_31 rfl 1 rfl ?_
      obtain ⟨hg8, h⟩ := hz_gd_e h
      refine hz_iald hO hz_sh_24 (hz_lt_24 hN) hg8 dX10_account_32 ?_
      refine hz_goto (tgt := 43) hO dX10_account_33 (by decide) ?_
      exact hz_nameM (hz_some_e h).2.symm (hz_name (hz_some_e h).1.symm (hz_iret hO dX10_account_43))
  clear hk9
  obtain ⟨k12, hk12, h⟩ := hz_jn_e h
  have gk12 : ∀ (v1_10 : Int32) (M11 : hz_M), k12 v1_10 M11 = some (rE, ME) → hz_G p l e 1 hz_z0 s m args below meth c w N 2 (MQ below (hz_Qi w N rE ME) args s 0 0 (hz_A w)) M11 14 [(0, .ref (hz_ad w 0)), (1, .int v1_10)] [] := by
    intro v1_10 M11 h
    rw [hk12] at h
    dsimp only at h
    refine hz_iconst (v := (0 : Int32)) hO dX10_account_14 (by decide) ?_
    exact hz_ls [0, 1] rfl (gk9 v1_10 (0 : Int32) M11 h)
  clear hk12
  refine hz_if_lt (tgt := 14) hO dX10_account_1 (by decide) (fun hc13 => ?_) (fun hc13 => ?_)
  · rw [if_pos hc13] at h
    exact hz_ls [0, 1] rfl (gk12 a1 M h)
  · rw [if_neg hc13] at h
    refine hz_iload_n hO dX10_account_4 rfl 1 rfl ?_
    refine hz_bipush (v := (9 : Int32)) hO dX10_account_5 (by decide) ?_
    refine hz_icmp_gt (tgt := 14) hO dX10_account_7 (by decide) (fun hc14 => ?_) (fun hc14 => ?_)
    · rw [if_pos hc14] at h
      exact hz_ls [0, 1] rfl (gk12 a1 M h)
    · rw [if_neg hc14] at h
      refine hz_iconst (v := (1 : Int32)) hO dX10_account_10 (by decide) ?_
      refine hz_goto (tgt := 15) hO dX10_account_11 (by decide) ?_
      exact hz_ls [0, 1] rfl (gk9 a1 (1 : Int32) M h)
def f_X10_heatIn_L29 : Nat → Int32 → Int32 → Int32 → hz_M → hz_O
  | 0, _, _, _, _ => none
  | n + 1, v1_8, v2_9, v3_10, M11 =>
    if v1_8 ≤ v3_10 then
      some (v2_9, M11)
    else
      hz_ct (f_X7_steam M11) fun r13 M14 =>
      hz_ct (f_X7_heatBehind v2_9 r13 M14) fun r16 M17 =>
      hz_lt (v3_10 + (1 : Int32)) fun x19 =>
      f_X10_heatIn_L29 n v1_8 r16 x19 M17
def f_X10_heatIn (a1 : Int32) (M : hz_M) : hz_O :=
  hz_jn (fun (v1_1 : Int32) (q2 : Int32) (M3 : hz_M) =>
    hz_ct (f_X10_need q2 M3) fun r4 M5 =>
    hz_lt ((M5 11 15)) fun x7 =>
    f_X10_heatIn_L29 hz_FU v1_1 x7 (0 : Int32) M5
    ) fun k20 =>
  hz_jn (fun (v1_21 : Int32) (M22 : hz_M) =>
    k20 v1_21 (0 : Int32) M22
    ) fun k23 =>
  if a1 < 0 then
    k23 a1 M
  else
    if (200 : Int32) < a1 then
      k23 a1 M
    else
      k20 a1 (1 : Int32) M
set_option maxRecDepth 100000 in
set_option maxHeartbeats 4000000 in
theorem g_X10_heatIn_L29 {p : Program} {l : Launch} {e : Env} {s : State} {m : MethodId} {args : Array Value} {below : List Frame} {meth : Method} {c : Code} {w : hz_C} {N : Nat} (hN : 178 ≤ N) {rE : Int32} {ME : hz_M} (hO : hz_Ok p s m args meth c w cX10_heatIn 4 RX10 (some .int)) : ∀ (n : Nat) (v1_8 : Int32) (v2_9 : Int32) (v3_10 : Int32) (M11 : hz_M), f_X10_heatIn_L29 n v1_8 v2_9 v3_10 M11 = some (rE, ME) → hz_G p l e 2 hz_z0 s m args below meth c w N 4 (MQ below (hz_Qi w N rE ME) args s 0 0 (hz_A w)) M11 29 [(0, .ref (hz_ad w 0)), (1, .int v1_8), (2, .int v2_9), (3, .int v3_10)] [] := by
  intro n
  induction n with
  | zero =>
    intro v1_8 v2_9 v3_10 M11 h
    rw [f_X10_heatIn_L29] at h
    cases h
  | succ n ih =>
    intro v1_8 v2_9 v3_10 M11 h
    rw [f_X10_heatIn_L29] at h
    refine hz_iload_n hO dX10_heatIn_29 rfl 3 rfl ?_
    refine hz_iload_n hO dX10_heatIn_30 rfl 1 rfl ?_
    refine hz_icmp_ge (tgt := 52) hO dX10_heatIn_31 (by decide) (fun hc12 => ?_) (fun hc12 => ?_)
    · rw [if_pos hc12] at h
      refine hz_iload_n hO dX10_heatIn_52 rfl 2 rfl ?_
      exact hz_nameM (hz_some_e h).2.symm (hz_name (hz_some_e h).1.symm (hz_iret hO dX10_heatIn_53))
    · rw [if_neg hc12] at h
      refine hz_iload_n hO dX10_heatIn_34 rfl 2 rfl ?_
      refine hz_aload_n hO dX10_heatIn_35 rfl 0 rfl ?_
      refine hz_getR (k := 3) hO 11 hz_K_8 hz_sh_0 (hz_lt_0 hN) rfl (Nat.le_of_ble_eq_true rfl) tw_3_46 rfl dX10_heatIn_36 ?_
      obtain ⟨r13, M14, hq15, h⟩ := hz_ct_e h
      refine hz_callVi (as := []) (rest := [.int v2_9]) hO (c_X7_steam l w hN hq15) hz_cal_X7_steam hz_K_5 hz_sh_11 (hz_lt_11 hN) tw_5_228 (Nat.le_of_ble_eq_true rfl) rfl rfl (Nat.le_of_ble_eq_true rfl) dX10_heatIn_39 ?_
      obtain ⟨r16, M17, hq18, h⟩ := hz_ct_e h
      refine hz_callSi (as := [.int v2_9, .int r13]) (rest := []) hO (c_X7_heatBehind l w hN v2_9 r13 hq18) hz_cal_X7_heatBehind tw_5_229 (Nat.le_of_ble_eq_true rfl) rfl rfl (Nat.le_of_ble_eq_true rfl) dX10_heatIn_42 ?_
      refine hz_istore_n (ls1 := [(2, .int r16), (0, .ref (hz_ad w 0)), (1, .int v1_8), (3, .int v3_10)]) hO dX10_heatIn_45 rfl (Nat.le_of_ble_eq_true rfl) rfl ?_
      obtain ⟨x19, h_x19, h⟩ := hz_lt_e h
      refine hz_iinc (k := 3) (v := x19) (ls1 := [(3, .int x19), (2, .int r16), (0, .ref (hz_ad w 0)), (1, .int v1_8)]) hO dX10_heatIn_46 rfl (by rw [h_x19]; rfl) (Nat.le_of_ble_eq_true rfl) rfl ?_
      refine hz_goto (tgt := 29) hO dX10_heatIn_49 (by decide) ?_
      exact hz_ls [2, 3, 1, 0] rfl (ih v1_8 r16 x19 M17 h)
set_option maxRecDepth 100000 in
set_option maxHeartbeats 4000000 in
theorem c_X10_heatIn (l : Launch) (w : hz_C) {N : Nat} (hN : 178 ≤ N) (a1 : Int32) {M : hz_M} {rE : Int32} {ME : hz_M} (h : f_X10_heatIn a1 M = some (rE, ME)) : hz_Ct l yX10_heatIn cX10_heatIn 4 (some .int) 2 w N [.ref (hz_ad w 0), .int a1] M (hz_Qi w N rE ME) := by
  refine hz_ofW (by decide) rfl (Nat.le_of_ble_eq_true rfl) tw_5_227 ?_
  intro p e s m args below meth c hO
  show hz_G p l e 2 hz_z0 s m args below meth c w N 4 _ M 0 [(0, .ref (hz_ad w 0)), (1, .int a1)] []
  unfold f_X10_heatIn at h
  refine hz_iload_n hO dX10_heatIn_0 rfl 1 rfl ?_
  obtain ⟨k20, hk20, h⟩ := hz_jn_e h
  have gk20 : ∀ (v1_1 : Int32) (q2 : Int32) (M3 : hz_M), k20 v1_1 q2 M3 = some (rE, ME) → hz_G p l e 2 hz_z0 s m args below meth c w N 4 (MQ below (hz_Qi w N rE ME) args s 0 0 (hz_A w)) M3 16 [(0, .ref (hz_ad w 0)), (1, .int v1_1)] [.int q2] := by
    intro v1_1 q2 M3 h
    rw [hk20] at h
    dsimp only at h
    obtain ⟨r4, M5, hq6, h⟩ := hz_ct_e h
    refine hz_callSv (as := [.int q2]) (rest := []) hO (c_X10_need l w hN q2 hq6) hz_cal_X10_need tw_5_111 (Nat.le_of_ble_eq_true rfl) rfl rfl (Nat.le_of_ble_eq_true rfl) dX10_heatIn_16 ?_
    refine hz_aload_n hO dX10_heatIn_19 rfl 0 rfl ?_
    refine hz_getR (k := 3) hO 11 hz_K_8 hz_sh_0 (hz_lt_0 hN) rfl (Nat.le_of_ble_eq_true rfl) tw_3_46 rfl dX10_heatIn_20 ?_
    refine hz_getI (k := 15) hO hz_K_5 hz_sh_11 (hz_lt_11 hN) rfl (Nat.le_of_ble_eq_true rfl) tw_1_200 rfl dX10_heatIn_23 ?_
    obtain ⟨x7, h_x7, h⟩ := hz_lt_e h
    refine hz_name h_x7 ?_
    refine hz_istore_n (ls1 := [(2, .int x7), (0, .ref (hz_ad w 0)), (1, .int v1_1)]) hO dX10_heatIn_26 rfl (Nat.le_of_ble_eq_true rfl) rfl ?_
    refine hz_iconst (v := (0 : Int32)) hO dX10_heatIn_27 (by decide) ?_
    refine hz_istore_n (ls1 := [(3, .int (0 : Int32)), (2, .int x7), (0, .ref (hz_ad w 0)), (1, .int v1_1)]) hO dX10_heatIn_28 rfl (Nat.le_of_ble_eq_true rfl) rfl ?_
    exact hz_ls [2, 3, 1, 0] rfl (g_X10_heatIn_L29 hN hO _ v1_1 x7 (0 : Int32) M5 h)
  clear hk20
  obtain ⟨k23, hk23, h⟩ := hz_jn_e h
  have gk23 : ∀ (v1_21 : Int32) (M22 : hz_M), k23 v1_21 M22 = some (rE, ME) → hz_G p l e 2 hz_z0 s m args below meth c w N 4 (MQ below (hz_Qi w N rE ME) args s 0 0 (hz_A w)) M22 15 [(0, .ref (hz_ad w 0)), (1, .int v1_21)] [] := by
    intro v1_21 M22 h
    rw [hk23] at h
    dsimp only at h
    refine hz_iconst (v := (0 : Int32)) hO dX10_heatIn_15 (by decide) ?_
    exact hz_ls [0, 1] rfl (gk20 v1_21 (0 : Int32) M22 h)
  clear hk23
  refine hz_if_lt (tgt := 15) hO dX10_heatIn_1 (by decide) (fun hc24 => ?_) (fun hc24 => ?_)
  · rw [if_pos hc24] at h
    exact hz_ls [0, 1] rfl (gk23 a1 M h)
  · rw [if_neg hc24] at h
    refine hz_iload_n hO dX10_heatIn_4 rfl 1 rfl ?_
    refine hz_sipush (v := (200 : Int32)) hO dX10_heatIn_5 (by decide) ?_
    refine hz_icmp_gt (tgt := 15) hO dX10_heatIn_8 (by decide) (fun hc25 => ?_) (fun hc25 => ?_)
    · rw [if_pos hc25] at h
      exact hz_ls [0, 1] rfl (gk23 a1 M h)
    · rw [if_neg hc25] at h
      refine hz_iconst (v := (1 : Int32)) hO dX10_heatIn_11 (by decide) ?_
      refine hz_goto (tgt := 16) hO dX10_heatIn_12 (by decide) ?_
      exact hz_ls [0, 1] rfl (gk20 a1 (1 : Int32) M h)
def f_X10_downIn_L56 : Nat → Int32 → Int32 → Int32 → Int32 → Int32 → hz_M → hz_O
  | 0, _, _, _, _, _, _ => none
  | n + 1, v1_16, v2_17, v3_18, v4_19, v5_20, M21 =>
    if (200 : Int32) < v5_20 then
      some ((-1 : Int32), M21)
    else
      hz_ct (f_X7_steam M21) fun r23 M24 =>
      hz_ct (f_X7_heatBehind v3_18 r23 M24) fun r26 M27 =>
      hz_ct (f_X3_bears v1_16 M27) fun r29 M30 =>
      hz_ct (f_X7_strainBehind v4_19 ((r26 + ((6 : Int32) * v2_17)) - r29) M30) fun r32 M33 =>
      if r32 < (10 : Int32) then
        hz_lt (v5_20 + (1 : Int32)) fun x36 =>
        f_X10_downIn_L56 n v1_16 v2_17 r26 r32 x36 M33
      else
        some (v5_20, M33)
def f_X10_downIn (a1 : Int32) (M : hz_M) : hz_O :=
  hz_ct (f_X3_isGuest a1 M) fun r1 M2 =>
  hz_ct (f_X10_need r1 M2) fun r4 M5 =>
  hz_gd (hz_in a1 16) <|
  hz_lt ((M5 13 (Int32.toNatClampNeg a1))) fun x8 =>
  hz_ct (f_X3_isStep x8 M5) fun r9 M10 =>
  if r9 = 0 then
    some ((0 : Int32), M10)
  else
    hz_lt ((M10 11 15)) fun x13 =>
    hz_gd (hz_in a1 16) <|
    hz_lt ((M10 16 (Int32.toNatClampNeg a1))) fun x15 =>
    f_X10_downIn_L56 hz_FU a1 x8 x13 x15 (1 : Int32) M10
set_option maxRecDepth 100000 in
set_option maxHeartbeats 4000000 in
theorem g_X10_downIn_L56 {p : Program} {l : Launch} {e : Env} {s : State} {m : MethodId} {args : Array Value} {below : List Frame} {meth : Method} {c : Code} {w : hz_C} {N : Nat} (hN : 178 ≤ N) {rE : Int32} {ME : hz_M} (hO : hz_Ok p s m args meth c w cX10_downIn 6 RX10 (some .int)) : ∀ (n : Nat) (v1_16 : Int32) (v2_17 : Int32) (v3_18 : Int32) (v4_19 : Int32) (v5_20 : Int32) (M21 : hz_M), f_X10_downIn_L56 n v1_16 v2_17 v3_18 v4_19 v5_20 M21 = some (rE, ME) → hz_G p l e 2 hz_z0 s m args below meth c w N 6 (MQ below (hz_Qi w N rE ME) args s 0 0 (hz_A w)) M21 56 [(0, .ref (hz_ad w 0)), (1, .int v1_16), (2, .int v2_17), (3, .int v3_18), (4, .int v4_19), (5, .int v5_20)] [] := by
  intro n
  induction n with
  | zero =>
    intro v1_16 v2_17 v3_18 v4_19 v5_20 M21 h
    rw [f_X10_downIn_L56] at h
    cases h
  | succ n ih =>
    intro v1_16 v2_17 v3_18 v4_19 v5_20 M21 h
    rw [f_X10_downIn_L56] at h
    refine hz_iload hO dX10_downIn_56 5 rfl ?_
    refine hz_sipush (v := (200 : Int32)) hO dX10_downIn_58 (by decide) ?_
    refine hz_icmp_gt (tgt := 114) hO dX10_downIn_61 (by decide) (fun hc22 => ?_) (fun hc22 => ?_)
    · rw [if_pos hc22] at h
      refine hz_iconst (v := (-1 : Int32)) hO dX10_downIn_114 (by decide) ?_
      exact hz_nameM (hz_some_e h).2.symm (hz_name (hz_some_e h).1.symm (hz_iret hO dX10_downIn_115))
    · rw [if_neg hc22] at h
      refine hz_iload_n hO dX10_downIn_64 rfl 3 rfl ?_
      refine hz_aload_n hO dX10_downIn_65 rfl 0 rfl ?_
      refine hz_getR (k := 3) hO 11 hz_K_8 hz_sh_0 (hz_lt_0 hN) rfl (Nat.le_of_ble_eq_true rfl) tw_3_46 rfl dX10_downIn_66 ?_
      obtain ⟨r23, M24, hq25, h⟩ := hz_ct_e h
      refine hz_callVi (as := []) (rest := [.int v3_18]) hO (c_X7_steam l w hN hq25) hz_cal_X7_steam hz_K_5 hz_sh_11 (hz_lt_11 hN) tw_5_228 (Nat.le_of_ble_eq_true rfl) rfl rfl (Nat.le_of_ble_eq_true rfl) dX10_downIn_69 ?_
      obtain ⟨r26, M27, hq28, h⟩ := hz_ct_e h
      refine hz_callSi (as := [.int v3_18, .int r23]) (rest := []) hO (c_X7_heatBehind l w hN v3_18 r23 hq28) hz_cal_X7_heatBehind tw_5_229 (Nat.le_of_ble_eq_true rfl) rfl rfl (Nat.le_of_ble_eq_true rfl) dX10_downIn_72 ?_
      refine hz_istore_n (ls1 := [(3, .int r26), (0, .ref (hz_ad w 0)), (1, .int v1_16), (2, .int v2_17), (4, .int v4_19), (5, .int v5_20)]) hO dX10_downIn_75 rfl (Nat.le_of_ble_eq_true rfl) rfl ?_
      refine hz_iload hO dX10_downIn_76 4 rfl ?_
      refine hz_iload_n hO dX10_downIn_78 rfl 0 rfl ?_
      refine hz_bipush (v := (6 : Int32)) hO dX10_downIn_79 (by decide) ?_
      refine hz_iload_n hO dX10_downIn_81 rfl 3 rfl ?_
      refine hz_imul hO dX10_downIn_82 ?_
      refine hz_iadd hO dX10_downIn_83 ?_
      refine hz_aload_n hO dX10_downIn_84 rfl 1 rfl ?_
      refine hz_getR (k := 0) hO 1 hz_K_8 hz_sh_0 (hz_lt_0 hN) rfl (Nat.le_of_ble_eq_true rfl) tw_3_43 rfl dX10_downIn_85 ?_
      refine hz_iload_n hO dX10_downIn_88 rfl 2 rfl ?_
      obtain ⟨r29, M30, hq31, h⟩ := hz_ct_e h
      refine hz_callVi (as := [.int v1_16]) (rest := [.int (r26 + ((6 : Int32) * v2_17)), .int v4_19]) hO (c_X3_bears l w hN v1_16 hq31) hz_cal_X3_bears hz_K_2 hz_sh_1 (hz_lt_1 hN) tw_5_115 (Nat.le_of_ble_eq_true rfl) rfl rfl (Nat.le_of_ble_eq_true rfl) dX10_downIn_89 ?_
      refine hz_isub hO dX10_downIn_92 ?_
      obtain ⟨r32, M33, hq34, h⟩ := hz_ct_e h
      refine hz_callSi (as := [.int v4_19, .int ((r26 + ((6 : Int32) * v2_17)) - r29)]) (rest := []) hO (c_X7_strainBehind l w hN v4_19 ((r26 + ((6 : Int32) * v2_17)) - r29) hq34) hz_cal_X7_strainBehind tw_5_237 (Nat.le_of_ble_eq_true rfl) rfl rfl (Nat.le_of_ble_eq_true rfl) dX10_downIn_93 ?_
      refine hz_istore (ls1 := [(4, .int r32), (3, .int r26), (0, .ref (hz_ad w 0)), (1, .int v1_16), (2, .int v2_17), (5, .int v5_20)]) hO dX10_downIn_96 (Nat.le_of_ble_eq_true rfl) rfl ?_
      refine hz_iload hO dX10_downIn_98 0 rfl ?_
      refine hz_bipush (v := (10 : Int32)) hO dX10_downIn_100 (by decide) ?_
      refine hz_icmp_lt (tgt := 108) hO dX10_downIn_102 (by decide) (fun hc35 => ?_) (fun hc35 => ?_)
      · rw [if_pos hc35] at h
        obtain ⟨x36, h_x36, h⟩ := hz_lt_e h
        refine hz_iinc (k := 5) (v := x36) (ls1 := [(5, .int x36), (4, .int r32), (3, .int r26), (0, .ref (hz_ad w 0)), (1, .int v1_16), (2, .int v2_17)]) hO dX10_downIn_108 rfl (by rw [h_x36]; rfl) (Nat.le_of_ble_eq_true rfl) rfl ?_
        refine hz_goto (tgt := 56) hO dX10_downIn_111 (by decide) ?_
        exact hz_ls [3, 4, 5, 2, 1, 0] rfl (ih v1_16 v2_17 r26 r32 x36 M33 h)
      · rw [if_neg hc35] at h
        refine hz_iload hO dX10_downIn_105 5 rfl ?_
        exact hz_nameM (hz_some_e h).2.symm (hz_name (hz_some_e h).1.symm (hz_iret hO dX10_downIn_107))
set_option maxRecDepth 100000 in
set_option maxHeartbeats 4000000 in
theorem c_X10_downIn (l : Launch) (w : hz_C) {N : Nat} (hN : 178 ≤ N) (a1 : Int32) {M : hz_M} {rE : Int32} {ME : hz_M} (h : f_X10_downIn a1 M = some (rE, ME)) : hz_Ct l yX10_downIn cX10_downIn 6 (some .int) 2 w N [.ref (hz_ad w 0), .int a1] M (hz_Qi w N rE ME) := by
  refine hz_ofW (by decide) rfl (Nat.le_of_ble_eq_true rfl) tw_5_236 ?_
  intro p e s m args below meth c hO
  show hz_G p l e 2 hz_z0 s m args below meth c w N 6 _ M 0 [(0, .ref (hz_ad w 0)), (1, .int a1)] []
  unfold f_X10_downIn at h
  refine hz_aload_n hO dX10_downIn_0 rfl 0 rfl ?_
  refine hz_getR (k := 0) hO 1 hz_K_8 hz_sh_0 (hz_lt_0 hN) rfl (Nat.le_of_ble_eq_true rfl) tw_3_43 rfl dX10_downIn_1 ?_
  refine hz_iload_n hO dX10_downIn_4 rfl 1 rfl ?_
  obtain ⟨r1, M2, hq3, h⟩ := hz_ct_e h
  refine hz_callVi (as := [.int a1]) (rest := []) hO (c_X3_isGuest l w hN a1 hq3) hz_cal_X3_isGuest hz_K_2 hz_sh_1 (hz_lt_1 hN) tw_5_110 (Nat.le_of_ble_eq_true rfl) rfl rfl (Nat.le_of_ble_eq_true rfl) dX10_downIn_5 ?_
  obtain ⟨r4, M5, hq6, h⟩ := hz_ct_e h
  refine hz_callSv (as := [.int r1]) (rest := []) hO (c_X10_need l w hN r1 hq6) hz_cal_X10_need tw_5_111 (Nat.le_of_ble_eq_true rfl) rfl rfl (Nat.le_of_ble_eq_true rfl) dX10_downIn_8 ?_
  refine hz_aload_n hO dX10_downIn_11 rfl 0 rfl ?_
  refine hz_getR (k := 3) hO 11 hz_K_8 hz_sh_0 (hz_lt_0 hN) rfl (Nat.le_of_ble_eq_true rfl) tw_3_46 rfl dX10_downIn_12 ?_
  refine hz_getR (k := 2) hO 13 hz_K_5 hz_sh_11 (hz_lt_11 hN) rfl (Nat.le_of_ble_eq_true rfl) tw_1_159 rfl dX10_downIn_15 ?_
  refine hz_iload_n hO dX10_downIn_18 rfl 1 rfl ?_
  obtain ⟨hg7, h⟩ := hz_gd_e h
  refine hz_iald hO hz_sh_13 (hz_lt_13 hN) hg7 dX10_downIn_19 ?_
  obtain ⟨x8, h_x8, h⟩ := hz_lt_e h
  refine hz_name h_x8 ?_
  refine hz_istore_n (ls1 := [(2, .int x8), (0, .ref (hz_ad w 0)), (1, .int a1)]) hO dX10_downIn_20 rfl (Nat.le_of_ble_eq_true rfl) rfl ?_
  refine hz_aload_n hO dX10_downIn_21 rfl 1 rfl ?_
  refine hz_getR (k := 0) hO 1 hz_K_8 hz_sh_0 (hz_lt_0 hN) rfl (Nat.le_of_ble_eq_true rfl) tw_3_43 rfl dX10_downIn_22 ?_
  refine hz_iload_n hO dX10_downIn_25 rfl 0 rfl ?_
  obtain ⟨r9, M10, hq11, h⟩ := hz_ct_e h
  refine hz_callVi (as := [.int x8]) (rest := []) hO (c_X3_isStep l w hN x8 hq11) hz_cal_X3_isStep hz_K_2 hz_sh_1 (hz_lt_1 hN) tw_5_162 (Nat.le_of_ble_eq_true rfl) rfl rfl (Nat.le_of_ble_eq_true rfl) dX10_downIn_26 ?_
  refine hz_if_ne (tgt := 34) hO dX10_downIn_29 (by decide) (fun hc12 => ?_) (fun hc12 => ?_)
  · rw [if_neg hc12] at h
    refine hz_aload_n hO dX10_downIn_34 rfl 1 rfl ?_
    refine hz_getR (k := 3) hO 11 hz_K_8 hz_sh_0 (hz_lt_0 hN) rfl (Nat.le_of_ble_eq_true rfl) tw_3_46 rfl dX10_downIn_35 ?_
    refine hz_getI (k := 15) hO hz_K_5 hz_sh_11 (hz_lt_11 hN) rfl (Nat.le_of_ble_eq_true rfl) tw_1_200 rfl dX10_downIn_38 ?_
    obtain ⟨x13, h_x13, h⟩ := hz_lt_e h
    refine hz_name h_x13 ?_
    refine hz_istore_n (ls1 := [(3, .int x13), (2, .int x8), (0, .ref (hz_ad w 0)), (1, .int a1)]) hO dX10_downIn_41 rfl (Nat.le_of_ble_eq_true rfl) rfl ?_
    refine hz_aload_n hO dX10_downIn_42 rfl 2 rfl ?_
    refine hz_getR (k := 3) hO 11 hz_K_8 hz_sh_0 (hz_lt_0 hN) rfl (Nat.le_of_ble_eq_true rfl) tw_3_46 rfl dX10_downIn_43 ?_
    refine hz_getR (k := 5) hO 16 hz_K_5 hz_sh_11 (hz_lt_11 hN) rfl (Nat.le_of_ble_eq_true rfl) tw_1_169 rfl dX10_downIn_46 ?_
    refine hz_iload_n hO dX10_downIn_49 rfl 3 rfl ?_
    obtain ⟨hg14, h⟩ := hz_gd_e h
    refine hz_iald hO hz_sh_16 (hz_lt_16 hN) hg14 dX10_downIn_50 ?_
    obtain ⟨x15, h_x15, h⟩ := hz_lt_e h
    refine hz_name h_x15 ?_
    refine hz_istore (ls1 := [(4, .int x15), (3, .int x13), (2, .int x8), (0, .ref (hz_ad w 0)), (1, .int a1)]) hO dX10_downIn_51 (Nat.le_of_ble_eq_true rfl) rfl ?_
    refine hz_iconst (v := (1 : Int32)) hO dX10_downIn_53 (by decide) ?_
    refine hz_istore (ls1 := [(5, .int (1 : Int32)), (4, .int x15), (3, .int x13), (2, .int x8), (0, .ref (hz_ad w 0)), (1, .int a1)]) hO dX10_downIn_54 (Nat.le_of_ble_eq_true rfl) rfl ?_
    exact hz_ls [4, 5, 3, 2, 1, 0] rfl (g_X10_downIn_L56 hN hO _ a1 x8 x13 x15 (1 : Int32) M10 h)
  · rw [if_pos hc12] at h
    refine hz_iconst (v := (0 : Int32)) hO dX10_downIn_32 (by decide) ?_
    exact hz_nameM (hz_some_e h).2.symm (hz_name (hz_some_e h).1.symm (hz_iret hO dX10_downIn_33))
def f_X10_dryIn_L59 : Nat → Int32 → Int32 → Int32 → hz_M → hz_O
  | 0, _, _, _, _ => none
  | n + 1, v2_16, v3_17, v4_18, M19 =>
    if (200 : Int32) < v4_18 then
      some ((-1 : Int32), M19)
    else
      hz_ct (f_X7_steam M19) fun r21 M22 =>
      hz_ct (f_X7_heatBehind v3_17 r21 M22) fun r24 M25 =>
      hz_ct (f_X7_wetOnPegBehind v2_16 r24 M25) fun r27 M28 =>
      if r27 = 0 then
        some (v4_18, M28)
      else
        hz_lt (v4_18 + (1 : Int32)) fun x31 =>
        f_X10_dryIn_L59 n r27 r24 x31 M28
def f_X10_dryIn (a1 : Int32) (M : hz_M) : hz_O :=
  hz_ct (f_X3_isTowel a1 M) fun r1 M2 =>
  hz_ct (f_X10_need r1 M2) fun r4 M5 =>
  hz_gd (hz_in a1 16) <|
  hz_lt ((M5 20 (Int32.toNatClampNeg a1))) fun x8 =>
  if x8 = 0 then
    some ((0 : Int32), M5)
  else
    hz_gd (hz_in a1 16) <|
    hz_ct (f_X3_isPeg (M5 21 (Int32.toNatClampNeg a1)) M5) fun r11 M12 =>
    if r11 = 0 then
      some ((-1 : Int32), M12)
    else
      hz_lt ((M12 11 15)) fun x15 =>
      f_X10_dryIn_L59 hz_FU x8 x15 (1 : Int32) M12
set_option maxRecDepth 100000 in
set_option maxHeartbeats 4000000 in
theorem g_X10_dryIn_L59 {p : Program} {l : Launch} {e : Env} {s : State} {m : MethodId} {args : Array Value} {below : List Frame} {meth : Method} {c : Code} {w : hz_C} {N : Nat} (hN : 178 ≤ N) {rE : Int32} {ME : hz_M} (hO : hz_Ok p s m args meth c w cX10_dryIn 5 RX10 (some .int)) : ∀ (n : Nat) (v2_16 : Int32) (v3_17 : Int32) (v4_18 : Int32) (M19 : hz_M), f_X10_dryIn_L59 n v2_16 v3_17 v4_18 M19 = some (rE, ME) → hz_G p l e 2 hz_z0 s m args below meth c w N 5 (MQ below (hz_Qi w N rE ME) args s 0 0 (hz_A w)) M19 59 [(0, .ref (hz_ad w 0)), (2, .int v2_16), (3, .int v3_17), (4, .int v4_18)] [] := by
  intro n
  induction n with
  | zero =>
    intro v2_16 v3_17 v4_18 M19 h
    rw [f_X10_dryIn_L59] at h
    cases h
  | succ n ih =>
    intro v2_16 v3_17 v4_18 M19 h
    rw [f_X10_dryIn_L59] at h
    refine hz_iload hO dX10_dryIn_59 3 rfl ?_
    refine hz_sipush (v := (200 : Int32)) hO dX10_dryIn_61 (by decide) ?_
    refine hz_icmp_gt (tgt := 98) hO dX10_dryIn_64 (by decide) (fun hc20 => ?_) (fun hc20 => ?_)
    · rw [if_pos hc20] at h
      refine hz_iconst (v := (-1 : Int32)) hO dX10_dryIn_98 (by decide) ?_
      exact hz_nameM (hz_some_e h).2.symm (hz_name (hz_some_e h).1.symm (hz_iret hO dX10_dryIn_99))
    · rw [if_neg hc20] at h
      refine hz_iload_n hO dX10_dryIn_67 rfl 2 rfl ?_
      refine hz_aload_n hO dX10_dryIn_68 rfl 0 rfl ?_
      refine hz_getR (k := 3) hO 11 hz_K_8 hz_sh_0 (hz_lt_0 hN) rfl (Nat.le_of_ble_eq_true rfl) tw_3_46 rfl dX10_dryIn_69 ?_
      obtain ⟨r21, M22, hq23, h⟩ := hz_ct_e h
      refine hz_callVi (as := []) (rest := [.int v3_17]) hO (c_X7_steam l w hN hq23) hz_cal_X7_steam hz_K_5 hz_sh_11 (hz_lt_11 hN) tw_5_228 (Nat.le_of_ble_eq_true rfl) rfl rfl (Nat.le_of_ble_eq_true rfl) dX10_dryIn_72 ?_
      obtain ⟨r24, M25, hq26, h⟩ := hz_ct_e h
      refine hz_callSi (as := [.int v3_17, .int r21]) (rest := []) hO (c_X7_heatBehind l w hN v3_17 r21 hq26) hz_cal_X7_heatBehind tw_5_229 (Nat.le_of_ble_eq_true rfl) rfl rfl (Nat.le_of_ble_eq_true rfl) dX10_dryIn_75 ?_
      refine hz_istore_n (ls1 := [(3, .int r24), (0, .ref (hz_ad w 0)), (2, .int v2_16), (4, .int v4_18)]) hO dX10_dryIn_78 rfl (Nat.le_of_ble_eq_true rfl) rfl ?_
      refine hz_iload_n hO dX10_dryIn_79 rfl 2 rfl ?_
      refine hz_iload_n hO dX10_dryIn_80 rfl 0 rfl ?_
      obtain ⟨r27, M28, hq29, h⟩ := hz_ct_e h
      refine hz_callSi (as := [.int v2_16, .int r24]) (rest := []) hO (c_X7_wetOnPegBehind l w hN v2_16 r24 hq29) hz_cal_X7_wetOnPegBehind tw_6_5 (Nat.le_of_ble_eq_true rfl) rfl rfl (Nat.le_of_ble_eq_true rfl) dX10_dryIn_81 ?_
      refine hz_istore_n (ls1 := [(2, .int r27), (3, .int r24), (0, .ref (hz_ad w 0)), (4, .int v4_18)]) hO dX10_dryIn_84 rfl (Nat.le_of_ble_eq_true rfl) rfl ?_
      refine hz_iload_n hO dX10_dryIn_85 rfl 0 rfl ?_
      refine hz_if_ne (tgt := 92) hO dX10_dryIn_86 (by decide) (fun hc30 => ?_) (fun hc30 => ?_)
      · rw [if_neg hc30] at h
        obtain ⟨x31, h_x31, h⟩ := hz_lt_e h
        refine hz_iinc (k := 3) (v := x31) (ls1 := [(4, .int x31), (2, .int r27), (3, .int r24), (0, .ref (hz_ad w 0))]) hO dX10_dryIn_92 rfl (by rw [h_x31]; rfl) (Nat.le_of_ble_eq_true rfl) rfl ?_
        refine hz_goto (tgt := 59) hO dX10_dryIn_95 (by decide) ?_
        exact hz_ls [3, 1, 2, 0] rfl (ih r27 r24 x31 M28 h)
      · rw [if_pos hc30] at h
        refine hz_iload hO dX10_dryIn_89 3 rfl ?_
        exact hz_nameM (hz_some_e h).2.symm (hz_name (hz_some_e h).1.symm (hz_iret hO dX10_dryIn_91))
set_option maxRecDepth 100000 in
set_option maxHeartbeats 4000000 in
theorem c_X10_dryIn (l : Launch) (w : hz_C) {N : Nat} (hN : 178 ≤ N) (a1 : Int32) {M : hz_M} {rE : Int32} {ME : hz_M} (h : f_X10_dryIn a1 M = some (rE, ME)) : hz_Ct l yX10_dryIn cX10_dryIn 5 (some .int) 2 w N [.ref (hz_ad w 0), .int a1] M (hz_Qi w N rE ME) := by
  refine hz_ofW (by decide) rfl (Nat.le_of_ble_eq_true rfl) tw_6_4 ?_
  intro p e s m args below meth c hO
  show hz_G p l e 2 hz_z0 s m args below meth c w N 5 _ M 0 [(0, .ref (hz_ad w 0)), (1, .int a1)] []
  unfold f_X10_dryIn at h
  refine hz_aload_n hO dX10_dryIn_0 rfl 0 rfl ?_
  refine hz_getR (k := 0) hO 1 hz_K_8 hz_sh_0 (hz_lt_0 hN) rfl (Nat.le_of_ble_eq_true rfl) tw_3_43 rfl dX10_dryIn_1 ?_
  refine hz_iload_n hO dX10_dryIn_4 rfl 1 rfl ?_
  obtain ⟨r1, M2, hq3, h⟩ := hz_ct_e h
  refine hz_callVi (as := [.int a1]) (rest := []) hO (c_X3_isTowel l w hN a1 hq3) hz_cal_X3_isTowel hz_K_2 hz_sh_1 (hz_lt_1 hN) tw_5_128 (Nat.le_of_ble_eq_true rfl) rfl rfl (Nat.le_of_ble_eq_true rfl) dX10_dryIn_5 ?_
  obtain ⟨r4, M5, hq6, h⟩ := hz_ct_e h
  refine hz_callSv (as := [.int r1]) (rest := []) hO (c_X10_need l w hN r1 hq6) hz_cal_X10_need tw_5_111 (Nat.le_of_ble_eq_true rfl) rfl rfl (Nat.le_of_ble_eq_true rfl) dX10_dryIn_8 ?_
  refine hz_aload_n hO dX10_dryIn_11 rfl 0 rfl ?_
  refine hz_getR (k := 3) hO 11 hz_K_8 hz_sh_0 (hz_lt_0 hN) rfl (Nat.le_of_ble_eq_true rfl) tw_3_46 rfl dX10_dryIn_12 ?_
  refine hz_getR (k := 9) hO 20 hz_K_5 hz_sh_11 (hz_lt_11 hN) rfl (Nat.le_of_ble_eq_true rfl) tw_1_181 rfl dX10_dryIn_15 ?_
  refine hz_iload_n hO dX10_dryIn_18 rfl 1 rfl ?_
  obtain ⟨hg7, h⟩ := hz_gd_e h
  refine hz_iald hO hz_sh_20 (hz_lt_20 hN) hg7 dX10_dryIn_19 ?_
  obtain ⟨x8, h_x8, h⟩ := hz_lt_e h
  refine hz_name h_x8 ?_
  refine hz_istore_n (ls1 := [(2, .int x8), (0, .ref (hz_ad w 0)), (1, .int a1)]) hO dX10_dryIn_20 rfl (Nat.le_of_ble_eq_true rfl) rfl ?_
  refine hz_iload_n hO dX10_dryIn_21 rfl 0 rfl ?_
  refine hz_if_ne (tgt := 27) hO dX10_dryIn_22 (by decide) (fun hc9 => ?_) (fun hc9 => ?_)
  · rw [if_neg hc9] at h
    refine hz_aload_n hO dX10_dryIn_27 rfl 1 rfl ?_
    refine hz_getR (k := 0) hO 1 hz_K_8 hz_sh_0 (hz_lt_0 hN) rfl (Nat.le_of_ble_eq_true rfl) tw_3_43 rfl dX10_dryIn_28 ?_
    refine hz_aload_n hO dX10_dryIn_31 rfl 1 rfl ?_
    refine hz_getR (k := 3) hO 11 hz_K_8 hz_sh_0 (hz_lt_0 hN) rfl (Nat.le_of_ble_eq_true rfl) tw_3_46 rfl dX10_dryIn_32 ?_
    refine hz_getR (k := 10) hO 21 hz_K_5 hz_sh_11 (hz_lt_11 hN) rfl (Nat.le_of_ble_eq_true rfl) tw_1_184 rfl dX10_dryIn_35 ?_
    refine hz_iload_n hO dX10_dryIn_38 rfl 2 rfl ?_
    obtain ⟨hg10, h⟩ := hz_gd_e h
    refine hz_iald hO hz_sh_21 (hz_lt_21 hN) hg10 dX10_dryIn_39 ?_
    obtain ⟨r11, M12, hq13, h⟩ := hz_ct_e h
    refine hz_callVi (as := [.int (M5 21 (Int32.toNatClampNeg a1))]) (rest := []) hO (c_X3_isPeg l w hN (M5 21 (Int32.toNatClampNeg a1)) hq13) hz_cal_X3_isPeg hz_K_2 hz_sh_1 (hz_lt_1 hN) tw_5_138 (Nat.le_of_ble_eq_true rfl) rfl rfl (Nat.le_of_ble_eq_true rfl) dX10_dryIn_40 ?_
    refine hz_if_ne (tgt := 48) hO dX10_dryIn_43 (by decide) (fun hc14 => ?_) (fun hc14 => ?_)
    · rw [if_neg hc14] at h
      refine hz_aload_n hO dX10_dryIn_48 rfl 1 rfl ?_
      refine hz_getR (k := 3) hO 11 hz_K_8 hz_sh_0 (hz_lt_0 hN) rfl (Nat.le_of_ble_eq_true rfl) tw_3_46 rfl dX10_dryIn_49 ?_
      refine hz_getI (k := 15) hO hz_K_5 hz_sh_11 (hz_lt_11 hN) rfl (Nat.le_of_ble_eq_true rfl) tw_1_200 rfl dX10_dryIn_52 ?_
      obtain ⟨x15, h_x15, h⟩ := hz_lt_e h
      refine hz_name h_x15 ?_
      refine hz_istore_n (ls1 := [(3, .int x15), (2, .int x8), (0, .ref (hz_ad w 0)), (1, .int a1)]) hO dX10_dryIn_55 rfl (Nat.le_of_ble_eq_true rfl) rfl ?_
      refine hz_iconst (v := (1 : Int32)) hO dX10_dryIn_56 (by decide) ?_
      refine hz_istore (ls1 := [(4, .int (1 : Int32)), (3, .int x15), (2, .int x8), (0, .ref (hz_ad w 0)), (1, .int a1)]) hO dX10_dryIn_57 (Nat.le_of_ble_eq_true rfl) rfl ?_
      exact hz_ls [3, 2, 1, 0] rfl (g_X10_dryIn_L59 hN hO _ x8 x15 (1 : Int32) M12 h)
    · rw [if_pos hc14] at h
      refine hz_iconst (v := (-1 : Int32)) hO dX10_dryIn_46 (by decide) ?_
      exact hz_nameM (hz_some_e h).2.symm (hz_name (hz_some_e h).1.symm (hz_iret hO dX10_dryIn_47))
  · rw [if_pos hc9] at h
    refine hz_iconst (v := (0 : Int32)) hO dX10_dryIn_25 (by decide) ?_
    exact hz_nameM (hz_some_e h).2.symm (hz_name (hz_some_e h).1.symm (hz_iret hO dX10_dryIn_26))
def f_X10_ifValve (a1 : Int32) (a2 : Int32) (M : hz_M) : hz_O :=
  hz_ct (f_X3_isValve a1 M) fun r1 M2 =>
  hz_ct (f_X10_need r1 M2) fun r4 M5 =>
  hz_ct (f_X10_isOpening a2 M5) fun r7 M8 =>
  hz_ct (f_X10_need r7 M8) fun r10 M11 =>
  hz_ct (f_X7_steam M11) fun r13 M14 =>
  hz_gd (hz_in a1 4) <|
  hz_ct (f_X7_heatBehind (M11 11 15) ((r13 - (M14 12 (Int32.toNatClampNeg a1))) + a2) M14) fun r17 M18 =>
  some (r17, M18)
set_option maxRecDepth 100000 in
set_option maxHeartbeats 4000000 in
theorem c_X10_ifValve (l : Launch) (w : hz_C) {N : Nat} (hN : 178 ≤ N) (a1 : Int32) (a2 : Int32) {M : hz_M} {rE : Int32} {ME : hz_M} (h : f_X10_ifValve a1 a2 M = some (rE, ME)) : hz_Ct l yX10_ifValve cX10_ifValve 3 (some .int) 2 w N [.ref (hz_ad w 0), .int a1, .int a2] M (hz_Qi w N rE ME) := by
  refine hz_ofW (by decide) rfl (Nat.le_of_ble_eq_true rfl) tw_6_12 ?_
  intro p e s m args below meth c hO
  show hz_G p l e 2 hz_z0 s m args below meth c w N 3 _ M 0 [(0, .ref (hz_ad w 0)), (1, .int a1), (2, .int a2)] []
  unfold f_X10_ifValve at h
  refine hz_aload_n hO dX10_ifValve_0 rfl 0 rfl ?_
  refine hz_getR (k := 0) hO 1 hz_K_8 hz_sh_0 (hz_lt_0 hN) rfl (Nat.le_of_ble_eq_true rfl) tw_3_43 rfl dX10_ifValve_1 ?_
  refine hz_iload_n hO dX10_ifValve_4 rfl 1 rfl ?_
  obtain ⟨r1, M2, hq3, h⟩ := hz_ct_e h
  refine hz_callVi (as := [.int a1]) (rest := []) hO (c_X3_isValve l w hN a1 hq3) hz_cal_X3_isValve hz_K_2 hz_sh_1 (hz_lt_1 hN) tw_5_154 (Nat.le_of_ble_eq_true rfl) rfl rfl (Nat.le_of_ble_eq_true rfl) dX10_ifValve_5 ?_
  obtain ⟨r4, M5, hq6, h⟩ := hz_ct_e h
  refine hz_callSv (as := [.int r1]) (rest := []) hO (c_X10_need l w hN r1 hq6) hz_cal_X10_need tw_5_111 (Nat.le_of_ble_eq_true rfl) rfl rfl (Nat.le_of_ble_eq_true rfl) dX10_ifValve_8 ?_
  refine hz_iload_n hO dX10_ifValve_11 rfl 2 rfl ?_
  obtain ⟨r7, M8, hq9, h⟩ := hz_ct_e h
  refine hz_callSi (as := [.int a2]) (rest := []) hO (c_X10_isOpening l w hN a2 hq9) hz_cal_X10_isOpening tw_6_13 (Nat.le_of_ble_eq_true rfl) rfl rfl (Nat.le_of_ble_eq_true rfl) dX10_ifValve_12 ?_
  obtain ⟨r10, M11, hq12, h⟩ := hz_ct_e h
  refine hz_callSv (as := [.int r7]) (rest := []) hO (c_X10_need l w hN r7 hq12) hz_cal_X10_need tw_5_111 (Nat.le_of_ble_eq_true rfl) rfl rfl (Nat.le_of_ble_eq_true rfl) dX10_ifValve_15 ?_
  refine hz_aload_n hO dX10_ifValve_18 rfl 0 rfl ?_
  refine hz_getR (k := 3) hO 11 hz_K_8 hz_sh_0 (hz_lt_0 hN) rfl (Nat.le_of_ble_eq_true rfl) tw_3_46 rfl dX10_ifValve_19 ?_
  refine hz_getI (k := 15) hO hz_K_5 hz_sh_11 (hz_lt_11 hN) rfl (Nat.le_of_ble_eq_true rfl) tw_1_200 rfl dX10_ifValve_22 ?_
  refine hz_aload_n hO dX10_ifValve_25 rfl 0 rfl ?_
  refine hz_getR (k := 3) hO 11 hz_K_8 hz_sh_0 (hz_lt_0 hN) rfl (Nat.le_of_ble_eq_true rfl) tw_3_46 rfl dX10_ifValve_26 ?_
  obtain ⟨r13, M14, hq15, h⟩ := hz_ct_e h
  refine hz_callVi (as := []) (rest := [.int (M11 11 15)]) hO (c_X7_steam l w hN hq15) hz_cal_X7_steam hz_K_5 hz_sh_11 (hz_lt_11 hN) tw_5_228 (Nat.le_of_ble_eq_true rfl) rfl rfl (Nat.le_of_ble_eq_true rfl) dX10_ifValve_29 ?_
  refine hz_aload_n hO dX10_ifValve_32 rfl 0 rfl ?_
  refine hz_getR (k := 3) hO 11 hz_K_8 hz_sh_0 (hz_lt_0 hN) rfl (Nat.le_of_ble_eq_true rfl) tw_3_46 rfl dX10_ifValve_33 ?_
  refine hz_getR (k := 1) hO 12 hz_K_5 hz_sh_11 (hz_lt_11 hN) rfl (Nat.le_of_ble_eq_true rfl) tw_1_153 rfl dX10_ifValve_36 ?_
  refine hz_iload_n hO dX10_ifValve_39 rfl 1 rfl ?_
  obtain ⟨hg16, h⟩ := hz_gd_e h
  refine hz_iald hO hz_sh_12 (hz_lt_12 hN) hg16 dX10_ifValve_40 ?_
  refine hz_isub hO dX10_ifValve_41 ?_
  refine hz_iload_n hO dX10_ifValve_42 rfl 2 rfl ?_
  refine hz_iadd hO dX10_ifValve_43 ?_
  obtain ⟨r17, M18, hq19, h⟩ := hz_ct_e h
  refine hz_callSi (as := [.int (M11 11 15), .int ((r13 - (M14 12 (Int32.toNatClampNeg a1))) + a2)]) (rest := []) hO (c_X7_heatBehind l w hN (M11 11 15) ((r13 - (M14 12 (Int32.toNatClampNeg a1))) + a2) hq19) hz_cal_X7_heatBehind tw_5_229 (Nat.le_of_ble_eq_true rfl) rfl rfl (Nat.le_of_ble_eq_true rfl) dX10_ifValve_44 ?_
  exact hz_nameM (hz_some_e h).2.symm (hz_name (hz_some_e h).1.symm (hz_iret hO dX10_ifValve_47))
def f_X10_set (a1 : Int32) (a2 : Int32) (M : hz_M) : hz_O :=
  hz_ct (f_X10_isSetting a1 a2 M) fun r1 M2 =>
  hz_ct (f_X10_need r1 M2) fun r4 M5 =>
  hz_ct (f_X2_record M5) fun r7 M8 =>
  hz_ct (f_X10_size a1 M8) fun r10 M11 =>
  if a1 = (6 : Int32) then
    hz_lm (hz_set M11 11 17 a2) fun M17 =>
    some (r10, M17)
  else
    if a1 = (7 : Int32) then
      hz_lm (hz_set M11 11 18 a2) fun M16 =>
      some (r10, M16)
    else
      hz_lm (hz_set M11 11 19 a2) fun M15 =>
      some (r10, M15)
set_option maxRecDepth 100000 in
set_option maxHeartbeats 4000000 in
theorem c_X10_set (l : Launch) (w : hz_C) {N : Nat} (hN : 178 ≤ N) (a1 : Int32) (a2 : Int32) {M : hz_M} {rE : Int32} {ME : hz_M} (h : f_X10_set a1 a2 M = some (rE, ME)) : hz_Ct l yX10_set cX10_set 4 (some .int) 5 w N [.ref (hz_ad w 0), .int a1, .int a2] M (hz_Qi w N rE ME) := by
  refine hz_ofW (by decide) rfl (Nat.le_of_ble_eq_true rfl) tw_6_99 ?_
  intro p e s m args below meth c hO
  show hz_G p l e 5 hz_z0 s m args below meth c w N 4 _ M 0 [(0, .ref (hz_ad w 0)), (1, .int a1), (2, .int a2)] []
  unfold f_X10_set at h
  refine hz_iload_n hO dX10_set_0 rfl 1 rfl ?_
  refine hz_iload_n hO dX10_set_1 rfl 2 rfl ?_
  obtain ⟨r1, M2, hq3, h⟩ := hz_ct_e h
  refine hz_callSi (as := [.int a1, .int a2]) (rest := []) hO (c_X10_isSetting l w hN a1 a2 hq3) hz_cal_X10_isSetting tw_6_100 (Nat.le_of_ble_eq_true rfl) rfl rfl (Nat.le_of_ble_eq_true rfl) dX10_set_2 ?_
  obtain ⟨r4, M5, hq6, h⟩ := hz_ct_e h
  refine hz_callSv (as := [.int r1]) (rest := []) hO (c_X10_need l w hN r1 hq6) hz_cal_X10_need tw_5_111 (Nat.le_of_ble_eq_true rfl) rfl rfl (Nat.le_of_ble_eq_true rfl) dX10_set_5 ?_
  refine hz_aload_n hO dX10_set_8 rfl 0 rfl ?_
  refine hz_getR (k := 7) hO 32 hz_K_8 hz_sh_0 (hz_lt_0 hN) rfl (Nat.le_of_ble_eq_true rfl) tw_3_50 rfl dX10_set_9 ?_
  refine hz_aload_n hO dX10_set_12 rfl 0 rfl ?_
  refine hz_getR (k := 3) hO 11 hz_K_8 hz_sh_0 (hz_lt_0 hN) rfl (Nat.le_of_ble_eq_true rfl) tw_3_46 rfl dX10_set_13 ?_
  obtain ⟨r7, M8, hq9, h⟩ := hz_ct_e h
  refine hz_callVv (as := [.ref (hz_ad w 11)]) (rest := []) hO (c_X2_record l w hN hq9) hz_cal_X2_record hz_K_1 hz_sh_32 (hz_lt_32 hN) tw_3_148 (Nat.le_of_ble_eq_true rfl) rfl rfl (Nat.le_of_ble_eq_true rfl) dX10_set_16 ?_
  refine hz_aload_n hO dX10_set_19 rfl 0 rfl ?_
  refine hz_iload_n hO dX10_set_20 rfl 1 rfl ?_
  obtain ⟨r10, M11, hq12, h⟩ := hz_ct_e h
  refine hz_callVi (as := [.int a1]) (rest := []) hO (c_X10_size l w hN a1 hq12) hz_cal_X10_size hz_K_8 hz_sh_0 (hz_lt_0 hN) tw_6_103 (Nat.le_of_ble_eq_true rfl) rfl rfl (Nat.le_of_ble_eq_true rfl) dX10_set_21 ?_
  refine hz_istore_n (ls1 := [(3, .int r10), (0, .ref (hz_ad w 0)), (1, .int a1), (2, .int a2)]) hO dX10_set_24 rfl (Nat.le_of_ble_eq_true rfl) rfl ?_
  refine hz_iload_n hO dX10_set_25 rfl 2 rfl ?_
  refine hz_bipush (v := (6 : Int32)) hO dX10_set_26 (by decide) ?_
  refine hz_icmp_ne (tgt := 42) hO dX10_set_28 (by decide) (fun hc13 => ?_) (fun hc13 => ?_)
  · rw [if_neg hc13] at h
    refine hz_iload_n hO dX10_set_42 rfl 2 rfl ?_
    refine hz_bipush (v := (7 : Int32)) hO dX10_set_43 (by decide) ?_
    refine hz_icmp_ne (tgt := 59) hO dX10_set_45 (by decide) (fun hc14 => ?_) (fun hc14 => ?_)
    · rw [if_neg hc14] at h
      refine hz_aload_n hO dX10_set_59 rfl 1 rfl ?_
      refine hz_getR (k := 3) hO 11 hz_K_8 hz_sh_0 (hz_lt_0 hN) rfl (Nat.le_of_ble_eq_true rfl) tw_3_46 rfl dX10_set_60 ?_
      refine hz_iload_n hO dX10_set_63 rfl 3 rfl ?_
      obtain ⟨M15, h_M15, h⟩ := hz_lm_e h
      refine hz_putI (k := 19) (ty := .int) hO hz_K_5 tyX7_ok nmX7 hz_sh_11 (hz_lt_11 hN) rfl (Nat.le_of_ble_eq_true rfl) tw_1_208 rfl rfl rfl rfl rfl dX10_set_64 ?_
      refine hz_nameM h_M15 ?_
      refine hz_iload_n hO dX10_set_67 rfl 0 rfl ?_
      exact hz_nameM (hz_some_e h).2.symm (hz_name (hz_some_e h).1.symm (hz_iret hO dX10_set_68))
    · rw [if_pos hc14] at h
      refine hz_aload_n hO dX10_set_48 rfl 1 rfl ?_
      refine hz_getR (k := 3) hO 11 hz_K_8 hz_sh_0 (hz_lt_0 hN) rfl (Nat.le_of_ble_eq_true rfl) tw_3_46 rfl dX10_set_49 ?_
      refine hz_iload_n hO dX10_set_52 rfl 3 rfl ?_
      obtain ⟨M16, h_M16, h⟩ := hz_lm_e h
      refine hz_putI (k := 18) (ty := .int) hO hz_K_5 tyX7_ok nmX7 hz_sh_11 (hz_lt_11 hN) rfl (Nat.le_of_ble_eq_true rfl) tw_1_206 rfl rfl rfl rfl rfl dX10_set_53 ?_
      refine hz_nameM h_M16 ?_
      refine hz_goto (tgt := 67) hO dX10_set_56 (by decide) ?_
      refine hz_iload_n hO dX10_set_67 rfl 0 rfl ?_
      exact hz_nameM (hz_some_e h).2.symm (hz_name (hz_some_e h).1.symm (hz_iret hO dX10_set_68))
  · rw [if_pos hc13] at h
    refine hz_aload_n hO dX10_set_31 rfl 1 rfl ?_
    refine hz_getR (k := 3) hO 11 hz_K_8 hz_sh_0 (hz_lt_0 hN) rfl (Nat.le_of_ble_eq_true rfl) tw_3_46 rfl dX10_set_32 ?_
    refine hz_iload_n hO dX10_set_35 rfl 3 rfl ?_
    obtain ⟨M17, h_M17, h⟩ := hz_lm_e h
    refine hz_putI (k := 17) (ty := .int) hO hz_K_5 tyX7_ok nmX7 hz_sh_11 (hz_lt_11 hN) rfl (Nat.le_of_ble_eq_true rfl) tw_1_204 rfl rfl rfl rfl rfl dX10_set_36 ?_
    refine hz_nameM h_M17 ?_
    refine hz_goto (tgt := 67) hO dX10_set_39 (by decide) ?_
    refine hz_iload_n hO dX10_set_67 rfl 0 rfl ?_
    exact hz_nameM (hz_some_e h).2.symm (hz_name (hz_some_e h).1.symm (hz_iret hO dX10_set_68))
def f_X10_undo (M : hz_M) : hz_O :=
  hz_ct (f_X2_stepBack M) fun r1 M2 =>
  some (r1, M2)
set_option maxRecDepth 100000 in
set_option maxHeartbeats 4000000 in
theorem c_X10_undo (l : Launch) (w : hz_C) {N : Nat} (hN : 178 ≤ N) {M : hz_M} {rE : Int32} {ME : hz_M} (h : f_X10_undo M = some (rE, ME)) : hz_Ct l yX10_undo cX10_undo 1 (some .int) 5 w N [.ref (hz_ad w 0)] M (hz_Qi w N rE ME) := by
  refine hz_ofW (by decide) rfl (Nat.le_of_ble_eq_true rfl) tw_5_23 ?_
  intro p e s m args below meth c hO
  show hz_G p l e 5 hz_z0 s m args below meth c w N 1 _ M 0 [(0, .ref (hz_ad w 0))] []
  unfold f_X10_undo at h
  refine hz_aload_n hO dX10_undo_0 rfl 0 rfl ?_
  refine hz_getR (k := 7) hO 32 hz_K_8 hz_sh_0 (hz_lt_0 hN) rfl (Nat.le_of_ble_eq_true rfl) tw_3_50 rfl dX10_undo_1 ?_
  refine hz_aload_n hO dX10_undo_4 rfl 0 rfl ?_
  refine hz_getR (k := 3) hO 11 hz_K_8 hz_sh_0 (hz_lt_0 hN) rfl (Nat.le_of_ble_eq_true rfl) tw_3_46 rfl dX10_undo_5 ?_
  obtain ⟨r1, M2, hq3, h⟩ := hz_ct_e h
  refine hz_callVi (as := [.ref (hz_ad w 11)]) (rest := []) hO (c_X2_stepBack l w hN hq3) hz_cal_X2_stepBack hz_K_1 hz_sh_32 (hz_lt_32 hN) tw_5_24 (Nat.le_of_ble_eq_true rfl) rfl rfl (Nat.le_of_ble_eq_true rfl) dX10_undo_8 ?_
  exact hz_nameM (hz_some_e h).2.symm (hz_name (hz_some_e h).1.symm (hz_iret hO dX10_undo_11))
def f_X10_save (a1 : Int32) (M : hz_M) : hz_O :=
  hz_ct (f_X2_isSlot a1 M) fun r1 M2 =>
  hz_ct (f_X10_need r1 M2) fun r4 M5 =>
  hz_ct (f_X2_keep a1 M5) fun r7 M8 =>
  some ((M8 11 14), M8)
set_option maxRecDepth 100000 in
set_option maxHeartbeats 4000000 in
theorem c_X10_save (l : Launch) (w : hz_C) {N : Nat} (hN : 178 ≤ N) (a1 : Int32) {M : hz_M} {rE : Int32} {ME : hz_M} (h : f_X10_save a1 M = some (rE, ME)) : hz_Ct l yX10_save cX10_save 2 (some .int) 5 w N [.ref (hz_ad w 0), .int a1] M (hz_Qi w N rE ME) := by
  refine hz_ofW (by decide) rfl (Nat.le_of_ble_eq_true rfl) tw_6_110 ?_
  intro p e s m args below meth c hO
  show hz_G p l e 5 hz_z0 s m args below meth c w N 2 _ M 0 [(0, .ref (hz_ad w 0)), (1, .int a1)] []
  unfold f_X10_save at h
  refine hz_iload_n hO dX10_save_0 rfl 1 rfl ?_
  obtain ⟨r1, M2, hq3, h⟩ := hz_ct_e h
  refine hz_callSi (as := [.int a1]) (rest := []) hO (c_X2_isSlot l w hN a1 hq3) hz_cal_X2_isSlot tw_6_111 (Nat.le_of_ble_eq_true rfl) rfl rfl (Nat.le_of_ble_eq_true rfl) dX10_save_1 ?_
  obtain ⟨r4, M5, hq6, h⟩ := hz_ct_e h
  refine hz_callSv (as := [.int r1]) (rest := []) hO (c_X10_need l w hN r1 hq6) hz_cal_X10_need tw_5_111 (Nat.le_of_ble_eq_true rfl) rfl rfl (Nat.le_of_ble_eq_true rfl) dX10_save_4 ?_
  refine hz_aload_n hO dX10_save_7 rfl 0 rfl ?_
  refine hz_getR (k := 7) hO 32 hz_K_8 hz_sh_0 (hz_lt_0 hN) rfl (Nat.le_of_ble_eq_true rfl) tw_3_50 rfl dX10_save_8 ?_
  refine hz_iload_n hO dX10_save_11 rfl 1 rfl ?_
  refine hz_aload_n hO dX10_save_12 rfl 0 rfl ?_
  refine hz_getR (k := 3) hO 11 hz_K_8 hz_sh_0 (hz_lt_0 hN) rfl (Nat.le_of_ble_eq_true rfl) tw_3_46 rfl dX10_save_13 ?_
  obtain ⟨r7, M8, hq9, h⟩ := hz_ct_e h
  refine hz_callVv (as := [.int a1, .ref (hz_ad w 11)]) (rest := []) hO (c_X2_keep l w hN a1 hq9) hz_cal_X2_keep hz_K_1 hz_sh_32 (hz_lt_32 hN) tw_6_114 (Nat.le_of_ble_eq_true rfl) rfl rfl (Nat.le_of_ble_eq_true rfl) dX10_save_16 ?_
  refine hz_aload_n hO dX10_save_19 rfl 0 rfl ?_
  refine hz_getR (k := 3) hO 11 hz_K_8 hz_sh_0 (hz_lt_0 hN) rfl (Nat.le_of_ble_eq_true rfl) tw_3_46 rfl dX10_save_20 ?_
  refine hz_getI (k := 14) hO hz_K_5 hz_sh_11 (hz_lt_11 hN) rfl (Nat.le_of_ble_eq_true rfl) tw_1_198 rfl dX10_save_23 ?_
  exact hz_nameM (hz_some_e h).2.symm (hz_name (hz_some_e h).1.symm (hz_iret hO dX10_save_26))
def f_X10_restore (a1 : Int32) (M : hz_M) : hz_O :=
  hz_ct (f_X2_isSlot a1 M) fun r1 M2 =>
  hz_ct (f_X10_need r1 M2) fun r4 M5 =>
  hz_ct (f_X2_bringBack a1 M5) fun r7 M8 =>
  if r7 = 0 then
    none
  else
    some ((M8 11 14), M8)
set_option maxRecDepth 100000 in
set_option maxHeartbeats 4000000 in
theorem c_X10_restore (l : Launch) (w : hz_C) {N : Nat} (hN : 178 ≤ N) (a1 : Int32) {M : hz_M} {rE : Int32} {ME : hz_M} (h : f_X10_restore a1 M = some (rE, ME)) : hz_Ct l yX10_restore cX10_restore 2 (some .int) 5 w N [.ref (hz_ad w 0), .int a1] M (hz_Qi w N rE ME) := by
  refine hz_ofW (by decide) rfl (Nat.le_of_ble_eq_true rfl) tw_6_125 ?_
  intro p e s m args below meth c hO
  show hz_G p l e 5 hz_z0 s m args below meth c w N 2 _ M 0 [(0, .ref (hz_ad w 0)), (1, .int a1)] []
  unfold f_X10_restore at h
  refine hz_iload_n hO dX10_restore_0 rfl 1 rfl ?_
  obtain ⟨r1, M2, hq3, h⟩ := hz_ct_e h
  refine hz_callSi (as := [.int a1]) (rest := []) hO (c_X2_isSlot l w hN a1 hq3) hz_cal_X2_isSlot tw_6_111 (Nat.le_of_ble_eq_true rfl) rfl rfl (Nat.le_of_ble_eq_true rfl) dX10_restore_1 ?_
  obtain ⟨r4, M5, hq6, h⟩ := hz_ct_e h
  refine hz_callSv (as := [.int r1]) (rest := []) hO (c_X10_need l w hN r1 hq6) hz_cal_X10_need tw_5_111 (Nat.le_of_ble_eq_true rfl) rfl rfl (Nat.le_of_ble_eq_true rfl) dX10_restore_4 ?_
  refine hz_aload_n hO dX10_restore_7 rfl 0 rfl ?_
  refine hz_getR (k := 7) hO 32 hz_K_8 hz_sh_0 (hz_lt_0 hN) rfl (Nat.le_of_ble_eq_true rfl) tw_3_50 rfl dX10_restore_8 ?_
  refine hz_iload_n hO dX10_restore_11 rfl 1 rfl ?_
  refine hz_aload_n hO dX10_restore_12 rfl 0 rfl ?_
  refine hz_getR (k := 3) hO 11 hz_K_8 hz_sh_0 (hz_lt_0 hN) rfl (Nat.le_of_ble_eq_true rfl) tw_3_46 rfl dX10_restore_13 ?_
  obtain ⟨r7, M8, hq9, h⟩ := hz_ct_e h
  refine hz_callVi (as := [.int a1, .ref (hz_ad w 11)]) (rest := []) hO (c_X2_bringBack l w hN a1 hq9) hz_cal_X2_bringBack hz_K_1 hz_sh_32 (hz_lt_32 hN) tw_6_126 (Nat.le_of_ble_eq_true rfl) rfl rfl (Nat.le_of_ble_eq_true rfl) dX10_restore_16 ?_
  refine hz_if_ne (tgt := 33) hO dX10_restore_19 (by decide) (fun hc10 => ?_) (fun hc10 => ?_)
  · rw [if_neg hc10] at h
    refine hz_aload_n hO dX10_restore_33 rfl 0 rfl ?_
    refine hz_getR (k := 3) hO 11 hz_K_8 hz_sh_0 (hz_lt_0 hN) rfl (Nat.le_of_ble_eq_true rfl) tw_3_46 rfl dX10_restore_34 ?_
    refine hz_getI (k := 14) hO hz_K_5 hz_sh_11 (hz_lt_11 hN) rfl (Nat.le_of_ble_eq_true rfl) tw_1_198 rfl dX10_restore_37 ?_
    exact hz_nameM (hz_some_e h).2.symm (hz_name (hz_some_e h).1.symm (hz_iret hO dX10_restore_40))
  · rw [if_pos hc10] at h
    cases h
def f_X10_change (a1 : Int32) (a2 : Int32) (a3 : Int32) (M : hz_M) : hz_O :=
  hz_ct (f_X1_refusal a1 a2 a3 M) fun r1 M2 =>
  if r1 = 0 then
    hz_ct (f_X2_record M2) fun r5 M6 =>
    hz_ct (f_X1_perform a1 a2 a3 M6) fun r8 M9 =>
    some (r8, M9)
  else
    hz_lm (hz_set M2 26 3 ((M2 26 3) + (1 : Int32))) fun M11 =>
    some (r1, M11)
set_option maxRecDepth 100000 in
set_option maxHeartbeats 4000000 in
theorem c_X10_change (l : Launch) (w : hz_C) {N : Nat} (hN : 178 ≤ N) (a1 : Int32) (a2 : Int32) (a3 : Int32) {M : hz_M} {rE : Int32} {ME : hz_M} (h : f_X10_change a1 a2 a3 M = some (rE, ME)) : hz_Ct l yX10_change cX10_change 5 (some .int) 5 w N [.ref (hz_ad w 0), hz_ev w a1, .int a2, .int a3] M (hz_Qi w N rE ME) := by
  refine hz_ofW (by decide) rfl (by simp [lg_sl, hz_ev_cat, hz_cr, hz_ci]) tw_4_216 ?_
  intro p e s m args below meth c hO
  rw [show lv_args 0 [.ref (hz_ad w 0), hz_ev w a1, .int a2, .int a3] = [(0, .ref (hz_ad w 0)), (1, hz_ev w a1), (2, .int a2), (3, .int a3)] from by simp [lv_args, hz_ev_cat, hz_cr, hz_ci]]
  show hz_G p l e 5 hz_z0 s m args below meth c w N 5 _ M 0 [(0, .ref (hz_ad w 0)), (1, hz_ev w a1), (2, .int a2), (3, .int a3)] []
  unfold f_X10_change at h
  refine hz_aload_n hO dX10_change_0 rfl 0 rfl ?_
  refine hz_getR (k := 5) hO 26 hz_K_8 hz_sh_0 (hz_lt_0 hN) rfl (Nat.le_of_ble_eq_true rfl) tw_3_48 rfl dX10_change_1 ?_
  refine hz_aload_nE hO dX10_change_4 rfl 1 rfl ?_
  refine hz_iload_n hO dX10_change_5 rfl 2 rfl ?_
  refine hz_iload_n hO dX10_change_6 rfl 3 rfl ?_
  obtain ⟨r1, M2, hq3, h⟩ := hz_ct_e h
  refine hz_callVi (as := [hz_ev w a1, .int a2, .int a3]) (rest := []) hO (c_X1_refusal l w hN a1 a2 a3 hq3) hz_cal_X1_refusal hz_K_0 hz_sh_26 (hz_lt_26 hN) tw_4_217 (Nat.le_of_ble_eq_true rfl) rfl rfl (Nat.le_of_ble_eq_true rfl) dX10_change_7 ?_
  refine hz_istore (ls1 := [(4, .int r1), (0, .ref (hz_ad w 0)), (1, hz_ev w a1), (2, .int a2), (3, .int a3)]) hO dX10_change_10 (Nat.le_of_ble_eq_true rfl) rfl ?_
  refine hz_iload hO dX10_change_12 0 rfl ?_
  refine hz_if_eq (tgt := 33) hO dX10_change_14 (by decide) (fun hc4 => ?_) (fun hc4 => ?_)
  · rw [if_pos hc4] at h
    refine hz_aload_n hO dX10_change_33 rfl 1 rfl ?_
    refine hz_getR (k := 7) hO 32 hz_K_8 hz_sh_0 (hz_lt_0 hN) rfl (Nat.le_of_ble_eq_true rfl) tw_3_50 rfl dX10_change_34 ?_
    refine hz_aload_n hO dX10_change_37 rfl 1 rfl ?_
    refine hz_getR (k := 3) hO 11 hz_K_8 hz_sh_0 (hz_lt_0 hN) rfl (Nat.le_of_ble_eq_true rfl) tw_3_46 rfl dX10_change_38 ?_
    obtain ⟨r5, M6, hq7, h⟩ := hz_ct_e h
    refine hz_callVv (as := [.ref (hz_ad w 11)]) (rest := []) hO (c_X2_record l w hN hq7) hz_cal_X2_record hz_K_1 hz_sh_32 (hz_lt_32 hN) tw_3_148 (Nat.le_of_ble_eq_true rfl) rfl rfl (Nat.le_of_ble_eq_true rfl) dX10_change_41 ?_
    refine hz_aload_n hO dX10_change_44 rfl 1 rfl ?_
    refine hz_getR (k := 5) hO 26 hz_K_8 hz_sh_0 (hz_lt_0 hN) rfl (Nat.le_of_ble_eq_true rfl) tw_3_48 rfl dX10_change_45 ?_
    refine hz_aload_nE hO dX10_change_48 rfl 2 rfl ?_
    refine hz_iload_n hO dX10_change_49 rfl 3 rfl ?_
    refine hz_iload_n hO dX10_change_50 rfl 4 rfl ?_
    obtain ⟨r8, M9, hq10, h⟩ := hz_ct_e h
    refine hz_callVi (as := [hz_ev w a1, .int a2, .int a3]) (rest := []) hO (c_X1_perform l w hN a1 a2 a3 hq10) hz_cal_X1_perform hz_K_0 hz_sh_26 (hz_lt_26 hN) tw_4_218 (Nat.le_of_ble_eq_true rfl) rfl rfl (Nat.le_of_ble_eq_true rfl) dX10_change_51 ?_
    exact hz_nameM (hz_some_e h).2.symm (hz_name (hz_some_e h).1.symm (hz_iret hO dX10_change_54))
  · rw [if_neg hc4] at h
    refine hz_aload_n hO dX10_change_17 rfl 1 rfl ?_
    refine hz_getR (k := 5) hO 26 hz_K_8 hz_sh_0 (hz_lt_0 hN) rfl (Nat.le_of_ble_eq_true rfl) tw_3_48 rfl dX10_change_18 ?_
    refine hz_dup hO dX10_change_21 rfl ?_
    refine hz_getI (k := 3) hO hz_K_0 hz_sh_26 (hz_lt_26 hN) rfl (Nat.le_of_ble_eq_true rfl) tw_2_32 rfl dX10_change_22 ?_
    refine hz_iconst (v := (1 : Int32)) hO dX10_change_25 (by decide) ?_
    refine hz_iadd hO dX10_change_26 ?_
    obtain ⟨M11, h_M11, h⟩ := hz_lm_e h
    refine hz_putI (k := 3) (ty := .int) hO hz_K_0 tyX1_ok nmX1 hz_sh_26 (hz_lt_26 hN) rfl (Nat.le_of_ble_eq_true rfl) tw_2_32 rfl rfl rfl rfl rfl dX10_change_27 ?_
    refine hz_nameM h_M11 ?_
    refine hz_iload hO dX10_change_30 0 rfl ?_
    exact hz_nameM (hz_some_e h).2.symm (hz_name (hz_some_e h).1.symm (hz_iret hO dX10_change_32))
def f_X10_enter (a1 : Int32) (M : hz_M) : hz_O :=
  hz_ct (f_X3_isGuest a1 M) fun r1 M2 =>
  hz_ct (f_X10_need r1 M2) fun r4 M5 =>
  hz_ct (f_X10_change (1 : Int32) a1 (0 : Int32) M5) fun r7 M8 =>
  some (r7, M8)
set_option maxRecDepth 100000 in
set_option maxHeartbeats 4000000 in
theorem c_X10_enter (l : Launch) (w : hz_C) {N : Nat} (hN : 178 ≤ N) (a1 : Int32) {M : hz_M} {rE : Int32} {ME : hz_M} (h : f_X10_enter a1 M = some (rE, ME)) : hz_Ct l yX10_enter cX10_enter 2 (some .int) 6 w N [.ref (hz_ad w 0), .int a1] M (hz_Qi w N rE ME) := by
  refine hz_ofW (by decide) rfl (Nat.le_of_ble_eq_true rfl) tw_6_22 ?_
  intro p e s m args below meth c hO
  show hz_G p l e 6 hz_z0 s m args below meth c w N 2 _ M 0 [(0, .ref (hz_ad w 0)), (1, .int a1)] []
  unfold f_X10_enter at h
  refine hz_aload_n hO dX10_enter_0 rfl 0 rfl ?_
  refine hz_getR (k := 0) hO 1 hz_K_8 hz_sh_0 (hz_lt_0 hN) rfl (Nat.le_of_ble_eq_true rfl) tw_3_43 rfl dX10_enter_1 ?_
  refine hz_iload_n hO dX10_enter_4 rfl 1 rfl ?_
  obtain ⟨r1, M2, hq3, h⟩ := hz_ct_e h
  refine hz_callVi (as := [.int a1]) (rest := []) hO (c_X3_isGuest l w hN a1 hq3) hz_cal_X3_isGuest hz_K_2 hz_sh_1 (hz_lt_1 hN) tw_5_110 (Nat.le_of_ble_eq_true rfl) rfl rfl (Nat.le_of_ble_eq_true rfl) dX10_enter_5 ?_
  obtain ⟨r4, M5, hq6, h⟩ := hz_ct_e h
  refine hz_callSv (as := [.int r1]) (rest := []) hO (c_X10_need l w hN r1 hq6) hz_cal_X10_need tw_5_111 (Nat.le_of_ble_eq_true rfl) rfl rfl (Nat.le_of_ble_eq_true rfl) dX10_enter_8 ?_
  refine hz_aload_n hO dX10_enter_11 rfl 0 rfl ?_
  refine hz_getsE (k := 0) (x := (1 : Int32)) hO (by decide) rfl (by decide) tw_6_23 rfl dX10_enter_12 ?_
  refine hz_iload_n hO dX10_enter_15 rfl 1 rfl ?_
  refine hz_iconst (v := (0 : Int32)) hO dX10_enter_16 (by decide) ?_
  obtain ⟨r7, M8, hq9, h⟩ := hz_ct_e h
  refine hz_callVi (as := [hz_ev w (1 : Int32), .int a1, .int (0 : Int32)]) (rest := []) hO (c_X10_change l w hN (1 : Int32) a1 (0 : Int32) hq9) hz_cal_X10_change hz_K_8 hz_sh_0 (hz_lt_0 hN) tw_4_213 (Nat.le_of_ble_eq_true rfl) rfl rfl (Nat.le_of_ble_eq_true rfl) dX10_enter_17 ?_
  exact hz_nameM (hz_some_e h).2.symm (hz_name (hz_some_e h).1.symm (hz_iret hO dX10_enter_20))
def f_X10_sit (a1 : Int32) (a2 : Int32) (M : hz_M) : hz_O :=
  hz_ct (f_X3_isGuest a1 M) fun r1 M2 =>
  hz_ct (f_X10_need r1 M2) fun r4 M5 =>
  hz_ct (f_X3_isStep a2 M5) fun r7 M8 =>
  hz_ct (f_X10_need r7 M8) fun r10 M11 =>
  hz_ct (f_X10_change (2 : Int32) a1 a2 M11) fun r13 M14 =>
  some (r13, M14)
set_option maxRecDepth 100000 in
set_option maxHeartbeats 4000000 in
theorem c_X10_sit (l : Launch) (w : hz_C) {N : Nat} (hN : 178 ≤ N) (a1 : Int32) (a2 : Int32) {M : hz_M} {rE : Int32} {ME : hz_M} (h : f_X10_sit a1 a2 M = some (rE, ME)) : hz_Ct l yX10_sit cX10_sit 3 (some .int) 6 w N [.ref (hz_ad w 0), .int a1, .int a2] M (hz_Qi w N rE ME) := by
  refine hz_ofW (by decide) rfl (Nat.le_of_ble_eq_true rfl) tw_6_31 ?_
  intro p e s m args below meth c hO
  show hz_G p l e 6 hz_z0 s m args below meth c w N 3 _ M 0 [(0, .ref (hz_ad w 0)), (1, .int a1), (2, .int a2)] []
  unfold f_X10_sit at h
  refine hz_aload_n hO dX10_sit_0 rfl 0 rfl ?_
  refine hz_getR (k := 0) hO 1 hz_K_8 hz_sh_0 (hz_lt_0 hN) rfl (Nat.le_of_ble_eq_true rfl) tw_3_43 rfl dX10_sit_1 ?_
  refine hz_iload_n hO dX10_sit_4 rfl 1 rfl ?_
  obtain ⟨r1, M2, hq3, h⟩ := hz_ct_e h
  refine hz_callVi (as := [.int a1]) (rest := []) hO (c_X3_isGuest l w hN a1 hq3) hz_cal_X3_isGuest hz_K_2 hz_sh_1 (hz_lt_1 hN) tw_5_110 (Nat.le_of_ble_eq_true rfl) rfl rfl (Nat.le_of_ble_eq_true rfl) dX10_sit_5 ?_
  obtain ⟨r4, M5, hq6, h⟩ := hz_ct_e h
  refine hz_callSv (as := [.int r1]) (rest := []) hO (c_X10_need l w hN r1 hq6) hz_cal_X10_need tw_5_111 (Nat.le_of_ble_eq_true rfl) rfl rfl (Nat.le_of_ble_eq_true rfl) dX10_sit_8 ?_
  refine hz_aload_n hO dX10_sit_11 rfl 0 rfl ?_
  refine hz_getR (k := 0) hO 1 hz_K_8 hz_sh_0 (hz_lt_0 hN) rfl (Nat.le_of_ble_eq_true rfl) tw_3_43 rfl dX10_sit_12 ?_
  refine hz_iload_n hO dX10_sit_15 rfl 2 rfl ?_
  obtain ⟨r7, M8, hq9, h⟩ := hz_ct_e h
  refine hz_callVi (as := [.int a2]) (rest := []) hO (c_X3_isStep l w hN a2 hq9) hz_cal_X3_isStep hz_K_2 hz_sh_1 (hz_lt_1 hN) tw_5_162 (Nat.le_of_ble_eq_true rfl) rfl rfl (Nat.le_of_ble_eq_true rfl) dX10_sit_16 ?_
  obtain ⟨r10, M11, hq12, h⟩ := hz_ct_e h
  refine hz_callSv (as := [.int r7]) (rest := []) hO (c_X10_need l w hN r7 hq12) hz_cal_X10_need tw_5_111 (Nat.le_of_ble_eq_true rfl) rfl rfl (Nat.le_of_ble_eq_true rfl) dX10_sit_19 ?_
  refine hz_aload_n hO dX10_sit_22 rfl 0 rfl ?_
  refine hz_getsE (k := 1) (x := (2 : Int32)) hO (by decide) rfl (by decide) tw_6_32 rfl dX10_sit_23 ?_
  refine hz_iload_n hO dX10_sit_26 rfl 1 rfl ?_
  refine hz_iload_n hO dX10_sit_27 rfl 2 rfl ?_
  obtain ⟨r13, M14, hq15, h⟩ := hz_ct_e h
  refine hz_callVi (as := [hz_ev w (2 : Int32), .int a1, .int a2]) (rest := []) hO (c_X10_change l w hN (2 : Int32) a1 a2 hq15) hz_cal_X10_change hz_K_8 hz_sh_0 (hz_lt_0 hN) tw_4_213 (Nat.le_of_ble_eq_true rfl) rfl rfl (Nat.le_of_ble_eq_true rfl) dX10_sit_28 ?_
  exact hz_nameM (hz_some_e h).2.symm (hz_name (hz_some_e h).1.symm (hz_iret hO dX10_sit_31))
def f_X10_hall (a1 : Int32) (M : hz_M) : hz_O :=
  hz_ct (f_X3_isGuest a1 M) fun r1 M2 =>
  hz_ct (f_X10_need r1 M2) fun r4 M5 =>
  hz_ct (f_X10_change (3 : Int32) a1 (0 : Int32) M5) fun r7 M8 =>
  some (r7, M8)
set_option maxRecDepth 100000 in
set_option maxHeartbeats 4000000 in
theorem c_X10_hall (l : Launch) (w : hz_C) {N : Nat} (hN : 178 ≤ N) (a1 : Int32) {M : hz_M} {rE : Int32} {ME : hz_M} (h : f_X10_hall a1 M = some (rE, ME)) : hz_Ct l yX10_hall cX10_hall 2 (some .int) 6 w N [.ref (hz_ad w 0), .int a1] M (hz_Qi w N rE ME) := by
  refine hz_ofW (by decide) rfl (Nat.le_of_ble_eq_true rfl) tw_6_39 ?_
  intro p e s m args below meth c hO
  show hz_G p l e 6 hz_z0 s m args below meth c w N 2 _ M 0 [(0, .ref (hz_ad w 0)), (1, .int a1)] []
  unfold f_X10_hall at h
  refine hz_aload_n hO dX10_hall_0 rfl 0 rfl ?_
  refine hz_getR (k := 0) hO 1 hz_K_8 hz_sh_0 (hz_lt_0 hN) rfl (Nat.le_of_ble_eq_true rfl) tw_3_43 rfl dX10_hall_1 ?_
  refine hz_iload_n hO dX10_hall_4 rfl 1 rfl ?_
  obtain ⟨r1, M2, hq3, h⟩ := hz_ct_e h
  refine hz_callVi (as := [.int a1]) (rest := []) hO (c_X3_isGuest l w hN a1 hq3) hz_cal_X3_isGuest hz_K_2 hz_sh_1 (hz_lt_1 hN) tw_5_110 (Nat.le_of_ble_eq_true rfl) rfl rfl (Nat.le_of_ble_eq_true rfl) dX10_hall_5 ?_
  obtain ⟨r4, M5, hq6, h⟩ := hz_ct_e h
  refine hz_callSv (as := [.int r1]) (rest := []) hO (c_X10_need l w hN r1 hq6) hz_cal_X10_need tw_5_111 (Nat.le_of_ble_eq_true rfl) rfl rfl (Nat.le_of_ble_eq_true rfl) dX10_hall_8 ?_
  refine hz_aload_n hO dX10_hall_11 rfl 0 rfl ?_
  refine hz_getsE (k := 2) (x := (3 : Int32)) hO (by decide) rfl (by decide) tw_6_40 rfl dX10_hall_12 ?_
  refine hz_iload_n hO dX10_hall_15 rfl 1 rfl ?_
  refine hz_iconst (v := (0 : Int32)) hO dX10_hall_16 (by decide) ?_
  obtain ⟨r7, M8, hq9, h⟩ := hz_ct_e h
  refine hz_callVi (as := [hz_ev w (3 : Int32), .int a1, .int (0 : Int32)]) (rest := []) hO (c_X10_change l w hN (3 : Int32) a1 (0 : Int32) hq9) hz_cal_X10_change hz_K_8 hz_sh_0 (hz_lt_0 hN) tw_4_213 (Nat.le_of_ble_eq_true rfl) rfl rfl (Nat.le_of_ble_eq_true rfl) dX10_hall_17 ?_
  exact hz_nameM (hz_some_e h).2.symm (hz_name (hz_some_e h).1.symm (hz_iret hO dX10_hall_20))
def f_X10_hang (a1 : Int32) (a2 : Int32) (M : hz_M) : hz_O :=
  hz_ct (f_X3_isGuest a1 M) fun r1 M2 =>
  hz_ct (f_X10_need r1 M2) fun r4 M5 =>
  hz_ct (f_X3_isPeg a2 M5) fun r7 M8 =>
  hz_ct (f_X10_need r7 M8) fun r10 M11 =>
  hz_ct (f_X10_change (4 : Int32) a1 a2 M11) fun r13 M14 =>
  some (r13, M14)
set_option maxRecDepth 100000 in
set_option maxHeartbeats 4000000 in
theorem c_X10_hang (l : Launch) (w : hz_C) {N : Nat} (hN : 178 ≤ N) (a1 : Int32) (a2 : Int32) {M : hz_M} {rE : Int32} {ME : hz_M} (h : f_X10_hang a1 a2 M = some (rE, ME)) : hz_Ct l yX10_hang cX10_hang 3 (some .int) 6 w N [.ref (hz_ad w 0), .int a1, .int a2] M (hz_Qi w N rE ME) := by
  refine hz_ofW (by decide) rfl (Nat.le_of_ble_eq_true rfl) tw_6_48 ?_
  intro p e s m args below meth c hO
  show hz_G p l e 6 hz_z0 s m args below meth c w N 3 _ M 0 [(0, .ref (hz_ad w 0)), (1, .int a1), (2, .int a2)] []
  unfold f_X10_hang at h
  refine hz_aload_n hO dX10_hang_0 rfl 0 rfl ?_
  refine hz_getR (k := 0) hO 1 hz_K_8 hz_sh_0 (hz_lt_0 hN) rfl (Nat.le_of_ble_eq_true rfl) tw_3_43 rfl dX10_hang_1 ?_
  refine hz_iload_n hO dX10_hang_4 rfl 1 rfl ?_
  obtain ⟨r1, M2, hq3, h⟩ := hz_ct_e h
  refine hz_callVi (as := [.int a1]) (rest := []) hO (c_X3_isGuest l w hN a1 hq3) hz_cal_X3_isGuest hz_K_2 hz_sh_1 (hz_lt_1 hN) tw_5_110 (Nat.le_of_ble_eq_true rfl) rfl rfl (Nat.le_of_ble_eq_true rfl) dX10_hang_5 ?_
  obtain ⟨r4, M5, hq6, h⟩ := hz_ct_e h
  refine hz_callSv (as := [.int r1]) (rest := []) hO (c_X10_need l w hN r1 hq6) hz_cal_X10_need tw_5_111 (Nat.le_of_ble_eq_true rfl) rfl rfl (Nat.le_of_ble_eq_true rfl) dX10_hang_8 ?_
  refine hz_aload_n hO dX10_hang_11 rfl 0 rfl ?_
  refine hz_getR (k := 0) hO 1 hz_K_8 hz_sh_0 (hz_lt_0 hN) rfl (Nat.le_of_ble_eq_true rfl) tw_3_43 rfl dX10_hang_12 ?_
  refine hz_iload_n hO dX10_hang_15 rfl 2 rfl ?_
  obtain ⟨r7, M8, hq9, h⟩ := hz_ct_e h
  refine hz_callVi (as := [.int a2]) (rest := []) hO (c_X3_isPeg l w hN a2 hq9) hz_cal_X3_isPeg hz_K_2 hz_sh_1 (hz_lt_1 hN) tw_5_138 (Nat.le_of_ble_eq_true rfl) rfl rfl (Nat.le_of_ble_eq_true rfl) dX10_hang_16 ?_
  obtain ⟨r10, M11, hq12, h⟩ := hz_ct_e h
  refine hz_callSv (as := [.int r7]) (rest := []) hO (c_X10_need l w hN r7 hq12) hz_cal_X10_need tw_5_111 (Nat.le_of_ble_eq_true rfl) rfl rfl (Nat.le_of_ble_eq_true rfl) dX10_hang_19 ?_
  refine hz_aload_n hO dX10_hang_22 rfl 0 rfl ?_
  refine hz_getsE (k := 3) (x := (4 : Int32)) hO (by decide) rfl (by decide) tw_6_49 rfl dX10_hang_23 ?_
  refine hz_iload_n hO dX10_hang_26 rfl 1 rfl ?_
  refine hz_iload_n hO dX10_hang_27 rfl 2 rfl ?_
  obtain ⟨r13, M14, hq15, h⟩ := hz_ct_e h
  refine hz_callVi (as := [hz_ev w (4 : Int32), .int a1, .int a2]) (rest := []) hO (c_X10_change l w hN (4 : Int32) a1 a2 hq15) hz_cal_X10_change hz_K_8 hz_sh_0 (hz_lt_0 hN) tw_4_213 (Nat.le_of_ble_eq_true rfl) rfl rfl (Nat.le_of_ble_eq_true rfl) dX10_hang_28 ?_
  exact hz_nameM (hz_some_e h).2.symm (hz_name (hz_some_e h).1.symm (hz_iret hO dX10_hang_31))
def f_X10_take (a1 : Int32) (a2 : Int32) (M : hz_M) : hz_O :=
  hz_ct (f_X3_isGuest a1 M) fun r1 M2 =>
  hz_ct (f_X10_need r1 M2) fun r4 M5 =>
  hz_ct (f_X3_isPeg a2 M5) fun r7 M8 =>
  hz_ct (f_X10_need r7 M8) fun r10 M11 =>
  hz_ct (f_X10_change (5 : Int32) a1 a2 M11) fun r13 M14 =>
  some (r13, M14)
set_option maxRecDepth 100000 in
set_option maxHeartbeats 4000000 in
theorem c_X10_take (l : Launch) (w : hz_C) {N : Nat} (hN : 178 ≤ N) (a1 : Int32) (a2 : Int32) {M : hz_M} {rE : Int32} {ME : hz_M} (h : f_X10_take a1 a2 M = some (rE, ME)) : hz_Ct l yX10_take cX10_take 3 (some .int) 6 w N [.ref (hz_ad w 0), .int a1, .int a2] M (hz_Qi w N rE ME) := by
  refine hz_ofW (by decide) rfl (Nat.le_of_ble_eq_true rfl) tw_6_56 ?_
  intro p e s m args below meth c hO
  show hz_G p l e 6 hz_z0 s m args below meth c w N 3 _ M 0 [(0, .ref (hz_ad w 0)), (1, .int a1), (2, .int a2)] []
  unfold f_X10_take at h
  refine hz_aload_n hO dX10_take_0 rfl 0 rfl ?_
  refine hz_getR (k := 0) hO 1 hz_K_8 hz_sh_0 (hz_lt_0 hN) rfl (Nat.le_of_ble_eq_true rfl) tw_3_43 rfl dX10_take_1 ?_
  refine hz_iload_n hO dX10_take_4 rfl 1 rfl ?_
  obtain ⟨r1, M2, hq3, h⟩ := hz_ct_e h
  refine hz_callVi (as := [.int a1]) (rest := []) hO (c_X3_isGuest l w hN a1 hq3) hz_cal_X3_isGuest hz_K_2 hz_sh_1 (hz_lt_1 hN) tw_5_110 (Nat.le_of_ble_eq_true rfl) rfl rfl (Nat.le_of_ble_eq_true rfl) dX10_take_5 ?_
  obtain ⟨r4, M5, hq6, h⟩ := hz_ct_e h
  refine hz_callSv (as := [.int r1]) (rest := []) hO (c_X10_need l w hN r1 hq6) hz_cal_X10_need tw_5_111 (Nat.le_of_ble_eq_true rfl) rfl rfl (Nat.le_of_ble_eq_true rfl) dX10_take_8 ?_
  refine hz_aload_n hO dX10_take_11 rfl 0 rfl ?_
  refine hz_getR (k := 0) hO 1 hz_K_8 hz_sh_0 (hz_lt_0 hN) rfl (Nat.le_of_ble_eq_true rfl) tw_3_43 rfl dX10_take_12 ?_
  refine hz_iload_n hO dX10_take_15 rfl 2 rfl ?_
  obtain ⟨r7, M8, hq9, h⟩ := hz_ct_e h
  refine hz_callVi (as := [.int a2]) (rest := []) hO (c_X3_isPeg l w hN a2 hq9) hz_cal_X3_isPeg hz_K_2 hz_sh_1 (hz_lt_1 hN) tw_5_138 (Nat.le_of_ble_eq_true rfl) rfl rfl (Nat.le_of_ble_eq_true rfl) dX10_take_16 ?_
  obtain ⟨r10, M11, hq12, h⟩ := hz_ct_e h
  refine hz_callSv (as := [.int r7]) (rest := []) hO (c_X10_need l w hN r7 hq12) hz_cal_X10_need tw_5_111 (Nat.le_of_ble_eq_true rfl) rfl rfl (Nat.le_of_ble_eq_true rfl) dX10_take_19 ?_
  refine hz_aload_n hO dX10_take_22 rfl 0 rfl ?_
  refine hz_getsE (k := 4) (x := (5 : Int32)) hO (by decide) rfl (by decide) tw_6_57 rfl dX10_take_23 ?_
  refine hz_iload_n hO dX10_take_26 rfl 1 rfl ?_
  refine hz_iload_n hO dX10_take_27 rfl 2 rfl ?_
  obtain ⟨r13, M14, hq15, h⟩ := hz_ct_e h
  refine hz_callVi (as := [hz_ev w (5 : Int32), .int a1, .int a2]) (rest := []) hO (c_X10_change l w hN (5 : Int32) a1 a2 hq15) hz_cal_X10_change hz_K_8 hz_sh_0 (hz_lt_0 hN) tw_4_213 (Nat.le_of_ble_eq_true rfl) rfl rfl (Nat.le_of_ble_eq_true rfl) dX10_take_28 ?_
  exact hz_nameM (hz_some_e h).2.symm (hz_name (hz_some_e h).1.symm (hz_iret hO dX10_take_31))
def f_X10_leave (a1 : Int32) (M : hz_M) : hz_O :=
  hz_ct (f_X3_isGuest a1 M) fun r1 M2 =>
  hz_ct (f_X10_need r1 M2) fun r4 M5 =>
  hz_ct (f_X10_change (6 : Int32) a1 (0 : Int32) M5) fun r7 M8 =>
  some (r7, M8)
set_option maxRecDepth 100000 in
set_option maxHeartbeats 4000000 in
theorem c_X10_leave (l : Launch) (w : hz_C) {N : Nat} (hN : 178 ≤ N) (a1 : Int32) {M : hz_M} {rE : Int32} {ME : hz_M} (h : f_X10_leave a1 M = some (rE, ME)) : hz_Ct l yX10_leave cX10_leave 2 (some .int) 6 w N [.ref (hz_ad w 0), .int a1] M (hz_Qi w N rE ME) := by
  refine hz_ofW (by decide) rfl (Nat.le_of_ble_eq_true rfl) tw_6_64 ?_
  intro p e s m args below meth c hO
  show hz_G p l e 6 hz_z0 s m args below meth c w N 2 _ M 0 [(0, .ref (hz_ad w 0)), (1, .int a1)] []
  unfold f_X10_leave at h
  refine hz_aload_n hO dX10_leave_0 rfl 0 rfl ?_
  refine hz_getR (k := 0) hO 1 hz_K_8 hz_sh_0 (hz_lt_0 hN) rfl (Nat.le_of_ble_eq_true rfl) tw_3_43 rfl dX10_leave_1 ?_
  refine hz_iload_n hO dX10_leave_4 rfl 1 rfl ?_
  obtain ⟨r1, M2, hq3, h⟩ := hz_ct_e h
  refine hz_callVi (as := [.int a1]) (rest := []) hO (c_X3_isGuest l w hN a1 hq3) hz_cal_X3_isGuest hz_K_2 hz_sh_1 (hz_lt_1 hN) tw_5_110 (Nat.le_of_ble_eq_true rfl) rfl rfl (Nat.le_of_ble_eq_true rfl) dX10_leave_5 ?_
  obtain ⟨r4, M5, hq6, h⟩ := hz_ct_e h
  refine hz_callSv (as := [.int r1]) (rest := []) hO (c_X10_need l w hN r1 hq6) hz_cal_X10_need tw_5_111 (Nat.le_of_ble_eq_true rfl) rfl rfl (Nat.le_of_ble_eq_true rfl) dX10_leave_8 ?_
  refine hz_aload_n hO dX10_leave_11 rfl 0 rfl ?_
  refine hz_getsE (k := 5) (x := (6 : Int32)) hO (by decide) rfl (by decide) tw_6_65 rfl dX10_leave_12 ?_
  refine hz_iload_n hO dX10_leave_15 rfl 1 rfl ?_
  refine hz_iconst (v := (0 : Int32)) hO dX10_leave_16 (by decide) ?_
  obtain ⟨r7, M8, hq9, h⟩ := hz_ct_e h
  refine hz_callVi (as := [hz_ev w (6 : Int32), .int a1, .int (0 : Int32)]) (rest := []) hO (c_X10_change l w hN (6 : Int32) a1 (0 : Int32) hq9) hz_cal_X10_change hz_K_8 hz_sh_0 (hz_lt_0 hN) tw_4_213 (Nat.le_of_ble_eq_true rfl) rfl rfl (Nat.le_of_ble_eq_true rfl) dX10_leave_17 ?_
  exact hz_nameM (hz_some_e h).2.symm (hz_name (hz_some_e h).1.symm (hz_iret hO dX10_leave_20))
def f_X10_speak (a1 : Int32) (M : hz_M) : hz_O :=
  hz_ct (f_X3_isGuest a1 M) fun r1 M2 =>
  hz_ct (f_X10_need r1 M2) fun r4 M5 =>
  hz_ct (f_X10_change (7 : Int32) a1 (0 : Int32) M5) fun r7 M8 =>
  some (r7, M8)
set_option maxRecDepth 100000 in
set_option maxHeartbeats 4000000 in
theorem c_X10_speak (l : Launch) (w : hz_C) {N : Nat} (hN : 178 ≤ N) (a1 : Int32) {M : hz_M} {rE : Int32} {ME : hz_M} (h : f_X10_speak a1 M = some (rE, ME)) : hz_Ct l yX10_speak cX10_speak 2 (some .int) 6 w N [.ref (hz_ad w 0), .int a1] M (hz_Qi w N rE ME) := by
  refine hz_ofW (by decide) rfl (Nat.le_of_ble_eq_true rfl) tw_6_73 ?_
  intro p e s m args below meth c hO
  show hz_G p l e 6 hz_z0 s m args below meth c w N 2 _ M 0 [(0, .ref (hz_ad w 0)), (1, .int a1)] []
  unfold f_X10_speak at h
  refine hz_aload_n hO dX10_speak_0 rfl 0 rfl ?_
  refine hz_getR (k := 0) hO 1 hz_K_8 hz_sh_0 (hz_lt_0 hN) rfl (Nat.le_of_ble_eq_true rfl) tw_3_43 rfl dX10_speak_1 ?_
  refine hz_iload_n hO dX10_speak_4 rfl 1 rfl ?_
  obtain ⟨r1, M2, hq3, h⟩ := hz_ct_e h
  refine hz_callVi (as := [.int a1]) (rest := []) hO (c_X3_isGuest l w hN a1 hq3) hz_cal_X3_isGuest hz_K_2 hz_sh_1 (hz_lt_1 hN) tw_5_110 (Nat.le_of_ble_eq_true rfl) rfl rfl (Nat.le_of_ble_eq_true rfl) dX10_speak_5 ?_
  obtain ⟨r4, M5, hq6, h⟩ := hz_ct_e h
  refine hz_callSv (as := [.int r1]) (rest := []) hO (c_X10_need l w hN r1 hq6) hz_cal_X10_need tw_5_111 (Nat.le_of_ble_eq_true rfl) rfl rfl (Nat.le_of_ble_eq_true rfl) dX10_speak_8 ?_
  refine hz_aload_n hO dX10_speak_11 rfl 0 rfl ?_
  refine hz_getsE (k := 6) (x := (7 : Int32)) hO (by decide) rfl (by decide) tw_6_74 rfl dX10_speak_12 ?_
  refine hz_iload_n hO dX10_speak_15 rfl 1 rfl ?_
  refine hz_iconst (v := (0 : Int32)) hO dX10_speak_16 (by decide) ?_
  obtain ⟨r7, M8, hq9, h⟩ := hz_ct_e h
  refine hz_callVi (as := [hz_ev w (7 : Int32), .int a1, .int (0 : Int32)]) (rest := []) hO (c_X10_change l w hN (7 : Int32) a1 (0 : Int32) hq9) hz_cal_X10_change hz_K_8 hz_sh_0 (hz_lt_0 hN) tw_4_213 (Nat.le_of_ble_eq_true rfl) rfl rfl (Nat.le_of_ble_eq_true rfl) dX10_speak_17 ?_
  exact hz_nameM (hz_some_e h).2.symm (hz_name (hz_some_e h).1.symm (hz_iret hO dX10_speak_20))
def f_X10_wash (M : hz_M) : hz_O :=
  hz_ct (f_X10_change (8 : Int32) (0 : Int32) (0 : Int32) M) fun r1 M2 =>
  some (r1, M2)
set_option maxRecDepth 100000 in
set_option maxHeartbeats 4000000 in
theorem c_X10_wash (l : Launch) (w : hz_C) {N : Nat} (hN : 178 ≤ N) {M : hz_M} {rE : Int32} {ME : hz_M} (h : f_X10_wash M = some (rE, ME)) : hz_Ct l yX10_wash cX10_wash 1 (some .int) 6 w N [.ref (hz_ad w 0)] M (hz_Qi w N rE ME) := by
  refine hz_ofW (by decide) rfl (Nat.le_of_ble_eq_true rfl) tw_4_210 ?_
  intro p e s m args below meth c hO
  show hz_G p l e 6 hz_z0 s m args below meth c w N 1 _ M 0 [(0, .ref (hz_ad w 0))] []
  unfold f_X10_wash at h
  refine hz_aload_n hO dX10_wash_0 rfl 0 rfl ?_
  refine hz_getsE (k := 7) (x := (8 : Int32)) hO (by decide) rfl (by decide) tw_4_211 rfl dX10_wash_1 ?_
  refine hz_iconst (v := (0 : Int32)) hO dX10_wash_4 (by decide) ?_
  refine hz_iconst (v := (0 : Int32)) hO dX10_wash_5 (by decide) ?_
  obtain ⟨r1, M2, hq3, h⟩ := hz_ct_e h
  refine hz_callVi (as := [hz_ev w (8 : Int32), .int (0 : Int32), .int (0 : Int32)]) (rest := []) hO (c_X10_change l w hN (8 : Int32) (0 : Int32) (0 : Int32) hq3) hz_cal_X10_change hz_K_8 hz_sh_0 (hz_lt_0 hN) tw_4_213 (Nat.le_of_ble_eq_true rfl) rfl rfl (Nat.le_of_ble_eq_true rfl) dX10_wash_6 ?_
  exact hz_nameM (hz_some_e h).2.symm (hz_name (hz_some_e h).1.symm (hz_iret hO dX10_wash_9))
def f_X10_valve (a1 : Int32) (a2 : Int32) (M : hz_M) : hz_O :=
  hz_ct (f_X3_isValve a1 M) fun r1 M2 =>
  hz_ct (f_X10_need r1 M2) fun r4 M5 =>
  hz_ct (f_X10_isOpening a2 M5) fun r7 M8 =>
  hz_ct (f_X10_need r7 M8) fun r10 M11 =>
  hz_ct (f_X10_change (9 : Int32) a1 a2 M11) fun r13 M14 =>
  some (r13, M14)
set_option maxRecDepth 100000 in
set_option maxHeartbeats 4000000 in
theorem c_X10_valve (l : Launch) (w : hz_C) {N : Nat} (hN : 178 ≤ N) (a1 : Int32) (a2 : Int32) {M : hz_M} {rE : Int32} {ME : hz_M} (h : f_X10_valve a1 a2 M = some (rE, ME)) : hz_Ct l yX10_valve cX10_valve 3 (some .int) 6 w N [.ref (hz_ad w 0), .int a1, .int a2] M (hz_Qi w N rE ME) := by
  refine hz_ofW (by decide) rfl (Nat.le_of_ble_eq_true rfl) tw_6_82 ?_
  intro p e s m args below meth c hO
  show hz_G p l e 6 hz_z0 s m args below meth c w N 3 _ M 0 [(0, .ref (hz_ad w 0)), (1, .int a1), (2, .int a2)] []
  unfold f_X10_valve at h
  refine hz_aload_n hO dX10_valve_0 rfl 0 rfl ?_
  refine hz_getR (k := 0) hO 1 hz_K_8 hz_sh_0 (hz_lt_0 hN) rfl (Nat.le_of_ble_eq_true rfl) tw_3_43 rfl dX10_valve_1 ?_
  refine hz_iload_n hO dX10_valve_4 rfl 1 rfl ?_
  obtain ⟨r1, M2, hq3, h⟩ := hz_ct_e h
  refine hz_callVi (as := [.int a1]) (rest := []) hO (c_X3_isValve l w hN a1 hq3) hz_cal_X3_isValve hz_K_2 hz_sh_1 (hz_lt_1 hN) tw_5_154 (Nat.le_of_ble_eq_true rfl) rfl rfl (Nat.le_of_ble_eq_true rfl) dX10_valve_5 ?_
  obtain ⟨r4, M5, hq6, h⟩ := hz_ct_e h
  refine hz_callSv (as := [.int r1]) (rest := []) hO (c_X10_need l w hN r1 hq6) hz_cal_X10_need tw_5_111 (Nat.le_of_ble_eq_true rfl) rfl rfl (Nat.le_of_ble_eq_true rfl) dX10_valve_8 ?_
  refine hz_iload_n hO dX10_valve_11 rfl 2 rfl ?_
  obtain ⟨r7, M8, hq9, h⟩ := hz_ct_e h
  refine hz_callSi (as := [.int a2]) (rest := []) hO (c_X10_isOpening l w hN a2 hq9) hz_cal_X10_isOpening tw_6_13 (Nat.le_of_ble_eq_true rfl) rfl rfl (Nat.le_of_ble_eq_true rfl) dX10_valve_12 ?_
  obtain ⟨r10, M11, hq12, h⟩ := hz_ct_e h
  refine hz_callSv (as := [.int r7]) (rest := []) hO (c_X10_need l w hN r7 hq12) hz_cal_X10_need tw_5_111 (Nat.le_of_ble_eq_true rfl) rfl rfl (Nat.le_of_ble_eq_true rfl) dX10_valve_15 ?_
  refine hz_aload_n hO dX10_valve_18 rfl 0 rfl ?_
  refine hz_getsE (k := 8) (x := (9 : Int32)) hO (by decide) rfl (by decide) tw_6_83 rfl dX10_valve_19 ?_
  refine hz_iload_n hO dX10_valve_22 rfl 1 rfl ?_
  refine hz_iload_n hO dX10_valve_23 rfl 2 rfl ?_
  obtain ⟨r13, M14, hq15, h⟩ := hz_ct_e h
  refine hz_callVi (as := [hz_ev w (9 : Int32), .int a1, .int a2]) (rest := []) hO (c_X10_change l w hN (9 : Int32) a1 a2 hq15) hz_cal_X10_change hz_K_8 hz_sh_0 (hz_lt_0 hN) tw_4_213 (Nat.le_of_ble_eq_true rfl) rfl rfl (Nat.le_of_ble_eq_true rfl) dX10_valve_24 ?_
  exact hz_nameM (hz_some_e h).2.symm (hz_name (hz_some_e h).1.symm (hz_iret hO dX10_valve_27))
def f_X10_waits (a1 : Int32) (M : hz_M) : hz_O :=
  hz_jn (fun (v1_1 : Int32) (q2 : Int32) (M3 : hz_M) =>
    hz_ct (f_X10_need q2 M3) fun r4 M5 =>
    hz_ct (f_X10_change (10 : Int32) (0 : Int32) v1_1 M5) fun r7 M8 =>
    some (r7, M8)
    ) fun k10 =>
  hz_jn (fun (v1_11 : Int32) (M12 : hz_M) =>
    k10 v1_11 (0 : Int32) M12
    ) fun k13 =>
  if a1 < (1 : Int32) then
    k13 a1 M
  else
    if (60 : Int32) < a1 then
      k13 a1 M
    else
      k10 a1 (1 : Int32) M
set_option maxRecDepth 100000 in
set_option maxHeartbeats 4000000 in
theorem c_X10_waits (l : Launch) (w : hz_C) {N : Nat} (hN : 178 ≤ N) (a1 : Int32) {M : hz_M} {rE : Int32} {ME : hz_M} (h : f_X10_waits a1 M = some (rE, ME)) : hz_Ct l yX10_waits cX10_waits 2 (some .int) 6 w N [.ref (hz_ad w 0), .int a1] M (hz_Qi w N rE ME) := by
  refine hz_ofW (by decide) rfl (Nat.le_of_ble_eq_true rfl) tw_6_90 ?_
  intro p e s m args below meth c hO
  show hz_G p l e 6 hz_z0 s m args below meth c w N 2 _ M 0 [(0, .ref (hz_ad w 0)), (1, .int a1)] []
  unfold f_X10_waits at h
  refine hz_iload_n hO dX10_waits_0 rfl 1 rfl ?_
  refine hz_iconst (v := (1 : Int32)) hO dX10_waits_1 (by decide) ?_
  obtain ⟨k10, hk10, h⟩ := hz_jn_e h
  have gk10 : ∀ (v1_1 : Int32) (q2 : Int32) (M3 : hz_M), k10 v1_1 q2 M3 = some (rE, ME) → hz_G p l e 6 hz_z0 s m args below meth c w N 2 (MQ below (hz_Qi w N rE ME) args s 0 0 (hz_A w)) M3 16 [(0, .ref (hz_ad w 0)), (1, .int v1_1)] [.int q2] := by
    intro v1_1 q2 M3 h
    rw [hk10] at h
    dsimp only at h
    obtain ⟨r4, M5, hq6, h⟩ := hz_ct_e h
    refine hz_callSv (as := [.int q2]) (rest := []) hO (c_X10_need l w hN q2 hq6) hz_cal_X10_need tw_5_111 (Nat.le_of_ble_eq_true rfl) rfl rfl (Nat.le_of_ble_eq_true rfl) dX10_waits_16 ?_
    refine hz_aload_n hO dX10_waits_19 rfl 0 rfl ?_
    refine hz_getsE (k := 9) (x := (10 : Int32)) hO (by decide) rfl (by decide) tw_6_91 rfl dX10_waits_20 ?_
    refine hz_iconst (v := (0 : Int32)) hO dX10_waits_23 (by decide) ?_
    refine hz_iload_n hO dX10_waits_24 rfl 1 rfl ?_
    obtain ⟨r7, M8, hq9, h⟩ := hz_ct_e h
    refine hz_callVi (as := [hz_ev w (10 : Int32), .int (0 : Int32), .int v1_1]) (rest := []) hO (c_X10_change l w hN (10 : Int32) (0 : Int32) v1_1 hq9) hz_cal_X10_change hz_K_8 hz_sh_0 (hz_lt_0 hN) tw_4_213 (Nat.le_of_ble_eq_true rfl) rfl rfl (Nat.le_of_ble_eq_true rfl) dX10_waits_25 ?_
    exact hz_nameM (hz_some_e h).2.symm (hz_name (hz_some_e h).1.symm (hz_iret hO dX10_waits_28))
  clear hk10
  obtain ⟨k13, hk13, h⟩ := hz_jn_e h
  have gk13 : ∀ (v1_11 : Int32) (M12 : hz_M), k13 v1_11 M12 = some (rE, ME) → hz_G p l e 6 hz_z0 s m args below meth c w N 2 (MQ below (hz_Qi w N rE ME) args s 0 0 (hz_A w)) M12 15 [(0, .ref (hz_ad w 0)), (1, .int v1_11)] [] := by
    intro v1_11 M12 h
    rw [hk13] at h
    dsimp only at h
    refine hz_iconst (v := (0 : Int32)) hO dX10_waits_15 (by decide) ?_
    exact hz_ls [0, 1] rfl (gk10 v1_11 (0 : Int32) M12 h)
  clear hk13
  refine hz_icmp_lt (tgt := 15) hO dX10_waits_2 (by decide) (fun hc14 => ?_) (fun hc14 => ?_)
  · rw [if_pos hc14] at h
    exact hz_ls [0, 1] rfl (gk13 a1 M h)
  · rw [if_neg hc14] at h
    refine hz_iload_n hO dX10_waits_5 rfl 1 rfl ?_
    refine hz_bipush (v := (60 : Int32)) hO dX10_waits_6 (by decide) ?_
    refine hz_icmp_gt (tgt := 15) hO dX10_waits_8 (by decide) (fun hc15 => ?_) (fun hc15 => ?_)
    · rw [if_pos hc15] at h
      exact hz_ls [0, 1] rfl (gk13 a1 M h)
    · rw [if_neg hc15] at h
      refine hz_iconst (v := (1 : Int32)) hO dX10_waits_11 (by decide) ?_
      refine hz_goto (tgt := 16) hO dX10_waits_12 (by decide) ?_
      exact hz_ls [0, 1] rfl (gk10 a1 (1 : Int32) M h)
def f_X10_load (M : hz_M) : hz_O :=
  hz_ct (f_X3_read 5 M) fun r1 M2 =>
  hz_ct (f_X10_endReading M2) fun r4 M5 =>
  if (M5 9 6) = 0 then
    hz_ct (f_X3_copyFrom M5) fun r8 M9 =>
    hz_ct (f_X7_begin M9) fun r11 M12 =>
    hz_lm (hz_set M12 26 3 (0 : Int32)) fun M14 =>
    hz_ct (f_X2_forgetAll M14) fun r15 M16 =>
    some ((M16 1 3), M16)
  else
    some (((-20 : Int32) - (M5 9 6)), M5)
set_option maxRecDepth 100000 in
set_option maxHeartbeats 4000000 in
theorem c_X10_load (l : Launch) (w : hz_C) {N : Nat} (hN : 178 ≤ N) {M : hz_M} {rE : Int32} {ME : hz_M} (h : f_X10_load M = some (rE, ME)) : hz_Ct l yX10_load cX10_load 1 (some .int) 12 w N [.ref (hz_ad w 0)] M (hz_Qi w N rE ME) := by
  refine hz_ofW (by decide) rfl (Nat.le_of_ble_eq_true rfl) tw_3_89 ?_
  intro p e s m args below meth c hO
  show hz_G p l e 12 hz_z0 s m args below meth c w N 1 _ M 0 [(0, .ref (hz_ad w 0))] []
  unfold f_X10_load at h
  refine hz_aload_n hO dX10_load_0 rfl 0 rfl ?_
  refine hz_getR (k := 1) hO 5 hz_K_8 hz_sh_0 (hz_lt_0 hN) rfl (Nat.le_of_ble_eq_true rfl) tw_3_44 rfl dX10_load_1 ?_
  refine hz_aload_n hO dX10_load_4 rfl 0 rfl ?_
  refine hz_getR (k := 2) hO 9 hz_K_8 hz_sh_0 (hz_lt_0 hN) rfl (Nat.le_of_ble_eq_true rfl) tw_3_45 rfl dX10_load_5 ?_
  obtain ⟨r1, M2, hq3, h⟩ := hz_ct_e h
  refine hz_callVv (as := [.ref (hz_ad w 9)]) (rest := []) hO (c_X3_read l w hN (hz_ho_5 hN) hq3) hz_cal_X3_read hz_K_2 hz_sh_5 (hz_lt_5 hN) tw_2_182 (Nat.le_of_ble_eq_true rfl) rfl rfl (Nat.le_of_ble_eq_true rfl) dX10_load_8 ?_
  refine hz_aload_n hO dX10_load_11 rfl 0 rfl ?_
  obtain ⟨r4, M5, hq6, h⟩ := hz_ct_e h
  refine hz_callVv (as := []) (rest := []) hO (c_X10_endReading l w hN hq6) hz_cal_X10_endReading hz_K_8 hz_sh_0 (hz_lt_0 hN) tw_3_90 (Nat.le_of_ble_eq_true rfl) rfl rfl (Nat.le_of_ble_eq_true rfl) dX10_load_12 ?_
  refine hz_aload_n hO dX10_load_15 rfl 0 rfl ?_
  refine hz_getR (k := 2) hO 9 hz_K_8 hz_sh_0 (hz_lt_0 hN) rfl (Nat.le_of_ble_eq_true rfl) tw_3_45 rfl dX10_load_16 ?_
  refine hz_getI (k := 6) hO hz_K_6 hz_sh_9 (hz_lt_9 hN) rfl (Nat.le_of_ble_eq_true rfl) tw_1_123 rfl dX10_load_19 ?_
  refine hz_if_eq (tgt := 36) hO dX10_load_22 (by decide) (fun hc7 => ?_) (fun hc7 => ?_)
  · rw [if_pos hc7] at h
    refine hz_aload_n hO dX10_load_36 rfl 0 rfl ?_
    refine hz_getR (k := 0) hO 1 hz_K_8 hz_sh_0 (hz_lt_0 hN) rfl (Nat.le_of_ble_eq_true rfl) tw_3_43 rfl dX10_load_37 ?_
    refine hz_aload_n hO dX10_load_40 rfl 0 rfl ?_
    refine hz_getR (k := 1) hO 5 hz_K_8 hz_sh_0 (hz_lt_0 hN) rfl (Nat.le_of_ble_eq_true rfl) tw_3_44 rfl dX10_load_41 ?_
    obtain ⟨r8, M9, hq10, h⟩ := hz_ct_e h
    refine hz_callVv (as := [.ref (hz_ad w 5)]) (rest := []) hO (c_X3_copyFrom l w hN hq10) hz_cal_X3_copyFrom hz_K_2 hz_sh_1 (hz_lt_1 hN) tw_3_94 (Nat.le_of_ble_eq_true rfl) rfl rfl (Nat.le_of_ble_eq_true rfl) dX10_load_44 ?_
    refine hz_aload_n hO dX10_load_47 rfl 0 rfl ?_
    refine hz_getR (k := 3) hO 11 hz_K_8 hz_sh_0 (hz_lt_0 hN) rfl (Nat.le_of_ble_eq_true rfl) tw_3_46 rfl dX10_load_48 ?_
    obtain ⟨r11, M12, hq13, h⟩ := hz_ct_e h
    refine hz_callVv (as := []) (rest := []) hO (c_X7_begin l w hN hq13) hz_cal_X7_begin hz_K_5 hz_sh_11 (hz_lt_11 hN) tw_3_32 (Nat.le_of_ble_eq_true rfl) rfl rfl (Nat.le_of_ble_eq_true rfl) dX10_load_51 ?_
    refine hz_aload_n hO dX10_load_54 rfl 0 rfl ?_
    refine hz_getR (k := 5) hO 26 hz_K_8 hz_sh_0 (hz_lt_0 hN) rfl (Nat.le_of_ble_eq_true rfl) tw_3_48 rfl dX10_load_55 ?_
    refine hz_iconst (v := (0 : Int32)) hO dX10_load_58 (by decide) ?_
    obtain ⟨M14, h_M14, h⟩ := hz_lm_e h
    refine hz_putI (k := 3) (ty := .int) hO hz_K_0 tyX1_ok nmX1 hz_sh_26 (hz_lt_26 hN) rfl (Nat.le_of_ble_eq_true rfl) tw_2_32 rfl rfl rfl rfl rfl dX10_load_59 ?_
    refine hz_nameM h_M14 ?_
    refine hz_aload_n hO dX10_load_62 rfl 0 rfl ?_
    refine hz_getR (k := 7) hO 32 hz_K_8 hz_sh_0 (hz_lt_0 hN) rfl (Nat.le_of_ble_eq_true rfl) tw_3_50 rfl dX10_load_63 ?_
    obtain ⟨r15, M16, hq17, h⟩ := hz_ct_e h
    refine hz_callVv (as := []) (rest := []) hO (c_X2_forgetAll l w hN hq17) hz_cal_X2_forgetAll hz_K_1 hz_sh_32 (hz_lt_32 hN) tw_3_101 (Nat.le_of_ble_eq_true rfl) rfl rfl (Nat.le_of_ble_eq_true rfl) dX10_load_66 ?_
    refine hz_aload_n hO dX10_load_69 rfl 0 rfl ?_
    refine hz_getR (k := 0) hO 1 hz_K_8 hz_sh_0 (hz_lt_0 hN) rfl (Nat.le_of_ble_eq_true rfl) tw_3_43 rfl dX10_load_70 ?_
    refine hz_getI (k := 3) hO hz_K_2 hz_sh_1 (hz_lt_1 hN) rfl (Nat.le_of_ble_eq_true rfl) tw_1_51 rfl dX10_load_73 ?_
    exact hz_nameM (hz_some_e h).2.symm (hz_name (hz_some_e h).1.symm (hz_iret hO dX10_load_76))
  · rw [if_neg hc7] at h
    refine hz_bipush (v := (-20 : Int32)) hO dX10_load_25 (by decide) ?_
    refine hz_aload_n hO dX10_load_27 rfl 0 rfl ?_
    refine hz_getR (k := 2) hO 9 hz_K_8 hz_sh_0 (hz_lt_0 hN) rfl (Nat.le_of_ble_eq_true rfl) tw_3_45 rfl dX10_load_28 ?_
    refine hz_getI (k := 6) hO hz_K_6 hz_sh_9 (hz_lt_9 hN) rfl (Nat.le_of_ble_eq_true rfl) tw_1_123 rfl dX10_load_31 ?_
    refine hz_isub hO dX10_load_34 ?_
    exact hz_nameM (hz_some_e h).2.symm (hz_name (hz_some_e h).1.symm (hz_iret hO dX10_load_35))
def f_X10_play (M : hz_M) : hz_O :=
  hz_ct (f_X6_clear M) fun r1 M2 =>
  hz_ct (f_X8_rewind M2) fun r4 M5 =>
  hz_ct (f_X6_readOrders 4 (0 : Int32) M5) fun r7 M8 =>
  hz_ct (f_X8_needEnd M8) fun r10 M11 =>
  hz_ct (f_X10_endReading M11) fun r13 M14 =>
  if (M14 9 6) = 0 then
    hz_ct (f_X2_record M14) fun r17 M18 =>
    hz_ct (f_X6_runOrders 4 (0 : Int32) (M18 27 6) (0 : Int32) M18) fun r20 M21 =>
    some ((M21 27 7), M21)
  else
    some (((-20 : Int32) - (M14 9 6)), M14)
set_option maxRecDepth 100000 in
set_option maxHeartbeats 4000000 in
theorem c_X10_play (l : Launch) (w : hz_C) {N : Nat} (hN : 178 ≤ N) {M : hz_M} {rE : Int32} {ME : hz_M} (h : f_X10_play M = some (rE, ME)) : hz_Ct l yX10_play cX10_play 1 (some .int) 33 w N [.ref (hz_ad w 0)] M (hz_Qi w N rE ME) := by
  refine hz_ofW (by decide) rfl (Nat.le_of_ble_eq_true rfl) tw_3_108 ?_
  intro p e s m args below meth c hO
  show hz_G p l e 33 hz_z0 s m args below meth c w N 1 _ M 0 [(0, .ref (hz_ad w 0))] []
  unfold f_X10_play at h
  refine hz_aload_n hO dX10_play_0 rfl 0 rfl ?_
  refine hz_getR (k := 6) hO 27 hz_K_8 hz_sh_0 (hz_lt_0 hN) rfl (Nat.le_of_ble_eq_true rfl) tw_3_49 rfl dX10_play_1 ?_
  obtain ⟨r1, M2, hq3, h⟩ := hz_ct_e h
  refine hz_callVv (as := []) (rest := []) hO (c_X6_clear l w hN hq3) hz_cal_X6_clear hz_K_4 hz_sh_27 (hz_lt_27 hN) tw_3_109 (Nat.le_of_ble_eq_true rfl) rfl rfl (Nat.le_of_ble_eq_true rfl) dX10_play_4 ?_
  refine hz_aload_n hO dX10_play_7 rfl 0 rfl ?_
  refine hz_getR (k := 2) hO 9 hz_K_8 hz_sh_0 (hz_lt_0 hN) rfl (Nat.le_of_ble_eq_true rfl) tw_3_45 rfl dX10_play_8 ?_
  obtain ⟨r4, M5, hq6, h⟩ := hz_ct_e h
  refine hz_callVv (as := []) (rest := []) hO (c_X8_rewind l w hN hq6) hz_cal_X8_rewind hz_K_6 hz_sh_9 (hz_lt_9 hN) tw_3_113 (Nat.le_of_ble_eq_true rfl) rfl rfl (Nat.le_of_ble_eq_true rfl) dX10_play_11 ?_
  refine hz_aload_n hO dX10_play_14 rfl 0 rfl ?_
  refine hz_getR (k := 6) hO 27 hz_K_8 hz_sh_0 (hz_lt_0 hN) rfl (Nat.le_of_ble_eq_true rfl) tw_3_49 rfl dX10_play_15 ?_
  refine hz_aload_n hO dX10_play_18 rfl 0 rfl ?_
  refine hz_getR (k := 2) hO 9 hz_K_8 hz_sh_0 (hz_lt_0 hN) rfl (Nat.le_of_ble_eq_true rfl) tw_3_45 rfl dX10_play_19 ?_
  refine hz_iconst (v := (0 : Int32)) hO dX10_play_22 (by decide) ?_
  obtain ⟨r7, M8, hq9, h⟩ := hz_ct_e h
  refine hz_callNv (as := [.ref (hz_ad w 9), .int (0 : Int32)]) (rest := []) hO (c_X6_readOrders l w hN 4 (0 : Int32) hq9) hz_cal_X6_readOrders hz_K_4 hz_sh_27 (hz_lt_27 hN) (List.mem_of_getElem? (i := 0) rfl) (Nat.le_of_ble_eq_true rfl) rfl rfl (Nat.le_of_ble_eq_true rfl) dX10_play_23 ?_
  refine hz_aload_n hO dX10_play_26 rfl 0 rfl ?_
  refine hz_getR (k := 2) hO 9 hz_K_8 hz_sh_0 (hz_lt_0 hN) rfl (Nat.le_of_ble_eq_true rfl) tw_3_45 rfl dX10_play_27 ?_
  obtain ⟨r10, M11, hq12, h⟩ := hz_ct_e h
  refine hz_callVv (as := []) (rest := []) hO (c_X8_needEnd l w hN hq12) hz_cal_X8_needEnd hz_K_6 hz_sh_9 (hz_lt_9 hN) tw_3_147 (Nat.le_of_ble_eq_true rfl) rfl rfl (Nat.le_of_ble_eq_true rfl) dX10_play_30 ?_
  refine hz_aload_n hO dX10_play_33 rfl 0 rfl ?_
  obtain ⟨r13, M14, hq15, h⟩ := hz_ct_e h
  refine hz_callVv (as := []) (rest := []) hO (c_X10_endReading l w hN hq15) hz_cal_X10_endReading hz_K_8 hz_sh_0 (hz_lt_0 hN) tw_3_90 (Nat.le_of_ble_eq_true rfl) rfl rfl (Nat.le_of_ble_eq_true rfl) dX10_play_34 ?_
  refine hz_aload_n hO dX10_play_37 rfl 0 rfl ?_
  refine hz_getR (k := 2) hO 9 hz_K_8 hz_sh_0 (hz_lt_0 hN) rfl (Nat.le_of_ble_eq_true rfl) tw_3_45 rfl dX10_play_38 ?_
  refine hz_getI (k := 6) hO hz_K_6 hz_sh_9 (hz_lt_9 hN) rfl (Nat.le_of_ble_eq_true rfl) tw_1_123 rfl dX10_play_41 ?_
  refine hz_if_eq (tgt := 58) hO dX10_play_44 (by decide) (fun hc16 => ?_) (fun hc16 => ?_)
  · rw [if_pos hc16] at h
    refine hz_aload_n hO dX10_play_58 rfl 0 rfl ?_
    refine hz_getR (k := 7) hO 32 hz_K_8 hz_sh_0 (hz_lt_0 hN) rfl (Nat.le_of_ble_eq_true rfl) tw_3_50 rfl dX10_play_59 ?_
    refine hz_aload_n hO dX10_play_62 rfl 0 rfl ?_
    refine hz_getR (k := 3) hO 11 hz_K_8 hz_sh_0 (hz_lt_0 hN) rfl (Nat.le_of_ble_eq_true rfl) tw_3_46 rfl dX10_play_63 ?_
    obtain ⟨r17, M18, hq19, h⟩ := hz_ct_e h
    refine hz_callVv (as := [.ref (hz_ad w 11)]) (rest := []) hO (c_X2_record l w hN hq19) hz_cal_X2_record hz_K_1 hz_sh_32 (hz_lt_32 hN) tw_3_148 (Nat.le_of_ble_eq_true rfl) rfl rfl (Nat.le_of_ble_eq_true rfl) dX10_play_66 ?_
    refine hz_aload_n hO dX10_play_69 rfl 0 rfl ?_
    refine hz_getR (k := 6) hO 27 hz_K_8 hz_sh_0 (hz_lt_0 hN) rfl (Nat.le_of_ble_eq_true rfl) tw_3_49 rfl dX10_play_70 ?_
    refine hz_iconst (v := (0 : Int32)) hO dX10_play_73 (by decide) ?_
    refine hz_aload_n hO dX10_play_74 rfl 0 rfl ?_
    refine hz_getR (k := 6) hO 27 hz_K_8 hz_sh_0 (hz_lt_0 hN) rfl (Nat.le_of_ble_eq_true rfl) tw_3_49 rfl dX10_play_75 ?_
    refine hz_getI (k := 6) hO hz_K_4 hz_sh_27 (hz_lt_27 hN) rfl (Nat.le_of_ble_eq_true rfl) tw_2_58 rfl dX10_play_78 ?_
    refine hz_iconst (v := (0 : Int32)) hO dX10_play_81 (by decide) ?_
    obtain ⟨r20, M21, hq22, h⟩ := hz_ct_e h
    refine hz_callNv (as := [.int (0 : Int32), .int (M18 27 6), .int (0 : Int32)]) (rest := []) hO (c_X6_runOrders l w hN 4 (0 : Int32) (M18 27 6) (0 : Int32) hq22) hz_cal_X6_runOrders hz_K_4 hz_sh_27 (hz_lt_27 hN) (List.mem_of_getElem? (i := 1) rfl) (Nat.le_of_ble_eq_true rfl) rfl rfl (Nat.le_of_ble_eq_true rfl) dX10_play_82 ?_
    refine hz_aload_n hO dX10_play_85 rfl 0 rfl ?_
    refine hz_getR (k := 6) hO 27 hz_K_8 hz_sh_0 (hz_lt_0 hN) rfl (Nat.le_of_ble_eq_true rfl) tw_3_49 rfl dX10_play_86 ?_
    refine hz_getI (k := 7) hO hz_K_4 hz_sh_27 (hz_lt_27 hN) rfl (Nat.le_of_ble_eq_true rfl) tw_2_60 rfl dX10_play_89 ?_
    exact hz_nameM (hz_some_e h).2.symm (hz_name (hz_some_e h).1.symm (hz_iret hO dX10_play_92))
  · rw [if_neg hc16] at h
    refine hz_bipush (v := (-20 : Int32)) hO dX10_play_47 (by decide) ?_
    refine hz_aload_n hO dX10_play_49 rfl 0 rfl ?_
    refine hz_getR (k := 2) hO 9 hz_K_8 hz_sh_0 (hz_lt_0 hN) rfl (Nat.le_of_ble_eq_true rfl) tw_3_45 rfl dX10_play_50 ?_
    refine hz_getI (k := 6) hO hz_K_6 hz_sh_9 (hz_lt_9 hN) rfl (Nat.le_of_ble_eq_true rfl) tw_1_123 rfl dX10_play_53 ?_
    refine hz_isub hO dX10_play_56 ?_
    exact hz_nameM (hz_some_e h).2.symm (hz_name (hz_some_e h).1.symm (hz_iret hO dX10_play_57))
