def fs_0 (a1 : Int32) (a2 : Int32) (a3 : Int32) (a4 : Int32) (a5 : Int32) (M : hz_M) : hz_O :=
  hz_ct (f_X10_feed a1 a2 a3 a4 a5 M) fun r1 M2 =>
  hz_ct (f_X11_feed a1 a2 a3 a4 a5 M2) fun r4 M5 =>
  hz_gd (r1 == r4) <|
  some (0, M5)
set_option maxRecDepth 100000 in
set_option maxHeartbeats 4000000 in
theorem gs_0 {p : Program} {l : Launch} {e : Env} {s : State} {m : MethodId} {args : Array Value} {below : List Frame} {meth : Method} {c : Code} {w : hz_C} (hl : l.stackTraces = false) (hO : hz_Ok p s m args meth c w cL_law 9 "HotStepsLaw" (some .boolean)) {b L : Nat} {xs : Nat → Int32} (hT : va_T .int b L (fun j => .int (xs j)) (hz_A w) s s.heap) (hL : L ≤ 3072) {n : Nat} (hn : n + 6 ≤ L) {z : hz_Z} (hz : z.2.1 + 1 ≤ z.1.1 ∧ z.2.2 + 6 ≤ z.1.2) {Q : State → Prop} {M ME : hz_M} {rE : Int32} (h : fs_0 (xs (n + 1)) (xs (n + 2)) (xs (n + 3)) (xs (n + 4)) (xs (n + 5)) M = some (rE, ME)) (kk : hz_G p l e 1400 (hz_zn z 1 6) s m args below meth c w 194 9 Q ME 2158 [(4, .int (nI n)), (0, .ref b), (1, .ref (hz_ad w 0)), (2, .ref (hz_ad w 178)), (3, .ref (hz_ad w 193))] []) : hz_G p l e 1400 z s m args below meth c w 194 9 Q M 220 [(4, .int (nI n)), (0, .ref b), (1, .ref (hz_ad w 0)), (2, .ref (hz_ad w 178)), (3, .ref (hz_ad w 193))] [] := by
  have hN1 : 178 ≤ 194 := (Nat.le_of_ble_eq_true rfl)
  have hN2 : 193 ≤ 194 := (Nat.le_of_ble_eq_true rfl)
  have hN3 : 194 ≤ 194 := Nat.le_refl _
  unfold fs_0 at h
  refine hz_aload_n hO dL_law_220 rfl 2 rfl ?_
  refine hz_aload_n hO dL_law_221 rfl 1 rfl ?_
  refine hz_iload hO dL_law_222 0 rfl ?_
  refine hz_iconst (v := (1 : Int32)) hO dL_law_224 (by decide) ?_
  refine hz_iadd hO dL_law_225 ?_
  refine hz_name (y := nI (n + 1)) (nI_add n 1).symm ?_
  refine hz_scr hO hT hL (n := n + 1) (by omega) dL_law_226 ?_
  refine hz_aload_n hO dL_law_227 rfl 1 rfl ?_
  refine hz_iload hO dL_law_228 0 rfl ?_
  refine hz_iconst (v := (2 : Int32)) hO dL_law_230 (by decide) ?_
  refine hz_iadd hO dL_law_231 ?_
  refine hz_name (y := nI (n + 2)) (nI_add n 2).symm ?_
  refine hz_scr hO hT hL (n := n + 2) (by omega) dL_law_232 ?_
  refine hz_aload_n hO dL_law_233 rfl 1 rfl ?_
  refine hz_iload hO dL_law_234 0 rfl ?_
  refine hz_iconst (v := (3 : Int32)) hO dL_law_236 (by decide) ?_
  refine hz_iadd hO dL_law_237 ?_
  refine hz_name (y := nI (n + 3)) (nI_add n 3).symm ?_
  refine hz_scr hO hT hL (n := n + 3) (by omega) dL_law_238 ?_
  refine hz_aload_n hO dL_law_239 rfl 1 rfl ?_
  refine hz_iload hO dL_law_240 0 rfl ?_
  refine hz_iconst (v := (4 : Int32)) hO dL_law_242 (by decide) ?_
  refine hz_iadd hO dL_law_243 ?_
  refine hz_name (y := nI (n + 4)) (nI_add n 4).symm ?_
  refine hz_scr hO hT hL (n := n + 4) (by omega) dL_law_244 ?_
  refine hz_aload_n hO dL_law_245 rfl 1 rfl ?_
  refine hz_iload hO dL_law_246 0 rfl ?_
  refine hz_iconst (v := (5 : Int32)) hO dL_law_248 (by decide) ?_
  refine hz_iadd hO dL_law_249 ?_
  refine hz_name (y := nI (n + 5)) (nI_add n 5).symm ?_
  refine hz_scr hO hT hL (n := n + 5) (by omega) dL_law_250 ?_
  obtain ⟨r1, M2, hq3, h⟩ := hz_ct_e h
  refine hz_callVi (as := [.int (xs (n + 1)), .int (xs (n + 2)), .int (xs (n + 3)), .int (xs (n + 4)), .int (xs (n + 5))]) (rest := []) hO (c_X10_feed l w hN1 (xs (n + 1)) (xs (n + 2)) (xs (n + 3)) (xs (n + 4)) (xs (n + 5)) hq3) hz_cal_X10_feed hz_K_8 hz_sh_0 (hz_lt_0 hN1) tw_3_75 (Nat.le_of_ble_eq_true rfl) rfl rfl (Nat.le_of_ble_eq_true rfl) dL_law_251 ?_
  refine hz_aload_n hO dL_law_254 rfl 3 rfl ?_
  refine hz_aload_n hO dL_law_255 rfl 1 rfl ?_
  refine hz_iload hO dL_law_256 0 rfl ?_
  refine hz_iconst (v := (1 : Int32)) hO dL_law_258 (by decide) ?_
  refine hz_iadd hO dL_law_259 ?_
  refine hz_name (y := nI (n + 1)) (nI_add n 1).symm ?_
  refine hz_scr hO hT hL (n := n + 1) (by omega) dL_law_260 ?_
  refine hz_aload_n hO dL_law_261 rfl 1 rfl ?_
  refine hz_iload hO dL_law_262 0 rfl ?_
  refine hz_iconst (v := (2 : Int32)) hO dL_law_264 (by decide) ?_
  refine hz_iadd hO dL_law_265 ?_
  refine hz_name (y := nI (n + 2)) (nI_add n 2).symm ?_
  refine hz_scr hO hT hL (n := n + 2) (by omega) dL_law_266 ?_
  refine hz_aload_n hO dL_law_267 rfl 1 rfl ?_
  refine hz_iload hO dL_law_268 0 rfl ?_
  refine hz_iconst (v := (3 : Int32)) hO dL_law_270 (by decide) ?_
  refine hz_iadd hO dL_law_271 ?_
  refine hz_name (y := nI (n + 3)) (nI_add n 3).symm ?_
  refine hz_scr hO hT hL (n := n + 3) (by omega) dL_law_272 ?_
  refine hz_aload_n hO dL_law_273 rfl 1 rfl ?_
  refine hz_iload hO dL_law_274 0 rfl ?_
  refine hz_iconst (v := (4 : Int32)) hO dL_law_276 (by decide) ?_
  refine hz_iadd hO dL_law_277 ?_
  refine hz_name (y := nI (n + 4)) (nI_add n 4).symm ?_
  refine hz_scr hO hT hL (n := n + 4) (by omega) dL_law_278 ?_
  refine hz_aload_n hO dL_law_279 rfl 1 rfl ?_
  refine hz_iload hO dL_law_280 0 rfl ?_
  refine hz_iconst (v := (5 : Int32)) hO dL_law_282 (by decide) ?_
  refine hz_iadd hO dL_law_283 ?_
  refine hz_name (y := nI (n + 5)) (nI_add n 5).symm ?_
  refine hz_scr hO hT hL (n := n + 5) (by omega) dL_law_284 ?_
  obtain ⟨r4, M5, hq6, h⟩ := hz_ct_e h
  refine hz_callVi (as := [.int (xs (n + 1)), .int (xs (n + 2)), .int (xs (n + 3)), .int (xs (n + 4)), .int (xs (n + 5))]) (rest := [.int r1]) hO (c_X11_feed l w hN2 (xs (n + 1)) (xs (n + 2)) (xs (n + 3)) (xs (n + 4)) (xs (n + 5)) hq6) hz_cal_X11_feed hz_K_9 hz_sh_178 (hz_lt_178 hN2) tw_7_78 (Nat.le_of_ble_eq_true rfl) rfl rfl (Nat.le_of_ble_eq_true rfl) dL_law_285 ?_
  obtain ⟨hg7, h⟩ := hz_gd_e h
  refine hz_icmp_eq (tgt := 2158) hO dL_law_288 (by decide) (fun _ => ?_) (fun hc => absurd (eq_of_beq hg7) hc)
  refine hz_upz hz ?_
  exact hz_nameM (hz_some_e h).2.symm kk
def fs_1 (M : hz_M) : hz_O :=
  hz_ct (f_X10_load M) fun r1 M2 =>
  hz_ct (f_X11_load M2) fun r4 M5 =>
  hz_gd (r1 == r4) <|
  some (0, M5)
set_option maxRecDepth 100000 in
set_option maxHeartbeats 4000000 in
theorem gs_1 {p : Program} {l : Launch} {e : Env} {s : State} {m : MethodId} {args : Array Value} {below : List Frame} {meth : Method} {c : Code} {w : hz_C} (hl : l.stackTraces = false) (hO : hz_Ok p s m args meth c w cL_law 9 "HotStepsLaw" (some .boolean)) {b L : Nat} {xs : Nat → Int32} (hT : va_T .int b L (fun j => .int (xs j)) (hz_A w) s s.heap) (hL : L ≤ 3072) {n : Nat} (hn : n + 6 ≤ L) {z : hz_Z} (hz : z.2.1 + 1 ≤ z.1.1 ∧ z.2.2 + 6 ≤ z.1.2) {Q : State → Prop} {M ME : hz_M} {rE : Int32} (h : fs_1 M = some (rE, ME)) (kk : hz_G p l e 1400 (hz_zn z 1 6) s m args below meth c w 194 9 Q ME 2158 [(4, .int (nI n)), (0, .ref b), (1, .ref (hz_ad w 0)), (2, .ref (hz_ad w 178)), (3, .ref (hz_ad w 193))] []) : hz_G p l e 1400 z s m args below meth c w 194 9 Q M 293 [(4, .int (nI n)), (0, .ref b), (1, .ref (hz_ad w 0)), (2, .ref (hz_ad w 178)), (3, .ref (hz_ad w 193))] [] := by
  have hN1 : 178 ≤ 194 := (Nat.le_of_ble_eq_true rfl)
  have hN2 : 193 ≤ 194 := (Nat.le_of_ble_eq_true rfl)
  have hN3 : 194 ≤ 194 := Nat.le_refl _
  unfold fs_1 at h
  refine hz_aload_n hO dL_law_293 rfl 2 rfl ?_
  obtain ⟨r1, M2, hq3, h⟩ := hz_ct_e h
  refine hz_callVi (as := []) (rest := []) hO (c_X10_load l w hN1 hq3) hz_cal_X10_load hz_K_8 hz_sh_0 (hz_lt_0 hN1) tw_3_86 (Nat.le_of_ble_eq_true rfl) rfl rfl (Nat.le_of_ble_eq_true rfl) dL_law_294 ?_
  refine hz_aload_n hO dL_law_297 rfl 3 rfl ?_
  obtain ⟨r4, M5, hq6, h⟩ := hz_ct_e h
  refine hz_callVi (as := []) (rest := [.int r1]) hO (c_X11_load l w hN2 hq6) hz_cal_X11_load hz_K_9 hz_sh_178 (hz_lt_178 hN2) tw_7_90 (Nat.le_of_ble_eq_true rfl) rfl rfl (Nat.le_of_ble_eq_true rfl) dL_law_298 ?_
  obtain ⟨hg7, h⟩ := hz_gd_e h
  refine hz_icmp_eq (tgt := 2158) hO dL_law_301 (by decide) (fun _ => ?_) (fun hc => absurd (eq_of_beq hg7) hc)
  refine hz_upz hz ?_
  exact hz_nameM (hz_some_e h).2.symm kk
def fs_2 (M : hz_M) : hz_O :=
  hz_ct (f_X10_play M) fun r1 M2 =>
  hz_ct (f_X11_play M2) fun r4 M5 =>
  hz_gd (r1 == r4) <|
  some (0, M5)
set_option maxRecDepth 100000 in
set_option maxHeartbeats 4000000 in
theorem gs_2 {p : Program} {l : Launch} {e : Env} {s : State} {m : MethodId} {args : Array Value} {below : List Frame} {meth : Method} {c : Code} {w : hz_C} (hl : l.stackTraces = false) (hO : hz_Ok p s m args meth c w cL_law 9 "HotStepsLaw" (some .boolean)) {b L : Nat} {xs : Nat → Int32} (hT : va_T .int b L (fun j => .int (xs j)) (hz_A w) s s.heap) (hL : L ≤ 3072) {n : Nat} (hn : n + 6 ≤ L) {z : hz_Z} (hz : z.2.1 + 1 ≤ z.1.1 ∧ z.2.2 + 6 ≤ z.1.2) {Q : State → Prop} {M ME : hz_M} {rE : Int32} (h : fs_2 M = some (rE, ME)) (kk : hz_G p l e 1400 (hz_zn z 1 6) s m args below meth c w 194 9 Q ME 2158 [(4, .int (nI n)), (0, .ref b), (1, .ref (hz_ad w 0)), (2, .ref (hz_ad w 178)), (3, .ref (hz_ad w 193))] []) : hz_G p l e 1400 z s m args below meth c w 194 9 Q M 306 [(4, .int (nI n)), (0, .ref b), (1, .ref (hz_ad w 0)), (2, .ref (hz_ad w 178)), (3, .ref (hz_ad w 193))] [] := by
  have hN1 : 178 ≤ 194 := (Nat.le_of_ble_eq_true rfl)
  have hN2 : 193 ≤ 194 := (Nat.le_of_ble_eq_true rfl)
  have hN3 : 194 ≤ 194 := Nat.le_refl _
  unfold fs_2 at h
  refine hz_aload_n hO dL_law_306 rfl 2 rfl ?_
  obtain ⟨r1, M2, hq3, h⟩ := hz_ct_e h
  refine hz_callVi (as := []) (rest := []) hO (c_X10_play l w hN1 hq3) hz_cal_X10_play hz_K_8 hz_sh_0 (hz_lt_0 hN1) tw_3_105 (Nat.le_of_ble_eq_true rfl) rfl rfl (Nat.le_of_ble_eq_true rfl) dL_law_307 ?_
  refine hz_aload_n hO dL_law_310 rfl 3 rfl ?_
  obtain ⟨r4, M5, hq6, h⟩ := hz_ct_e h
  refine hz_callVi (as := []) (rest := [.int r1]) hO (c_X11_play l w hN2 hq6) hz_cal_X11_play hz_K_9 hz_sh_178 (hz_lt_178 hN2) tw_7_94 (Nat.le_of_ble_eq_true rfl) rfl rfl (Nat.le_of_ble_eq_true rfl) dL_law_311 ?_
  obtain ⟨hg7, h⟩ := hz_gd_e h
  refine hz_icmp_eq (tgt := 2158) hO dL_law_314 (by decide) (fun _ => ?_) (fun hc => absurd (eq_of_beq hg7) hc)
  refine hz_upz hz ?_
  exact hz_nameM (hz_some_e h).2.symm kk
def fs_3 (M : hz_M) : hz_O :=
  hz_ct (f_X10_errorPosition M) fun r1 M2 =>
  hz_ct (f_X11_errorPosition M2) fun r4 M5 =>
  hz_gd (r1 == r4) <|
  some (0, M5)
set_option maxRecDepth 100000 in
set_option maxHeartbeats 4000000 in
theorem gs_3 {p : Program} {l : Launch} {e : Env} {s : State} {m : MethodId} {args : Array Value} {below : List Frame} {meth : Method} {c : Code} {w : hz_C} (hl : l.stackTraces = false) (hO : hz_Ok p s m args meth c w cL_law 9 "HotStepsLaw" (some .boolean)) {b L : Nat} {xs : Nat → Int32} (hT : va_T .int b L (fun j => .int (xs j)) (hz_A w) s s.heap) (hL : L ≤ 3072) {n : Nat} (hn : n + 6 ≤ L) {z : hz_Z} (hz : z.2.1 + 1 ≤ z.1.1 ∧ z.2.2 + 6 ≤ z.1.2) {Q : State → Prop} {M ME : hz_M} {rE : Int32} (h : fs_3 M = some (rE, ME)) (kk : hz_G p l e 1400 (hz_zn z 1 6) s m args below meth c w 194 9 Q ME 2158 [(4, .int (nI n)), (0, .ref b), (1, .ref (hz_ad w 0)), (2, .ref (hz_ad w 178)), (3, .ref (hz_ad w 193))] []) : hz_G p l e 1400 z s m args below meth c w 194 9 Q M 319 [(4, .int (nI n)), (0, .ref b), (1, .ref (hz_ad w 0)), (2, .ref (hz_ad w 178)), (3, .ref (hz_ad w 193))] [] := by
  have hN1 : 178 ≤ 194 := (Nat.le_of_ble_eq_true rfl)
  have hN2 : 193 ≤ 194 := (Nat.le_of_ble_eq_true rfl)
  have hN3 : 194 ≤ 194 := Nat.le_refl _
  unfold fs_3 at h
  refine hz_aload_n hO dL_law_319 rfl 2 rfl ?_
  obtain ⟨r1, M2, hq3, h⟩ := hz_ct_e h
  refine hz_callVi (as := []) (rest := []) hO (c_X10_errorPosition l w hN1 hq3) hz_cal_X10_errorPosition hz_K_8 hz_sh_0 (hz_lt_0 hN1) tw_4_134 (Nat.le_of_ble_eq_true rfl) rfl rfl (Nat.le_of_ble_eq_true rfl) dL_law_320 ?_
  refine hz_aload_n hO dL_law_323 rfl 3 rfl ?_
  obtain ⟨r4, M5, hq6, h⟩ := hz_ct_e h
  refine hz_callVi (as := []) (rest := [.int r1]) hO (c_X11_errorPosition l w hN2 hq6) hz_cal_X11_errorPosition hz_K_9 hz_sh_178 (hz_lt_178 hN2) tw_7_86 (Nat.le_of_ble_eq_true rfl) rfl rfl (Nat.le_of_ble_eq_true rfl) dL_law_324 ?_
  obtain ⟨hg7, h⟩ := hz_gd_e h
  refine hz_icmp_eq (tgt := 2158) hO dL_law_327 (by decide) (fun _ => ?_) (fun hc => absurd (eq_of_beq hg7) hc)
  refine hz_upz hz ?_
  exact hz_nameM (hz_some_e h).2.symm kk
def fs_4 (a1 : Int32) (M : hz_M) : hz_O :=
  hz_ct (f_L_size a1 M) fun r1 M2 =>
  hz_ct (f_X11_size a1 M2) fun r4 M5 =>
  hz_ct (f_X11_thrown M5) fun r7 M8 =>
  hz_gd (r7 == r1) <|
  hz_gd (!(r1 == 0) || M8 193 0 == r4) <|
  some (0, M8)
set_option maxRecDepth 100000 in
set_option maxHeartbeats 4000000 in
theorem gs_4 {p : Program} {l : Launch} {e : Env} {s : State} {m : MethodId} {args : Array Value} {below : List Frame} {meth : Method} {c : Code} {w : hz_C} (hl : l.stackTraces = false) (hO : hz_Ok p s m args meth c w cL_law 9 "HotStepsLaw" (some .boolean)) {b L : Nat} {xs : Nat → Int32} (hT : va_T .int b L (fun j => .int (xs j)) (hz_A w) s s.heap) (hL : L ≤ 3072) {n : Nat} (hn : n + 6 ≤ L) {z : hz_Z} (hz : z.2.1 + 1 ≤ z.1.1 ∧ z.2.2 + 6 ≤ z.1.2) {Q : State → Prop} {M ME : hz_M} {rE : Int32} (h : fs_4 (xs (n + 1)) M = some (rE, ME)) (kk : hz_G p l e 1400 (hz_zn z 1 6) s m args below meth c w 194 9 Q ME 2158 [(4, .int (nI n)), (0, .ref b), (1, .ref (hz_ad w 0)), (2, .ref (hz_ad w 178)), (3, .ref (hz_ad w 193))] []) : hz_G p l e 1400 z s m args below meth c w 194 9 Q M 332 [(4, .int (nI n)), (0, .ref b), (1, .ref (hz_ad w 0)), (2, .ref (hz_ad w 178)), (3, .ref (hz_ad w 193))] [] := by
  have hN1 : 178 ≤ 194 := (Nat.le_of_ble_eq_true rfl)
  have hN2 : 193 ≤ 194 := (Nat.le_of_ble_eq_true rfl)
  have hN3 : 194 ≤ 194 := Nat.le_refl _
  unfold fs_4 at h
  refine hz_aload_n hO dL_law_332 rfl 2 rfl ?_
  refine hz_aload_n hO dL_law_333 rfl 1 rfl ?_
  refine hz_iload hO dL_law_334 0 rfl ?_
  refine hz_iconst (v := (1 : Int32)) hO dL_law_336 (by decide) ?_
  refine hz_iadd hO dL_law_337 ?_
  refine hz_name (y := nI (n + 1)) (nI_add n 1).symm ?_
  refine hz_scr hO hT hL (n := n + 1) (by omega) dL_law_338 ?_
  refine hz_aload_n hO dL_law_339 rfl 4 rfl ?_
  obtain ⟨r1, M2, hq3, h⟩ := hz_ct_e h
  refine hz_callW (n := 3) (as := [.ref (hz_ad w 0), .int (xs (n + 1)), .ref (hz_ad w 193)]) (rest := []) hO (c_L_size l hl w hN3 (xs (n + 1)) hq3) hz_cal_L_size tw_5_28 tw_5_29 tw_1_0 ⟨by decide, by decide, by decide +kernel⟩ (Nat.le_of_ble_eq_true rfl) (Nat.le_of_ble_eq_true rfl) rfl rfl (Nat.le_of_ble_eq_true rfl) hz dL_law_340 ?_
  refine hz_istore (ls1 := [(5, .int r1), (4, .int (nI n)), (0, .ref b), (1, .ref (hz_ad w 0)), (2, .ref (hz_ad w 178)), (3, .ref (hz_ad w 193))]) hO dL_law_343 (Nat.le_of_ble_eq_true rfl) rfl ?_
  refine hz_aload_n hO dL_law_345 rfl 4 rfl ?_
  refine hz_aload_n hO dL_law_346 rfl 2 rfl ?_
  refine hz_iload hO dL_law_347 1 rfl ?_
  refine hz_iconst (v := (1 : Int32)) hO dL_law_349 (by decide) ?_
  refine hz_iadd hO dL_law_350 ?_
  refine hz_name (y := nI (n + 1)) (nI_add n 1).symm ?_
  refine hz_scr hO hT hL (n := n + 1) (by omega) dL_law_351 ?_
  obtain ⟨r4, M5, hq6, h⟩ := hz_ct_e h
  refine hz_callVi (as := [.int (xs (n + 1))]) (rest := []) hO (c_X11_size l w hN2 (xs (n + 1)) hq6) hz_cal_X11_size hz_K_9 hz_sh_178 (hz_lt_178 hN2) tw_8_78 (Nat.le_of_ble_eq_true rfl) rfl rfl (Nat.le_of_ble_eq_true rfl) dL_law_352 ?_
  refine hz_istore (ls1 := [(6, .int r4), (5, .int r1), (4, .int (nI n)), (0, .ref b), (1, .ref (hz_ad w 0)), (2, .ref (hz_ad w 178)), (3, .ref (hz_ad w 193))]) hO dL_law_355 (Nat.le_of_ble_eq_true rfl) rfl ?_
  refine hz_aload_n hO dL_law_357 rfl 5 rfl ?_
  obtain ⟨r7, M8, hq9, h⟩ := hz_ct_e h
  refine hz_callVi (as := []) (rest := []) hO (c_X11_thrown l w hN2 hq9) hz_cal_X11_thrown hz_K_9 hz_sh_178 (hz_lt_178 hN2) tw_7_74 (Nat.le_of_ble_eq_true rfl) rfl rfl (Nat.le_of_ble_eq_true rfl) dL_law_358 ?_
  refine hz_iload hO dL_law_361 1 rfl ?_
  obtain ⟨hg10, h⟩ := hz_gd_e h
  refine hz_icmp_eq (tgt := 368) hO dL_law_363 (by decide) (fun _ => ?_) (fun hc => absurd (eq_of_beq hg10) hc)
  refine hz_iload hO dL_law_368 1 rfl ?_
  obtain ⟨hg11, h⟩ := hz_gd_e h
  refine hz_if_ne (tgt := 385) hO dL_law_370 (by decide) (fun _ => ?_) (fun hc => ?_)
  · refine hz_goto (tgt := 2158) hO dL_law_385 (by decide) ?_
    refine hz_ls (ls1 := [(4, .int (nI n)), (0, .ref b), (1, .ref (hz_ad w 0)), (2, .ref (hz_ad w 178)), (3, .ref (hz_ad w 193))]) [2, 3, 4, 5, 6] rfl ?_
    exact hz_nameM (hz_some_e h).2.symm kk
  · have hE : M8 193 0 = r4 := by simpa [hc] using hg11
    refine hz_aload_n hO dL_law_373 rfl 6 rfl ?_
    refine hz_iconst (v := (0 : Int32)) hO dL_law_374 (by decide) ?_
    refine hz_lald hO hz_sh_193 (hz_lt_193 hN3) (by decide) dL_law_375 ?_
    refine hz_iload hO dL_law_376 0 rfl ?_
    refine hz_i2l hO dL_law_378 ?_
    refine hz_lcmp hO dL_law_379 ?_
    refine hz_name (y := 0) (by rw [show (0 : Int32).toNatClampNeg = 0 from rfl, hE]; exact hz_lcmp0.symm) ?_
    refine hz_if_eq (tgt := 385) hO dL_law_380 (by decide) (fun _ => ?_) (fun hc => absurd rfl hc)
    refine hz_goto (tgt := 2158) hO dL_law_385 (by decide) ?_
    refine hz_ls (ls1 := [(4, .int (nI n)), (0, .ref b), (1, .ref (hz_ad w 0)), (2, .ref (hz_ad w 178)), (3, .ref (hz_ad w 193))]) [2, 3, 4, 5, 6] rfl ?_
    exact hz_nameM (hz_some_e h).2.symm kk
def fs_5 (a1 : Int32) (a2 : Int32) (M : hz_M) : hz_O :=
  hz_ct (f_L_guest a1 a2 M) fun r1 M2 =>
  hz_ct (f_X11_guest a1 a2 M2) fun r4 M5 =>
  hz_ct (f_X11_thrown M5) fun r7 M8 =>
  hz_gd (r7 == r1) <|
  hz_gd (!(r1 == 0) || M8 193 0 == r4) <|
  some (0, M8)
set_option maxRecDepth 100000 in
set_option maxHeartbeats 4000000 in
theorem gs_5 {p : Program} {l : Launch} {e : Env} {s : State} {m : MethodId} {args : Array Value} {below : List Frame} {meth : Method} {c : Code} {w : hz_C} (hl : l.stackTraces = false) (hO : hz_Ok p s m args meth c w cL_law 9 "HotStepsLaw" (some .boolean)) {b L : Nat} {xs : Nat → Int32} (hT : va_T .int b L (fun j => .int (xs j)) (hz_A w) s s.heap) (hL : L ≤ 3072) {n : Nat} (hn : n + 6 ≤ L) {z : hz_Z} (hz : z.2.1 + 1 ≤ z.1.1 ∧ z.2.2 + 6 ≤ z.1.2) {Q : State → Prop} {M ME : hz_M} {rE : Int32} (h : fs_5 (xs (n + 1)) (xs (n + 2)) M = some (rE, ME)) (kk : hz_G p l e 1400 (hz_zn z 1 6) s m args below meth c w 194 9 Q ME 2158 [(4, .int (nI n)), (0, .ref b), (1, .ref (hz_ad w 0)), (2, .ref (hz_ad w 178)), (3, .ref (hz_ad w 193))] []) : hz_G p l e 1400 z s m args below meth c w 194 9 Q M 388 [(4, .int (nI n)), (0, .ref b), (1, .ref (hz_ad w 0)), (2, .ref (hz_ad w 178)), (3, .ref (hz_ad w 193))] [] := by
  have hN1 : 178 ≤ 194 := (Nat.le_of_ble_eq_true rfl)
  have hN2 : 193 ≤ 194 := (Nat.le_of_ble_eq_true rfl)
  have hN3 : 194 ≤ 194 := Nat.le_refl _
  unfold fs_5 at h
  refine hz_aload_n hO dL_law_388 rfl 2 rfl ?_
  refine hz_aload_n hO dL_law_389 rfl 1 rfl ?_
  refine hz_iload hO dL_law_390 0 rfl ?_
  refine hz_iconst (v := (1 : Int32)) hO dL_law_392 (by decide) ?_
  refine hz_iadd hO dL_law_393 ?_
  refine hz_name (y := nI (n + 1)) (nI_add n 1).symm ?_
  refine hz_scr hO hT hL (n := n + 1) (by omega) dL_law_394 ?_
  refine hz_aload_n hO dL_law_395 rfl 1 rfl ?_
  refine hz_iload hO dL_law_396 0 rfl ?_
  refine hz_iconst (v := (2 : Int32)) hO dL_law_398 (by decide) ?_
  refine hz_iadd hO dL_law_399 ?_
  refine hz_name (y := nI (n + 2)) (nI_add n 2).symm ?_
  refine hz_scr hO hT hL (n := n + 2) (by omega) dL_law_400 ?_
  refine hz_aload_n hO dL_law_401 rfl 4 rfl ?_
  obtain ⟨r1, M2, hq3, h⟩ := hz_ct_e h
  refine hz_callW (n := 4) (as := [.ref (hz_ad w 0), .int (xs (n + 1)), .int (xs (n + 2)), .ref (hz_ad w 193)]) (rest := []) hO (c_L_guest l hl w hN3 (xs (n + 1)) (xs (n + 2)) hq3) hz_cal_L_guest tw_5_103 tw_5_104 tw_1_0 ⟨by decide, by decide, by decide +kernel⟩ (Nat.le_of_ble_eq_true rfl) (Nat.le_of_ble_eq_true rfl) rfl rfl (Nat.le_of_ble_eq_true rfl) hz dL_law_402 ?_
  refine hz_istore (ls1 := [(5, .int r1), (4, .int (nI n)), (0, .ref b), (1, .ref (hz_ad w 0)), (2, .ref (hz_ad w 178)), (3, .ref (hz_ad w 193))]) hO dL_law_405 (Nat.le_of_ble_eq_true rfl) rfl ?_
  refine hz_aload_n hO dL_law_407 rfl 4 rfl ?_
  refine hz_aload_n hO dL_law_408 rfl 2 rfl ?_
  refine hz_iload hO dL_law_409 1 rfl ?_
  refine hz_iconst (v := (1 : Int32)) hO dL_law_411 (by decide) ?_
  refine hz_iadd hO dL_law_412 ?_
  refine hz_name (y := nI (n + 1)) (nI_add n 1).symm ?_
  refine hz_scr hO hT hL (n := n + 1) (by omega) dL_law_413 ?_
  refine hz_aload_n hO dL_law_414 rfl 2 rfl ?_
  refine hz_iload hO dL_law_415 1 rfl ?_
  refine hz_iconst (v := (2 : Int32)) hO dL_law_417 (by decide) ?_
  refine hz_iadd hO dL_law_418 ?_
  refine hz_name (y := nI (n + 2)) (nI_add n 2).symm ?_
  refine hz_scr hO hT hL (n := n + 2) (by omega) dL_law_419 ?_
  obtain ⟨r4, M5, hq6, h⟩ := hz_ct_e h
  refine hz_callVi (as := [.int (xs (n + 1)), .int (xs (n + 2))]) (rest := []) hO (c_X11_guest l w hN2 (xs (n + 1)) (xs (n + 2)) hq6) hz_cal_X11_guest hz_K_9 hz_sh_178 (hz_lt_178 hN2) tw_8_98 (Nat.le_of_ble_eq_true rfl) rfl rfl (Nat.le_of_ble_eq_true rfl) dL_law_420 ?_
  refine hz_istore (ls1 := [(6, .int r4), (5, .int r1), (4, .int (nI n)), (0, .ref b), (1, .ref (hz_ad w 0)), (2, .ref (hz_ad w 178)), (3, .ref (hz_ad w 193))]) hO dL_law_423 (Nat.le_of_ble_eq_true rfl) rfl ?_
  refine hz_aload_n hO dL_law_425 rfl 5 rfl ?_
  obtain ⟨r7, M8, hq9, h⟩ := hz_ct_e h
  refine hz_callVi (as := []) (rest := []) hO (c_X11_thrown l w hN2 hq9) hz_cal_X11_thrown hz_K_9 hz_sh_178 (hz_lt_178 hN2) tw_7_74 (Nat.le_of_ble_eq_true rfl) rfl rfl (Nat.le_of_ble_eq_true rfl) dL_law_426 ?_
  refine hz_iload hO dL_law_429 1 rfl ?_
  obtain ⟨hg10, h⟩ := hz_gd_e h
  refine hz_icmp_eq (tgt := 436) hO dL_law_431 (by decide) (fun _ => ?_) (fun hc => absurd (eq_of_beq hg10) hc)
  refine hz_iload hO dL_law_436 1 rfl ?_
  obtain ⟨hg11, h⟩ := hz_gd_e h
  refine hz_if_ne (tgt := 453) hO dL_law_438 (by decide) (fun _ => ?_) (fun hc => ?_)
  · refine hz_goto (tgt := 2158) hO dL_law_453 (by decide) ?_
    refine hz_ls (ls1 := [(4, .int (nI n)), (0, .ref b), (1, .ref (hz_ad w 0)), (2, .ref (hz_ad w 178)), (3, .ref (hz_ad w 193))]) [2, 3, 4, 5, 6] rfl ?_
    exact hz_nameM (hz_some_e h).2.symm kk
  · have hE : M8 193 0 = r4 := by simpa [hc] using hg11
    refine hz_aload_n hO dL_law_441 rfl 6 rfl ?_
    refine hz_iconst (v := (0 : Int32)) hO dL_law_442 (by decide) ?_
    refine hz_lald hO hz_sh_193 (hz_lt_193 hN3) (by decide) dL_law_443 ?_
    refine hz_iload hO dL_law_444 0 rfl ?_
    refine hz_i2l hO dL_law_446 ?_
    refine hz_lcmp hO dL_law_447 ?_
    refine hz_name (y := 0) (by rw [show (0 : Int32).toNatClampNeg = 0 from rfl, hE]; exact hz_lcmp0.symm) ?_
    refine hz_if_eq (tgt := 453) hO dL_law_448 (by decide) (fun _ => ?_) (fun hc => absurd rfl hc)
    refine hz_goto (tgt := 2158) hO dL_law_453 (by decide) ?_
    refine hz_ls (ls1 := [(4, .int (nI n)), (0, .ref b), (1, .ref (hz_ad w 0)), (2, .ref (hz_ad w 178)), (3, .ref (hz_ad w 193))]) [2, 3, 4, 5, 6] rfl ?_
    exact hz_nameM (hz_some_e h).2.symm kk
def fs_6 (a1 : Int32) (a2 : Int32) (M : hz_M) : hz_O :=
  hz_ct (f_L_towel a1 a2 M) fun r1 M2 =>
  hz_ct (f_X11_towel a1 a2 M2) fun r4 M5 =>
  hz_ct (f_X11_thrown M5) fun r7 M8 =>
  hz_gd (r7 == r1) <|
  hz_gd (!(r1 == 0) || M8 193 0 == r4) <|
  some (0, M8)
set_option maxRecDepth 100000 in
set_option maxHeartbeats 4000000 in
theorem gs_6 {p : Program} {l : Launch} {e : Env} {s : State} {m : MethodId} {args : Array Value} {below : List Frame} {meth : Method} {c : Code} {w : hz_C} (hl : l.stackTraces = false) (hO : hz_Ok p s m args meth c w cL_law 9 "HotStepsLaw" (some .boolean)) {b L : Nat} {xs : Nat → Int32} (hT : va_T .int b L (fun j => .int (xs j)) (hz_A w) s s.heap) (hL : L ≤ 3072) {n : Nat} (hn : n + 6 ≤ L) {z : hz_Z} (hz : z.2.1 + 1 ≤ z.1.1 ∧ z.2.2 + 6 ≤ z.1.2) {Q : State → Prop} {M ME : hz_M} {rE : Int32} (h : fs_6 (xs (n + 1)) (xs (n + 2)) M = some (rE, ME)) (kk : hz_G p l e 1400 (hz_zn z 1 6) s m args below meth c w 194 9 Q ME 2158 [(4, .int (nI n)), (0, .ref b), (1, .ref (hz_ad w 0)), (2, .ref (hz_ad w 178)), (3, .ref (hz_ad w 193))] []) : hz_G p l e 1400 z s m args below meth c w 194 9 Q M 456 [(4, .int (nI n)), (0, .ref b), (1, .ref (hz_ad w 0)), (2, .ref (hz_ad w 178)), (3, .ref (hz_ad w 193))] [] := by
  have hN1 : 178 ≤ 194 := (Nat.le_of_ble_eq_true rfl)
  have hN2 : 193 ≤ 194 := (Nat.le_of_ble_eq_true rfl)
  have hN3 : 194 ≤ 194 := Nat.le_refl _
  unfold fs_6 at h
  refine hz_aload_n hO dL_law_456 rfl 2 rfl ?_
  refine hz_aload_n hO dL_law_457 rfl 1 rfl ?_
  refine hz_iload hO dL_law_458 0 rfl ?_
  refine hz_iconst (v := (1 : Int32)) hO dL_law_460 (by decide) ?_
  refine hz_iadd hO dL_law_461 ?_
  refine hz_name (y := nI (n + 1)) (nI_add n 1).symm ?_
  refine hz_scr hO hT hL (n := n + 1) (by omega) dL_law_462 ?_
  refine hz_aload_n hO dL_law_463 rfl 1 rfl ?_
  refine hz_iload hO dL_law_464 0 rfl ?_
  refine hz_iconst (v := (2 : Int32)) hO dL_law_466 (by decide) ?_
  refine hz_iadd hO dL_law_467 ?_
  refine hz_name (y := nI (n + 2)) (nI_add n 2).symm ?_
  refine hz_scr hO hT hL (n := n + 2) (by omega) dL_law_468 ?_
  refine hz_aload_n hO dL_law_469 rfl 4 rfl ?_
  obtain ⟨r1, M2, hq3, h⟩ := hz_ct_e h
  refine hz_callW (n := 4) (as := [.ref (hz_ad w 0), .int (xs (n + 1)), .int (xs (n + 2)), .ref (hz_ad w 193)]) (rest := []) hO (c_L_towel l hl w hN3 (xs (n + 1)) (xs (n + 2)) hq3) hz_cal_L_towel tw_5_121 tw_5_122 tw_1_0 ⟨by decide, by decide, by decide +kernel⟩ (Nat.le_of_ble_eq_true rfl) (Nat.le_of_ble_eq_true rfl) rfl rfl (Nat.le_of_ble_eq_true rfl) hz dL_law_470 ?_
  refine hz_istore (ls1 := [(5, .int r1), (4, .int (nI n)), (0, .ref b), (1, .ref (hz_ad w 0)), (2, .ref (hz_ad w 178)), (3, .ref (hz_ad w 193))]) hO dL_law_473 (Nat.le_of_ble_eq_true rfl) rfl ?_
  refine hz_aload_n hO dL_law_475 rfl 4 rfl ?_
  refine hz_aload_n hO dL_law_476 rfl 2 rfl ?_
  refine hz_iload hO dL_law_477 1 rfl ?_
  refine hz_iconst (v := (1 : Int32)) hO dL_law_479 (by decide) ?_
  refine hz_iadd hO dL_law_480 ?_
  refine hz_name (y := nI (n + 1)) (nI_add n 1).symm ?_
  refine hz_scr hO hT hL (n := n + 1) (by omega) dL_law_481 ?_
  refine hz_aload_n hO dL_law_482 rfl 2 rfl ?_
  refine hz_iload hO dL_law_483 1 rfl ?_
  refine hz_iconst (v := (2 : Int32)) hO dL_law_485 (by decide) ?_
  refine hz_iadd hO dL_law_486 ?_
  refine hz_name (y := nI (n + 2)) (nI_add n 2).symm ?_
  refine hz_scr hO hT hL (n := n + 2) (by omega) dL_law_487 ?_
  obtain ⟨r4, M5, hq6, h⟩ := hz_ct_e h
  refine hz_callVi (as := [.int (xs (n + 1)), .int (xs (n + 2))]) (rest := []) hO (c_X11_towel l w hN2 (xs (n + 1)) (xs (n + 2)) hq6) hz_cal_X11_towel hz_K_9 hz_sh_178 (hz_lt_178 hN2) tw_8_106 (Nat.le_of_ble_eq_true rfl) rfl rfl (Nat.le_of_ble_eq_true rfl) dL_law_488 ?_
  refine hz_istore (ls1 := [(6, .int r4), (5, .int r1), (4, .int (nI n)), (0, .ref b), (1, .ref (hz_ad w 0)), (2, .ref (hz_ad w 178)), (3, .ref (hz_ad w 193))]) hO dL_law_491 (Nat.le_of_ble_eq_true rfl) rfl ?_
  refine hz_aload_n hO dL_law_493 rfl 5 rfl ?_
  obtain ⟨r7, M8, hq9, h⟩ := hz_ct_e h
  refine hz_callVi (as := []) (rest := []) hO (c_X11_thrown l w hN2 hq9) hz_cal_X11_thrown hz_K_9 hz_sh_178 (hz_lt_178 hN2) tw_7_74 (Nat.le_of_ble_eq_true rfl) rfl rfl (Nat.le_of_ble_eq_true rfl) dL_law_494 ?_
  refine hz_iload hO dL_law_497 1 rfl ?_
  obtain ⟨hg10, h⟩ := hz_gd_e h
  refine hz_icmp_eq (tgt := 504) hO dL_law_499 (by decide) (fun _ => ?_) (fun hc => absurd (eq_of_beq hg10) hc)
  refine hz_iload hO dL_law_504 1 rfl ?_
  obtain ⟨hg11, h⟩ := hz_gd_e h
  refine hz_if_ne (tgt := 521) hO dL_law_506 (by decide) (fun _ => ?_) (fun hc => ?_)
  · refine hz_goto (tgt := 2158) hO dL_law_521 (by decide) ?_
    refine hz_ls (ls1 := [(4, .int (nI n)), (0, .ref b), (1, .ref (hz_ad w 0)), (2, .ref (hz_ad w 178)), (3, .ref (hz_ad w 193))]) [2, 3, 4, 5, 6] rfl ?_
    exact hz_nameM (hz_some_e h).2.symm kk
  · have hE : M8 193 0 = r4 := by simpa [hc] using hg11
    refine hz_aload_n hO dL_law_509 rfl 6 rfl ?_
    refine hz_iconst (v := (0 : Int32)) hO dL_law_510 (by decide) ?_
    refine hz_lald hO hz_sh_193 (hz_lt_193 hN3) (by decide) dL_law_511 ?_
    refine hz_iload hO dL_law_512 0 rfl ?_
    refine hz_i2l hO dL_law_514 ?_
    refine hz_lcmp hO dL_law_515 ?_
    refine hz_name (y := 0) (by rw [show (0 : Int32).toNatClampNeg = 0 from rfl, hE]; exact hz_lcmp0.symm) ?_
    refine hz_if_eq (tgt := 521) hO dL_law_516 (by decide) (fun _ => ?_) (fun hc => absurd rfl hc)
    refine hz_goto (tgt := 2158) hO dL_law_521 (by decide) ?_
    refine hz_ls (ls1 := [(4, .int (nI n)), (0, .ref b), (1, .ref (hz_ad w 0)), (2, .ref (hz_ad w 178)), (3, .ref (hz_ad w 193))]) [2, 3, 4, 5, 6] rfl ?_
    exact hz_nameM (hz_some_e h).2.symm kk
def fs_7 (a1 : Int32) (M : hz_M) : hz_O :=
  hz_ct (f_L_peg a1 M) fun r1 M2 =>
  hz_ct (f_X11_peg a1 M2) fun r4 M5 =>
  hz_ct (f_X11_thrown M5) fun r7 M8 =>
  hz_gd (r7 == r1) <|
  hz_gd (!(r1 == 0) || M8 193 0 == r4) <|
  some (0, M8)
set_option maxRecDepth 100000 in
set_option maxHeartbeats 4000000 in
theorem gs_7 {p : Program} {l : Launch} {e : Env} {s : State} {m : MethodId} {args : Array Value} {below : List Frame} {meth : Method} {c : Code} {w : hz_C} (hl : l.stackTraces = false) (hO : hz_Ok p s m args meth c w cL_law 9 "HotStepsLaw" (some .boolean)) {b L : Nat} {xs : Nat → Int32} (hT : va_T .int b L (fun j => .int (xs j)) (hz_A w) s s.heap) (hL : L ≤ 3072) {n : Nat} (hn : n + 6 ≤ L) {z : hz_Z} (hz : z.2.1 + 1 ≤ z.1.1 ∧ z.2.2 + 6 ≤ z.1.2) {Q : State → Prop} {M ME : hz_M} {rE : Int32} (h : fs_7 (xs (n + 1)) M = some (rE, ME)) (kk : hz_G p l e 1400 (hz_zn z 1 6) s m args below meth c w 194 9 Q ME 2158 [(4, .int (nI n)), (0, .ref b), (1, .ref (hz_ad w 0)), (2, .ref (hz_ad w 178)), (3, .ref (hz_ad w 193))] []) : hz_G p l e 1400 z s m args below meth c w 194 9 Q M 524 [(4, .int (nI n)), (0, .ref b), (1, .ref (hz_ad w 0)), (2, .ref (hz_ad w 178)), (3, .ref (hz_ad w 193))] [] := by
  have hN1 : 178 ≤ 194 := (Nat.le_of_ble_eq_true rfl)
  have hN2 : 193 ≤ 194 := (Nat.le_of_ble_eq_true rfl)
  have hN3 : 194 ≤ 194 := Nat.le_refl _
  unfold fs_7 at h
  refine hz_aload_n hO dL_law_524 rfl 2 rfl ?_
  refine hz_aload_n hO dL_law_525 rfl 1 rfl ?_
  refine hz_iload hO dL_law_526 0 rfl ?_
  refine hz_iconst (v := (1 : Int32)) hO dL_law_528 (by decide) ?_
  refine hz_iadd hO dL_law_529 ?_
  refine hz_name (y := nI (n + 1)) (nI_add n 1).symm ?_
  refine hz_scr hO hT hL (n := n + 1) (by omega) dL_law_530 ?_
  refine hz_aload_n hO dL_law_531 rfl 4 rfl ?_
  obtain ⟨r1, M2, hq3, h⟩ := hz_ct_e h
  refine hz_callW (n := 3) (as := [.ref (hz_ad w 0), .int (xs (n + 1)), .ref (hz_ad w 193)]) (rest := []) hO (c_L_peg l hl w hN3 (xs (n + 1)) hq3) hz_cal_L_peg tw_5_131 tw_5_132 tw_1_0 ⟨by decide, by decide, by decide +kernel⟩ (Nat.le_of_ble_eq_true rfl) (Nat.le_of_ble_eq_true rfl) rfl rfl (Nat.le_of_ble_eq_true rfl) hz dL_law_532 ?_
  refine hz_istore (ls1 := [(5, .int r1), (4, .int (nI n)), (0, .ref b), (1, .ref (hz_ad w 0)), (2, .ref (hz_ad w 178)), (3, .ref (hz_ad w 193))]) hO dL_law_535 (Nat.le_of_ble_eq_true rfl) rfl ?_
  refine hz_aload_n hO dL_law_537 rfl 4 rfl ?_
  refine hz_aload_n hO dL_law_538 rfl 2 rfl ?_
  refine hz_iload hO dL_law_539 1 rfl ?_
  refine hz_iconst (v := (1 : Int32)) hO dL_law_541 (by decide) ?_
  refine hz_iadd hO dL_law_542 ?_
  refine hz_name (y := nI (n + 1)) (nI_add n 1).symm ?_
  refine hz_scr hO hT hL (n := n + 1) (by omega) dL_law_543 ?_
  obtain ⟨r4, M5, hq6, h⟩ := hz_ct_e h
  refine hz_callVi (as := [.int (xs (n + 1))]) (rest := []) hO (c_X11_peg l w hN2 (xs (n + 1)) hq6) hz_cal_X11_peg hz_K_9 hz_sh_178 (hz_lt_178 hN2) tw_8_114 (Nat.le_of_ble_eq_true rfl) rfl rfl (Nat.le_of_ble_eq_true rfl) dL_law_544 ?_
  refine hz_istore (ls1 := [(6, .int r4), (5, .int r1), (4, .int (nI n)), (0, .ref b), (1, .ref (hz_ad w 0)), (2, .ref (hz_ad w 178)), (3, .ref (hz_ad w 193))]) hO dL_law_547 (Nat.le_of_ble_eq_true rfl) rfl ?_
  refine hz_aload_n hO dL_law_549 rfl 5 rfl ?_
  obtain ⟨r7, M8, hq9, h⟩ := hz_ct_e h
  refine hz_callVi (as := []) (rest := []) hO (c_X11_thrown l w hN2 hq9) hz_cal_X11_thrown hz_K_9 hz_sh_178 (hz_lt_178 hN2) tw_7_74 (Nat.le_of_ble_eq_true rfl) rfl rfl (Nat.le_of_ble_eq_true rfl) dL_law_550 ?_
  refine hz_iload hO dL_law_553 1 rfl ?_
  obtain ⟨hg10, h⟩ := hz_gd_e h
  refine hz_icmp_eq (tgt := 560) hO dL_law_555 (by decide) (fun _ => ?_) (fun hc => absurd (eq_of_beq hg10) hc)
  refine hz_iload hO dL_law_560 1 rfl ?_
  obtain ⟨hg11, h⟩ := hz_gd_e h
  refine hz_if_ne (tgt := 577) hO dL_law_562 (by decide) (fun _ => ?_) (fun hc => ?_)
  · refine hz_goto (tgt := 2158) hO dL_law_577 (by decide) ?_
    refine hz_ls (ls1 := [(4, .int (nI n)), (0, .ref b), (1, .ref (hz_ad w 0)), (2, .ref (hz_ad w 178)), (3, .ref (hz_ad w 193))]) [2, 3, 4, 5, 6] rfl ?_
    exact hz_nameM (hz_some_e h).2.symm kk
  · have hE : M8 193 0 = r4 := by simpa [hc] using hg11
    refine hz_aload_n hO dL_law_565 rfl 6 rfl ?_
    refine hz_iconst (v := (0 : Int32)) hO dL_law_566 (by decide) ?_
    refine hz_lald hO hz_sh_193 (hz_lt_193 hN3) (by decide) dL_law_567 ?_
    refine hz_iload hO dL_law_568 0 rfl ?_
    refine hz_i2l hO dL_law_570 ?_
    refine hz_lcmp hO dL_law_571 ?_
    refine hz_name (y := 0) (by rw [show (0 : Int32).toNatClampNeg = 0 from rfl, hE]; exact hz_lcmp0.symm) ?_
    refine hz_if_eq (tgt := 577) hO dL_law_572 (by decide) (fun _ => ?_) (fun hc => absurd rfl hc)
    refine hz_goto (tgt := 2158) hO dL_law_577 (by decide) ?_
    refine hz_ls (ls1 := [(4, .int (nI n)), (0, .ref b), (1, .ref (hz_ad w 0)), (2, .ref (hz_ad w 178)), (3, .ref (hz_ad w 193))]) [2, 3, 4, 5, 6] rfl ?_
    exact hz_nameM (hz_some_e h).2.symm kk
def fs_8 (a1 : Int32) (M : hz_M) : hz_O :=
  hz_ct (f_L_locker a1 M) fun r1 M2 =>
  hz_ct (f_X11_locker a1 M2) fun r4 M5 =>
  hz_ct (f_X11_thrown M5) fun r7 M8 =>
  hz_gd (r7 == r1) <|
  hz_gd (!(r1 == 0) || M8 193 0 == r4) <|
  some (0, M8)
set_option maxRecDepth 100000 in
set_option maxHeartbeats 4000000 in
theorem gs_8 {p : Program} {l : Launch} {e : Env} {s : State} {m : MethodId} {args : Array Value} {below : List Frame} {meth : Method} {c : Code} {w : hz_C} (hl : l.stackTraces = false) (hO : hz_Ok p s m args meth c w cL_law 9 "HotStepsLaw" (some .boolean)) {b L : Nat} {xs : Nat → Int32} (hT : va_T .int b L (fun j => .int (xs j)) (hz_A w) s s.heap) (hL : L ≤ 3072) {n : Nat} (hn : n + 6 ≤ L) {z : hz_Z} (hz : z.2.1 + 1 ≤ z.1.1 ∧ z.2.2 + 6 ≤ z.1.2) {Q : State → Prop} {M ME : hz_M} {rE : Int32} (h : fs_8 (xs (n + 1)) M = some (rE, ME)) (kk : hz_G p l e 1400 (hz_zn z 1 6) s m args below meth c w 194 9 Q ME 2158 [(4, .int (nI n)), (0, .ref b), (1, .ref (hz_ad w 0)), (2, .ref (hz_ad w 178)), (3, .ref (hz_ad w 193))] []) : hz_G p l e 1400 z s m args below meth c w 194 9 Q M 580 [(4, .int (nI n)), (0, .ref b), (1, .ref (hz_ad w 0)), (2, .ref (hz_ad w 178)), (3, .ref (hz_ad w 193))] [] := by
  have hN1 : 178 ≤ 194 := (Nat.le_of_ble_eq_true rfl)
  have hN2 : 193 ≤ 194 := (Nat.le_of_ble_eq_true rfl)
  have hN3 : 194 ≤ 194 := Nat.le_refl _
  unfold fs_8 at h
  refine hz_aload_n hO dL_law_580 rfl 2 rfl ?_
  refine hz_aload_n hO dL_law_581 rfl 1 rfl ?_
  refine hz_iload hO dL_law_582 0 rfl ?_
  refine hz_iconst (v := (1 : Int32)) hO dL_law_584 (by decide) ?_
  refine hz_iadd hO dL_law_585 ?_
  refine hz_name (y := nI (n + 1)) (nI_add n 1).symm ?_
  refine hz_scr hO hT hL (n := n + 1) (by omega) dL_law_586 ?_
  refine hz_aload_n hO dL_law_587 rfl 4 rfl ?_
  obtain ⟨r1, M2, hq3, h⟩ := hz_ct_e h
  refine hz_callW (n := 3) (as := [.ref (hz_ad w 0), .int (xs (n + 1)), .ref (hz_ad w 193)]) (rest := []) hO (c_L_locker l hl w hN3 (xs (n + 1)) hq3) hz_cal_L_locker tw_5_139 tw_5_140 tw_1_0 ⟨by decide, by decide, by decide +kernel⟩ (Nat.le_of_ble_eq_true rfl) (Nat.le_of_ble_eq_true rfl) rfl rfl (Nat.le_of_ble_eq_true rfl) hz dL_law_588 ?_
  refine hz_istore (ls1 := [(5, .int r1), (4, .int (nI n)), (0, .ref b), (1, .ref (hz_ad w 0)), (2, .ref (hz_ad w 178)), (3, .ref (hz_ad w 193))]) hO dL_law_591 (Nat.le_of_ble_eq_true rfl) rfl ?_
  refine hz_aload_n hO dL_law_593 rfl 4 rfl ?_
  refine hz_aload_n hO dL_law_594 rfl 2 rfl ?_
  refine hz_iload hO dL_law_595 1 rfl ?_
  refine hz_iconst (v := (1 : Int32)) hO dL_law_597 (by decide) ?_
  refine hz_iadd hO dL_law_598 ?_
  refine hz_name (y := nI (n + 1)) (nI_add n 1).symm ?_
  refine hz_scr hO hT hL (n := n + 1) (by omega) dL_law_599 ?_
  obtain ⟨r4, M5, hq6, h⟩ := hz_ct_e h
  refine hz_callVi (as := [.int (xs (n + 1))]) (rest := []) hO (c_X11_locker l w hN2 (xs (n + 1)) hq6) hz_cal_X11_locker hz_K_9 hz_sh_178 (hz_lt_178 hN2) tw_8_118 (Nat.le_of_ble_eq_true rfl) rfl rfl (Nat.le_of_ble_eq_true rfl) dL_law_600 ?_
  refine hz_istore (ls1 := [(6, .int r4), (5, .int r1), (4, .int (nI n)), (0, .ref b), (1, .ref (hz_ad w 0)), (2, .ref (hz_ad w 178)), (3, .ref (hz_ad w 193))]) hO dL_law_603 (Nat.le_of_ble_eq_true rfl) rfl ?_
  refine hz_aload_n hO dL_law_605 rfl 5 rfl ?_
  obtain ⟨r7, M8, hq9, h⟩ := hz_ct_e h
  refine hz_callVi (as := []) (rest := []) hO (c_X11_thrown l w hN2 hq9) hz_cal_X11_thrown hz_K_9 hz_sh_178 (hz_lt_178 hN2) tw_7_74 (Nat.le_of_ble_eq_true rfl) rfl rfl (Nat.le_of_ble_eq_true rfl) dL_law_606 ?_
  refine hz_iload hO dL_law_609 1 rfl ?_
  obtain ⟨hg10, h⟩ := hz_gd_e h
  refine hz_icmp_eq (tgt := 616) hO dL_law_611 (by decide) (fun _ => ?_) (fun hc => absurd (eq_of_beq hg10) hc)
  refine hz_iload hO dL_law_616 1 rfl ?_
  obtain ⟨hg11, h⟩ := hz_gd_e h
  refine hz_if_ne (tgt := 633) hO dL_law_618 (by decide) (fun _ => ?_) (fun hc => ?_)
  · refine hz_goto (tgt := 2158) hO dL_law_633 (by decide) ?_
    refine hz_ls (ls1 := [(4, .int (nI n)), (0, .ref b), (1, .ref (hz_ad w 0)), (2, .ref (hz_ad w 178)), (3, .ref (hz_ad w 193))]) [2, 3, 4, 5, 6] rfl ?_
    exact hz_nameM (hz_some_e h).2.symm kk
  · have hE : M8 193 0 = r4 := by simpa [hc] using hg11
    refine hz_aload_n hO dL_law_621 rfl 6 rfl ?_
    refine hz_iconst (v := (0 : Int32)) hO dL_law_622 (by decide) ?_
    refine hz_lald hO hz_sh_193 (hz_lt_193 hN3) (by decide) dL_law_623 ?_
    refine hz_iload hO dL_law_624 0 rfl ?_
    refine hz_i2l hO dL_law_626 ?_
    refine hz_lcmp hO dL_law_627 ?_
    refine hz_name (y := 0) (by rw [show (0 : Int32).toNatClampNeg = 0 from rfl, hE]; exact hz_lcmp0.symm) ?_
    refine hz_if_eq (tgt := 633) hO dL_law_628 (by decide) (fun _ => ?_) (fun hc => absurd rfl hc)
    refine hz_goto (tgt := 2158) hO dL_law_633 (by decide) ?_
    refine hz_ls (ls1 := [(4, .int (nI n)), (0, .ref b), (1, .ref (hz_ad w 0)), (2, .ref (hz_ad w 178)), (3, .ref (hz_ad w 193))]) [2, 3, 4, 5, 6] rfl ?_
    exact hz_nameM (hz_some_e h).2.symm kk
def fs_9 (a1 : Int32) (M : hz_M) : hz_O :=
  hz_ct (f_L_opening a1 M) fun r1 M2 =>
  hz_ct (f_X11_opening a1 M2) fun r4 M5 =>
  hz_ct (f_X11_thrown M5) fun r7 M8 =>
  hz_gd (r7 == r1) <|
  hz_gd (!(r1 == 0) || M8 193 0 == r4) <|
  some (0, M8)
set_option maxRecDepth 100000 in
set_option maxHeartbeats 4000000 in
theorem gs_9 {p : Program} {l : Launch} {e : Env} {s : State} {m : MethodId} {args : Array Value} {below : List Frame} {meth : Method} {c : Code} {w : hz_C} (hl : l.stackTraces = false) (hO : hz_Ok p s m args meth c w cL_law 9 "HotStepsLaw" (some .boolean)) {b L : Nat} {xs : Nat → Int32} (hT : va_T .int b L (fun j => .int (xs j)) (hz_A w) s s.heap) (hL : L ≤ 3072) {n : Nat} (hn : n + 6 ≤ L) {z : hz_Z} (hz : z.2.1 + 1 ≤ z.1.1 ∧ z.2.2 + 6 ≤ z.1.2) {Q : State → Prop} {M ME : hz_M} {rE : Int32} (h : fs_9 (xs (n + 1)) M = some (rE, ME)) (kk : hz_G p l e 1400 (hz_zn z 1 6) s m args below meth c w 194 9 Q ME 2158 [(4, .int (nI n)), (0, .ref b), (1, .ref (hz_ad w 0)), (2, .ref (hz_ad w 178)), (3, .ref (hz_ad w 193))] []) : hz_G p l e 1400 z s m args below meth c w 194 9 Q M 636 [(4, .int (nI n)), (0, .ref b), (1, .ref (hz_ad w 0)), (2, .ref (hz_ad w 178)), (3, .ref (hz_ad w 193))] [] := by
  have hN1 : 178 ≤ 194 := (Nat.le_of_ble_eq_true rfl)
  have hN2 : 193 ≤ 194 := (Nat.le_of_ble_eq_true rfl)
  have hN3 : 194 ≤ 194 := Nat.le_refl _
  unfold fs_9 at h
  refine hz_aload_n hO dL_law_636 rfl 2 rfl ?_
  refine hz_aload_n hO dL_law_637 rfl 1 rfl ?_
  refine hz_iload hO dL_law_638 0 rfl ?_
  refine hz_iconst (v := (1 : Int32)) hO dL_law_640 (by decide) ?_
  refine hz_iadd hO dL_law_641 ?_
  refine hz_name (y := nI (n + 1)) (nI_add n 1).symm ?_
  refine hz_scr hO hT hL (n := n + 1) (by omega) dL_law_642 ?_
  refine hz_aload_n hO dL_law_643 rfl 4 rfl ?_
  obtain ⟨r1, M2, hq3, h⟩ := hz_ct_e h
  refine hz_callW (n := 3) (as := [.ref (hz_ad w 0), .int (xs (n + 1)), .ref (hz_ad w 193)]) (rest := []) hO (c_L_opening l hl w hN3 (xs (n + 1)) hq3) hz_cal_L_opening tw_5_147 tw_5_148 tw_1_0 ⟨by decide, by decide, by decide +kernel⟩ (Nat.le_of_ble_eq_true rfl) (Nat.le_of_ble_eq_true rfl) rfl rfl (Nat.le_of_ble_eq_true rfl) hz dL_law_644 ?_
  refine hz_istore (ls1 := [(5, .int r1), (4, .int (nI n)), (0, .ref b), (1, .ref (hz_ad w 0)), (2, .ref (hz_ad w 178)), (3, .ref (hz_ad w 193))]) hO dL_law_647 (Nat.le_of_ble_eq_true rfl) rfl ?_
  refine hz_aload_n hO dL_law_649 rfl 4 rfl ?_
  refine hz_aload_n hO dL_law_650 rfl 2 rfl ?_
  refine hz_iload hO dL_law_651 1 rfl ?_
  refine hz_iconst (v := (1 : Int32)) hO dL_law_653 (by decide) ?_
  refine hz_iadd hO dL_law_654 ?_
  refine hz_name (y := nI (n + 1)) (nI_add n 1).symm ?_
  refine hz_scr hO hT hL (n := n + 1) (by omega) dL_law_655 ?_
  obtain ⟨r4, M5, hq6, h⟩ := hz_ct_e h
  refine hz_callVi (as := [.int (xs (n + 1))]) (rest := []) hO (c_X11_opening l w hN2 (xs (n + 1)) hq6) hz_cal_X11_opening hz_K_9 hz_sh_178 (hz_lt_178 hN2) tw_8_122 (Nat.le_of_ble_eq_true rfl) rfl rfl (Nat.le_of_ble_eq_true rfl) dL_law_656 ?_
  refine hz_istore (ls1 := [(6, .int r4), (5, .int r1), (4, .int (nI n)), (0, .ref b), (1, .ref (hz_ad w 0)), (2, .ref (hz_ad w 178)), (3, .ref (hz_ad w 193))]) hO dL_law_659 (Nat.le_of_ble_eq_true rfl) rfl ?_
  refine hz_aload_n hO dL_law_661 rfl 5 rfl ?_
  obtain ⟨r7, M8, hq9, h⟩ := hz_ct_e h
  refine hz_callVi (as := []) (rest := []) hO (c_X11_thrown l w hN2 hq9) hz_cal_X11_thrown hz_K_9 hz_sh_178 (hz_lt_178 hN2) tw_7_74 (Nat.le_of_ble_eq_true rfl) rfl rfl (Nat.le_of_ble_eq_true rfl) dL_law_662 ?_
  refine hz_iload hO dL_law_665 1 rfl ?_
  obtain ⟨hg10, h⟩ := hz_gd_e h
  refine hz_icmp_eq (tgt := 672) hO dL_law_667 (by decide) (fun _ => ?_) (fun hc => absurd (eq_of_beq hg10) hc)
  refine hz_iload hO dL_law_672 1 rfl ?_
  obtain ⟨hg11, h⟩ := hz_gd_e h
  refine hz_if_ne (tgt := 689) hO dL_law_674 (by decide) (fun _ => ?_) (fun hc => ?_)
  · refine hz_goto (tgt := 2158) hO dL_law_689 (by decide) ?_
    refine hz_ls (ls1 := [(4, .int (nI n)), (0, .ref b), (1, .ref (hz_ad w 0)), (2, .ref (hz_ad w 178)), (3, .ref (hz_ad w 193))]) [2, 3, 4, 5, 6] rfl ?_
    exact hz_nameM (hz_some_e h).2.symm kk
  · have hE : M8 193 0 = r4 := by simpa [hc] using hg11
    refine hz_aload_n hO dL_law_677 rfl 6 rfl ?_
    refine hz_iconst (v := (0 : Int32)) hO dL_law_678 (by decide) ?_
    refine hz_lald hO hz_sh_193 (hz_lt_193 hN3) (by decide) dL_law_679 ?_
    refine hz_iload hO dL_law_680 0 rfl ?_
    refine hz_i2l hO dL_law_682 ?_
    refine hz_lcmp hO dL_law_683 ?_
    refine hz_name (y := 0) (by rw [show (0 : Int32).toNatClampNeg = 0 from rfl, hE]; exact hz_lcmp0.symm) ?_
    refine hz_if_eq (tgt := 689) hO dL_law_684 (by decide) (fun _ => ?_) (fun hc => absurd rfl hc)
    refine hz_goto (tgt := 2158) hO dL_law_689 (by decide) ?_
    refine hz_ls (ls1 := [(4, .int (nI n)), (0, .ref b), (1, .ref (hz_ad w 0)), (2, .ref (hz_ad w 178)), (3, .ref (hz_ad w 193))]) [2, 3, 4, 5, 6] rfl ?_
    exact hz_nameM (hz_some_e h).2.symm kk
def fs_10 (a1 : Int32) (a2 : Int32) (M : hz_M) : hz_O :=
  hz_ct (f_L_step a1 a2 M) fun r1 M2 =>
  hz_ct (f_X11_step a1 a2 M2) fun r4 M5 =>
  hz_ct (f_X11_thrown M5) fun r7 M8 =>
  hz_gd (r7 == r1) <|
  hz_gd (!(r1 == 0) || M8 193 0 == r4) <|
  some (0, M8)
set_option maxRecDepth 100000 in
set_option maxHeartbeats 4000000 in
theorem gs_10 {p : Program} {l : Launch} {e : Env} {s : State} {m : MethodId} {args : Array Value} {below : List Frame} {meth : Method} {c : Code} {w : hz_C} (hl : l.stackTraces = false) (hO : hz_Ok p s m args meth c w cL_law 9 "HotStepsLaw" (some .boolean)) {b L : Nat} {xs : Nat → Int32} (hT : va_T .int b L (fun j => .int (xs j)) (hz_A w) s s.heap) (hL : L ≤ 3072) {n : Nat} (hn : n + 6 ≤ L) {z : hz_Z} (hz : z.2.1 + 1 ≤ z.1.1 ∧ z.2.2 + 6 ≤ z.1.2) {Q : State → Prop} {M ME : hz_M} {rE : Int32} (h : fs_10 (xs (n + 1)) (xs (n + 2)) M = some (rE, ME)) (kk : hz_G p l e 1400 (hz_zn z 1 6) s m args below meth c w 194 9 Q ME 2158 [(4, .int (nI n)), (0, .ref b), (1, .ref (hz_ad w 0)), (2, .ref (hz_ad w 178)), (3, .ref (hz_ad w 193))] []) : hz_G p l e 1400 z s m args below meth c w 194 9 Q M 692 [(4, .int (nI n)), (0, .ref b), (1, .ref (hz_ad w 0)), (2, .ref (hz_ad w 178)), (3, .ref (hz_ad w 193))] [] := by
  have hN1 : 178 ≤ 194 := (Nat.le_of_ble_eq_true rfl)
  have hN2 : 193 ≤ 194 := (Nat.le_of_ble_eq_true rfl)
  have hN3 : 194 ≤ 194 := Nat.le_refl _
  unfold fs_10 at h
  refine hz_aload_n hO dL_law_692 rfl 2 rfl ?_
  refine hz_aload_n hO dL_law_693 rfl 1 rfl ?_
  refine hz_iload hO dL_law_694 0 rfl ?_
  refine hz_iconst (v := (1 : Int32)) hO dL_law_696 (by decide) ?_
  refine hz_iadd hO dL_law_697 ?_
  refine hz_name (y := nI (n + 1)) (nI_add n 1).symm ?_
  refine hz_scr hO hT hL (n := n + 1) (by omega) dL_law_698 ?_
  refine hz_aload_n hO dL_law_699 rfl 1 rfl ?_
  refine hz_iload hO dL_law_700 0 rfl ?_
  refine hz_iconst (v := (2 : Int32)) hO dL_law_702 (by decide) ?_
  refine hz_iadd hO dL_law_703 ?_
  refine hz_name (y := nI (n + 2)) (nI_add n 2).symm ?_
  refine hz_scr hO hT hL (n := n + 2) (by omega) dL_law_704 ?_
  refine hz_aload_n hO dL_law_705 rfl 4 rfl ?_
  obtain ⟨r1, M2, hq3, h⟩ := hz_ct_e h
  refine hz_callW (n := 4) (as := [.ref (hz_ad w 0), .int (xs (n + 1)), .int (xs (n + 2)), .ref (hz_ad w 193)]) (rest := []) hO (c_L_step l hl w hN3 (xs (n + 1)) (xs (n + 2)) hq3) hz_cal_L_step tw_5_155 tw_5_156 tw_1_0 ⟨by decide, by decide, by decide +kernel⟩ (Nat.le_of_ble_eq_true rfl) (Nat.le_of_ble_eq_true rfl) rfl rfl (Nat.le_of_ble_eq_true rfl) hz dL_law_706 ?_
  refine hz_istore (ls1 := [(5, .int r1), (4, .int (nI n)), (0, .ref b), (1, .ref (hz_ad w 0)), (2, .ref (hz_ad w 178)), (3, .ref (hz_ad w 193))]) hO dL_law_709 (Nat.le_of_ble_eq_true rfl) rfl ?_
  refine hz_aload_n hO dL_law_711 rfl 4 rfl ?_
  refine hz_aload_n hO dL_law_712 rfl 2 rfl ?_
  refine hz_iload hO dL_law_713 1 rfl ?_
  refine hz_iconst (v := (1 : Int32)) hO dL_law_715 (by decide) ?_
  refine hz_iadd hO dL_law_716 ?_
  refine hz_name (y := nI (n + 1)) (nI_add n 1).symm ?_
  refine hz_scr hO hT hL (n := n + 1) (by omega) dL_law_717 ?_
  refine hz_aload_n hO dL_law_718 rfl 2 rfl ?_
  refine hz_iload hO dL_law_719 1 rfl ?_
  refine hz_iconst (v := (2 : Int32)) hO dL_law_721 (by decide) ?_
  refine hz_iadd hO dL_law_722 ?_
  refine hz_name (y := nI (n + 2)) (nI_add n 2).symm ?_
  refine hz_scr hO hT hL (n := n + 2) (by omega) dL_law_723 ?_
  obtain ⟨r4, M5, hq6, h⟩ := hz_ct_e h
  refine hz_callVi (as := [.int (xs (n + 1)), .int (xs (n + 2))]) (rest := []) hO (c_X11_step l w hN2 (xs (n + 1)) (xs (n + 2)) hq6) hz_cal_X11_step hz_K_9 hz_sh_178 (hz_lt_178 hN2) tw_8_126 (Nat.le_of_ble_eq_true rfl) rfl rfl (Nat.le_of_ble_eq_true rfl) dL_law_724 ?_
  refine hz_istore (ls1 := [(6, .int r4), (5, .int r1), (4, .int (nI n)), (0, .ref b), (1, .ref (hz_ad w 0)), (2, .ref (hz_ad w 178)), (3, .ref (hz_ad w 193))]) hO dL_law_727 (Nat.le_of_ble_eq_true rfl) rfl ?_
  refine hz_aload_n hO dL_law_729 rfl 5 rfl ?_
  obtain ⟨r7, M8, hq9, h⟩ := hz_ct_e h
  refine hz_callVi (as := []) (rest := []) hO (c_X11_thrown l w hN2 hq9) hz_cal_X11_thrown hz_K_9 hz_sh_178 (hz_lt_178 hN2) tw_7_74 (Nat.le_of_ble_eq_true rfl) rfl rfl (Nat.le_of_ble_eq_true rfl) dL_law_730 ?_
  refine hz_iload hO dL_law_733 1 rfl ?_
  obtain ⟨hg10, h⟩ := hz_gd_e h
  refine hz_icmp_eq (tgt := 740) hO dL_law_735 (by decide) (fun _ => ?_) (fun hc => absurd (eq_of_beq hg10) hc)
  refine hz_iload hO dL_law_740 1 rfl ?_
  obtain ⟨hg11, h⟩ := hz_gd_e h
  refine hz_if_ne (tgt := 757) hO dL_law_742 (by decide) (fun _ => ?_) (fun hc => ?_)
  · refine hz_goto (tgt := 2158) hO dL_law_757 (by decide) ?_
    refine hz_ls (ls1 := [(4, .int (nI n)), (0, .ref b), (1, .ref (hz_ad w 0)), (2, .ref (hz_ad w 178)), (3, .ref (hz_ad w 193))]) [2, 3, 4, 5, 6] rfl ?_
    exact hz_nameM (hz_some_e h).2.symm kk
  · have hE : M8 193 0 = r4 := by simpa [hc] using hg11
    refine hz_aload_n hO dL_law_745 rfl 6 rfl ?_
    refine hz_iconst (v := (0 : Int32)) hO dL_law_746 (by decide) ?_
    refine hz_lald hO hz_sh_193 (hz_lt_193 hN3) (by decide) dL_law_747 ?_
    refine hz_iload hO dL_law_748 0 rfl ?_
    refine hz_i2l hO dL_law_750 ?_
    refine hz_lcmp hO dL_law_751 ?_
    refine hz_name (y := 0) (by rw [show (0 : Int32).toNatClampNeg = 0 from rfl, hE]; exact hz_lcmp0.symm) ?_
    refine hz_if_eq (tgt := 757) hO dL_law_752 (by decide) (fun _ => ?_) (fun hc => absurd rfl hc)
    refine hz_goto (tgt := 2158) hO dL_law_757 (by decide) ?_
    refine hz_ls (ls1 := [(4, .int (nI n)), (0, .ref b), (1, .ref (hz_ad w 0)), (2, .ref (hz_ad w 178)), (3, .ref (hz_ad w 193))]) [2, 3, 4, 5, 6] rfl ?_
    exact hz_nameM (hz_some_e h).2.symm kk
def fs_11 (M : hz_M) : hz_O :=
  hz_ct (f_X10_driest M) fun r1 M2 =>
  hz_ct (f_X11_driest M2) fun r4 M5 =>
  hz_gd (r1 == r4) <|
  some (0, M5)
set_option maxRecDepth 100000 in
set_option maxHeartbeats 4000000 in
theorem gs_11 {p : Program} {l : Launch} {e : Env} {s : State} {m : MethodId} {args : Array Value} {below : List Frame} {meth : Method} {c : Code} {w : hz_C} (hl : l.stackTraces = false) (hO : hz_Ok p s m args meth c w cL_law 9 "HotStepsLaw" (some .boolean)) {b L : Nat} {xs : Nat → Int32} (hT : va_T .int b L (fun j => .int (xs j)) (hz_A w) s s.heap) (hL : L ≤ 3072) {n : Nat} (hn : n + 6 ≤ L) {z : hz_Z} (hz : z.2.1 + 1 ≤ z.1.1 ∧ z.2.2 + 6 ≤ z.1.2) {Q : State → Prop} {M ME : hz_M} {rE : Int32} (h : fs_11 M = some (rE, ME)) (kk : hz_G p l e 1400 (hz_zn z 1 6) s m args below meth c w 194 9 Q ME 2158 [(4, .int (nI n)), (0, .ref b), (1, .ref (hz_ad w 0)), (2, .ref (hz_ad w 178)), (3, .ref (hz_ad w 193))] []) : hz_G p l e 1400 z s m args below meth c w 194 9 Q M 760 [(4, .int (nI n)), (0, .ref b), (1, .ref (hz_ad w 0)), (2, .ref (hz_ad w 178)), (3, .ref (hz_ad w 193))] [] := by
  have hN1 : 178 ≤ 194 := (Nat.le_of_ble_eq_true rfl)
  have hN2 : 193 ≤ 194 := (Nat.le_of_ble_eq_true rfl)
  have hN3 : 194 ≤ 194 := Nat.le_refl _
  unfold fs_11 at h
  refine hz_aload_n hO dL_law_760 rfl 2 rfl ?_
  obtain ⟨r1, M2, hq3, h⟩ := hz_ct_e h
  refine hz_callVi (as := []) (rest := []) hO (c_X10_driest l w hN1 hq3) hz_cal_X10_driest hz_K_8 hz_sh_0 (hz_lt_0 hN1) tw_4_138 (Nat.le_of_ble_eq_true rfl) rfl rfl (Nat.le_of_ble_eq_true rfl) dL_law_761 ?_
  refine hz_aload_n hO dL_law_764 rfl 3 rfl ?_
  obtain ⟨r4, M5, hq6, h⟩ := hz_ct_e h
  refine hz_callVi (as := []) (rest := [.int r1]) hO (c_X11_driest l w hN2 hq6) hz_cal_X11_driest hz_K_9 hz_sh_178 (hz_lt_178 hN2) tw_8_138 (Nat.le_of_ble_eq_true rfl) rfl rfl (Nat.le_of_ble_eq_true rfl) dL_law_765 ?_
  obtain ⟨hg7, h⟩ := hz_gd_e h
  refine hz_icmp_eq (tgt := 2158) hO dL_law_768 (by decide) (fun _ => ?_) (fun hc => absurd (eq_of_beq hg7) hc)
  refine hz_upz hz ?_
  exact hz_nameM (hz_some_e h).2.symm kk
def fs_12 (a1 : Int32) (a2 : Int32) (M : hz_M) : hz_O :=
  hz_ct (f_L_letter a1 a2 M) fun r1 M2 =>
  hz_ct (f_X11_letter a1 a2 M2) fun r4 M5 =>
  hz_ct (f_X11_thrown M5) fun r7 M8 =>
  hz_gd (r7 == r1) <|
  hz_gd (!(r1 == 0) || M8 193 0 == r4) <|
  some (0, M8)
set_option maxRecDepth 100000 in
set_option maxHeartbeats 4000000 in
theorem gs_12 {p : Program} {l : Launch} {e : Env} {s : State} {m : MethodId} {args : Array Value} {below : List Frame} {meth : Method} {c : Code} {w : hz_C} (hl : l.stackTraces = false) (hO : hz_Ok p s m args meth c w cL_law 9 "HotStepsLaw" (some .boolean)) {b L : Nat} {xs : Nat → Int32} (hT : va_T .int b L (fun j => .int (xs j)) (hz_A w) s s.heap) (hL : L ≤ 3072) {n : Nat} (hn : n + 6 ≤ L) {z : hz_Z} (hz : z.2.1 + 1 ≤ z.1.1 ∧ z.2.2 + 6 ≤ z.1.2) {Q : State → Prop} {M ME : hz_M} {rE : Int32} (h : fs_12 (xs (n + 1)) (xs (n + 2)) M = some (rE, ME)) (kk : hz_G p l e 1400 (hz_zn z 1 6) s m args below meth c w 194 9 Q ME 2158 [(4, .int (nI n)), (0, .ref b), (1, .ref (hz_ad w 0)), (2, .ref (hz_ad w 178)), (3, .ref (hz_ad w 193))] []) : hz_G p l e 1400 z s m args below meth c w 194 9 Q M 773 [(4, .int (nI n)), (0, .ref b), (1, .ref (hz_ad w 0)), (2, .ref (hz_ad w 178)), (3, .ref (hz_ad w 193))] [] := by
  have hN1 : 178 ≤ 194 := (Nat.le_of_ble_eq_true rfl)
  have hN2 : 193 ≤ 194 := (Nat.le_of_ble_eq_true rfl)
  have hN3 : 194 ≤ 194 := Nat.le_refl _
  unfold fs_12 at h
  refine hz_aload_n hO dL_law_773 rfl 2 rfl ?_
  refine hz_aload_n hO dL_law_774 rfl 1 rfl ?_
  refine hz_iload hO dL_law_775 0 rfl ?_
  refine hz_iconst (v := (1 : Int32)) hO dL_law_777 (by decide) ?_
  refine hz_iadd hO dL_law_778 ?_
  refine hz_name (y := nI (n + 1)) (nI_add n 1).symm ?_
  refine hz_scr hO hT hL (n := n + 1) (by omega) dL_law_779 ?_
  refine hz_aload_n hO dL_law_780 rfl 1 rfl ?_
  refine hz_iload hO dL_law_781 0 rfl ?_
  refine hz_iconst (v := (2 : Int32)) hO dL_law_783 (by decide) ?_
  refine hz_iadd hO dL_law_784 ?_
  refine hz_name (y := nI (n + 2)) (nI_add n 2).symm ?_
  refine hz_scr hO hT hL (n := n + 2) (by omega) dL_law_785 ?_
  refine hz_aload_n hO dL_law_786 rfl 4 rfl ?_
  obtain ⟨r1, M2, hq3, h⟩ := hz_ct_e h
  refine hz_callW (n := 4) (as := [.ref (hz_ad w 0), .int (xs (n + 1)), .int (xs (n + 2)), .ref (hz_ad w 193)]) (rest := []) hO (c_L_letter l hl w hN3 (xs (n + 1)) (xs (n + 2)) hq3) hz_cal_L_letter tw_5_174 tw_5_175 tw_1_0 ⟨by decide, by decide, by decide +kernel⟩ (Nat.le_of_ble_eq_true rfl) (Nat.le_of_ble_eq_true rfl) rfl rfl (Nat.le_of_ble_eq_true rfl) hz dL_law_787 ?_
  refine hz_istore (ls1 := [(5, .int r1), (4, .int (nI n)), (0, .ref b), (1, .ref (hz_ad w 0)), (2, .ref (hz_ad w 178)), (3, .ref (hz_ad w 193))]) hO dL_law_790 (Nat.le_of_ble_eq_true rfl) rfl ?_
  refine hz_aload_n hO dL_law_792 rfl 4 rfl ?_
  refine hz_aload_n hO dL_law_793 rfl 2 rfl ?_
  refine hz_iload hO dL_law_794 1 rfl ?_
  refine hz_iconst (v := (1 : Int32)) hO dL_law_796 (by decide) ?_
  refine hz_iadd hO dL_law_797 ?_
  refine hz_name (y := nI (n + 1)) (nI_add n 1).symm ?_
  refine hz_scr hO hT hL (n := n + 1) (by omega) dL_law_798 ?_
  refine hz_aload_n hO dL_law_799 rfl 2 rfl ?_
  refine hz_iload hO dL_law_800 1 rfl ?_
  refine hz_iconst (v := (2 : Int32)) hO dL_law_802 (by decide) ?_
  refine hz_iadd hO dL_law_803 ?_
  refine hz_name (y := nI (n + 2)) (nI_add n 2).symm ?_
  refine hz_scr hO hT hL (n := n + 2) (by omega) dL_law_804 ?_
  obtain ⟨r4, M5, hq6, h⟩ := hz_ct_e h
  refine hz_callVi (as := [.int (xs (n + 1)), .int (xs (n + 2))]) (rest := []) hO (c_X11_letter l w hN2 (xs (n + 1)) (xs (n + 2)) hq6) hz_cal_X11_letter hz_K_9 hz_sh_178 (hz_lt_178 hN2) tw_8_142 (Nat.le_of_ble_eq_true rfl) rfl rfl (Nat.le_of_ble_eq_true rfl) dL_law_805 ?_
  refine hz_istore (ls1 := [(6, .int r4), (5, .int r1), (4, .int (nI n)), (0, .ref b), (1, .ref (hz_ad w 0)), (2, .ref (hz_ad w 178)), (3, .ref (hz_ad w 193))]) hO dL_law_808 (Nat.le_of_ble_eq_true rfl) rfl ?_
  refine hz_aload_n hO dL_law_810 rfl 5 rfl ?_
  obtain ⟨r7, M8, hq9, h⟩ := hz_ct_e h
  refine hz_callVi (as := []) (rest := []) hO (c_X11_thrown l w hN2 hq9) hz_cal_X11_thrown hz_K_9 hz_sh_178 (hz_lt_178 hN2) tw_7_74 (Nat.le_of_ble_eq_true rfl) rfl rfl (Nat.le_of_ble_eq_true rfl) dL_law_811 ?_
  refine hz_iload hO dL_law_814 1 rfl ?_
  obtain ⟨hg10, h⟩ := hz_gd_e h
  refine hz_icmp_eq (tgt := 821) hO dL_law_816 (by decide) (fun _ => ?_) (fun hc => absurd (eq_of_beq hg10) hc)
  refine hz_iload hO dL_law_821 1 rfl ?_
  obtain ⟨hg11, h⟩ := hz_gd_e h
  refine hz_if_ne (tgt := 838) hO dL_law_823 (by decide) (fun _ => ?_) (fun hc => ?_)
  · refine hz_goto (tgt := 2158) hO dL_law_838 (by decide) ?_
    refine hz_ls (ls1 := [(4, .int (nI n)), (0, .ref b), (1, .ref (hz_ad w 0)), (2, .ref (hz_ad w 178)), (3, .ref (hz_ad w 193))]) [2, 3, 4, 5, 6] rfl ?_
    exact hz_nameM (hz_some_e h).2.symm kk
  · have hE : M8 193 0 = r4 := by simpa [hc] using hg11
    refine hz_aload_n hO dL_law_826 rfl 6 rfl ?_
    refine hz_iconst (v := (0 : Int32)) hO dL_law_827 (by decide) ?_
    refine hz_lald hO hz_sh_193 (hz_lt_193 hN3) (by decide) dL_law_828 ?_
    refine hz_iload hO dL_law_829 0 rfl ?_
    refine hz_i2l hO dL_law_831 ?_
    refine hz_lcmp hO dL_law_832 ?_
    refine hz_name (y := 0) (by rw [show (0 : Int32).toNatClampNeg = 0 from rfl, hE]; exact hz_lcmp0.symm) ?_
    refine hz_if_eq (tgt := 838) hO dL_law_833 (by decide) (fun _ => ?_) (fun hc => absurd rfl hc)
    refine hz_goto (tgt := 2158) hO dL_law_838 (by decide) ?_
    refine hz_ls (ls1 := [(4, .int (nI n)), (0, .ref b), (1, .ref (hz_ad w 0)), (2, .ref (hz_ad w 178)), (3, .ref (hz_ad w 193))]) [2, 3, 4, 5, 6] rfl ?_
    exact hz_nameM (hz_some_e h).2.symm kk
def fs_13 (M : hz_M) : hz_O :=
  hz_ct (f_X10_find M) fun r1 M2 =>
  hz_ct (f_X11_find M2) fun r4 M5 =>
  hz_gd (r1 == r4) <|
  some (0, M5)
set_option maxRecDepth 100000 in
set_option maxHeartbeats 4000000 in
theorem gs_13 {p : Program} {l : Launch} {e : Env} {s : State} {m : MethodId} {args : Array Value} {below : List Frame} {meth : Method} {c : Code} {w : hz_C} (hl : l.stackTraces = false) (hO : hz_Ok p s m args meth c w cL_law 9 "HotStepsLaw" (some .boolean)) {b L : Nat} {xs : Nat → Int32} (hT : va_T .int b L (fun j => .int (xs j)) (hz_A w) s s.heap) (hL : L ≤ 3072) {n : Nat} (hn : n + 6 ≤ L) {z : hz_Z} (hz : z.2.1 + 1 ≤ z.1.1 ∧ z.2.2 + 6 ≤ z.1.2) {Q : State → Prop} {M ME : hz_M} {rE : Int32} (h : fs_13 M = some (rE, ME)) (kk : hz_G p l e 1400 (hz_zn z 1 6) s m args below meth c w 194 9 Q ME 2158 [(4, .int (nI n)), (0, .ref b), (1, .ref (hz_ad w 0)), (2, .ref (hz_ad w 178)), (3, .ref (hz_ad w 193))] []) : hz_G p l e 1400 z s m args below meth c w 194 9 Q M 841 [(4, .int (nI n)), (0, .ref b), (1, .ref (hz_ad w 0)), (2, .ref (hz_ad w 178)), (3, .ref (hz_ad w 193))] [] := by
  have hN1 : 178 ≤ 194 := (Nat.le_of_ble_eq_true rfl)
  have hN2 : 193 ≤ 194 := (Nat.le_of_ble_eq_true rfl)
  have hN3 : 194 ≤ 194 := Nat.le_refl _
  unfold fs_13 at h
  refine hz_aload_n hO dL_law_841 rfl 2 rfl ?_
  obtain ⟨r1, M2, hq3, h⟩ := hz_ct_e h
  refine hz_callVi (as := []) (rest := []) hO (c_X10_find l w hN1 hq3) hz_cal_X10_find hz_K_8 hz_sh_0 (hz_lt_0 hN1) tw_4_143 (Nat.le_of_ble_eq_true rfl) rfl rfl (Nat.le_of_ble_eq_true rfl) dL_law_842 ?_
  refine hz_aload_n hO dL_law_845 rfl 3 rfl ?_
  obtain ⟨r4, M5, hq6, h⟩ := hz_ct_e h
  refine hz_callVi (as := []) (rest := [.int r1]) hO (c_X11_find l w hN2 hq6) hz_cal_X11_find hz_K_9 hz_sh_178 (hz_lt_178 hN2) tw_8_149 (Nat.le_of_ble_eq_true rfl) rfl rfl (Nat.le_of_ble_eq_true rfl) dL_law_846 ?_
  obtain ⟨hg7, h⟩ := hz_gd_e h
  refine hz_icmp_eq (tgt := 2158) hO dL_law_849 (by decide) (fun _ => ?_) (fun hc => absurd (eq_of_beq hg7) hc)
  refine hz_upz hz ?_
  exact hz_nameM (hz_some_e h).2.symm kk
def fs_14 (a1 : Int32) (a2 : Int32) (a3 : Int32) (M : hz_M) : hz_O :=
  hz_ct (f_L_why a1 a2 a3 M) fun r1 M2 =>
  hz_ct (f_X11_why a1 a2 a3 M2) fun r4 M5 =>
  hz_ct (f_X11_thrown M5) fun r7 M8 =>
  hz_gd (r7 == r1) <|
  hz_gd (!(r1 == 0) || M8 193 0 == r4) <|
  some (0, M8)
set_option maxRecDepth 100000 in
set_option maxHeartbeats 4000000 in
theorem gs_14 {p : Program} {l : Launch} {e : Env} {s : State} {m : MethodId} {args : Array Value} {below : List Frame} {meth : Method} {c : Code} {w : hz_C} (hl : l.stackTraces = false) (hO : hz_Ok p s m args meth c w cL_law 9 "HotStepsLaw" (some .boolean)) {b L : Nat} {xs : Nat → Int32} (hT : va_T .int b L (fun j => .int (xs j)) (hz_A w) s s.heap) (hL : L ≤ 3072) {n : Nat} (hn : n + 6 ≤ L) {z : hz_Z} (hz : z.2.1 + 1 ≤ z.1.1 ∧ z.2.2 + 6 ≤ z.1.2) {Q : State → Prop} {M ME : hz_M} {rE : Int32} (h : fs_14 (xs (n + 1)) (xs (n + 2)) (xs (n + 3)) M = some (rE, ME)) (kk : hz_G p l e 1400 (hz_zn z 1 6) s m args below meth c w 194 9 Q ME 2158 [(4, .int (nI n)), (0, .ref b), (1, .ref (hz_ad w 0)), (2, .ref (hz_ad w 178)), (3, .ref (hz_ad w 193))] []) : hz_G p l e 1400 z s m args below meth c w 194 9 Q M 854 [(4, .int (nI n)), (0, .ref b), (1, .ref (hz_ad w 0)), (2, .ref (hz_ad w 178)), (3, .ref (hz_ad w 193))] [] := by
  have hN1 : 178 ≤ 194 := (Nat.le_of_ble_eq_true rfl)
  have hN2 : 193 ≤ 194 := (Nat.le_of_ble_eq_true rfl)
  have hN3 : 194 ≤ 194 := Nat.le_refl _
  unfold fs_14 at h
  refine hz_aload_n hO dL_law_854 rfl 2 rfl ?_
  refine hz_aload_n hO dL_law_855 rfl 1 rfl ?_
  refine hz_iload hO dL_law_856 0 rfl ?_
  refine hz_iconst (v := (1 : Int32)) hO dL_law_858 (by decide) ?_
  refine hz_iadd hO dL_law_859 ?_
  refine hz_name (y := nI (n + 1)) (nI_add n 1).symm ?_
  refine hz_scr hO hT hL (n := n + 1) (by omega) dL_law_860 ?_
  refine hz_aload_n hO dL_law_861 rfl 1 rfl ?_
  refine hz_iload hO dL_law_862 0 rfl ?_
  refine hz_iconst (v := (2 : Int32)) hO dL_law_864 (by decide) ?_
  refine hz_iadd hO dL_law_865 ?_
  refine hz_name (y := nI (n + 2)) (nI_add n 2).symm ?_
  refine hz_scr hO hT hL (n := n + 2) (by omega) dL_law_866 ?_
  refine hz_aload_n hO dL_law_867 rfl 1 rfl ?_
  refine hz_iload hO dL_law_868 0 rfl ?_
  refine hz_iconst (v := (3 : Int32)) hO dL_law_870 (by decide) ?_
  refine hz_iadd hO dL_law_871 ?_
  refine hz_name (y := nI (n + 3)) (nI_add n 3).symm ?_
  refine hz_scr hO hT hL (n := n + 3) (by omega) dL_law_872 ?_
  refine hz_aload_n hO dL_law_873 rfl 4 rfl ?_
  obtain ⟨r1, M2, hq3, h⟩ := hz_ct_e h
  refine hz_callW (n := 5) (as := [.ref (hz_ad w 0), .int (xs (n + 1)), .int (xs (n + 2)), .int (xs (n + 3)), .ref (hz_ad w 193)]) (rest := []) hO (c_L_why l hl w hN3 (xs (n + 1)) (xs (n + 2)) (xs (n + 3)) hq3) hz_cal_L_why tw_5_182 tw_5_183 tw_1_0 ⟨by decide, by decide, by decide +kernel⟩ (Nat.le_of_ble_eq_true rfl) (Nat.le_of_ble_eq_true rfl) rfl rfl (Nat.le_of_ble_eq_true rfl) hz dL_law_874 ?_
  refine hz_istore (ls1 := [(5, .int r1), (4, .int (nI n)), (0, .ref b), (1, .ref (hz_ad w 0)), (2, .ref (hz_ad w 178)), (3, .ref (hz_ad w 193))]) hO dL_law_877 (Nat.le_of_ble_eq_true rfl) rfl ?_
  refine hz_aload_n hO dL_law_879 rfl 4 rfl ?_
  refine hz_aload_n hO dL_law_880 rfl 2 rfl ?_
  refine hz_iload hO dL_law_881 1 rfl ?_
  refine hz_iconst (v := (1 : Int32)) hO dL_law_883 (by decide) ?_
  refine hz_iadd hO dL_law_884 ?_
  refine hz_name (y := nI (n + 1)) (nI_add n 1).symm ?_
  refine hz_scr hO hT hL (n := n + 1) (by omega) dL_law_885 ?_
  refine hz_aload_n hO dL_law_886 rfl 2 rfl ?_
  refine hz_iload hO dL_law_887 1 rfl ?_
  refine hz_iconst (v := (2 : Int32)) hO dL_law_889 (by decide) ?_
  refine hz_iadd hO dL_law_890 ?_
  refine hz_name (y := nI (n + 2)) (nI_add n 2).symm ?_
  refine hz_scr hO hT hL (n := n + 2) (by omega) dL_law_891 ?_
  refine hz_aload_n hO dL_law_892 rfl 2 rfl ?_
  refine hz_iload hO dL_law_893 1 rfl ?_
  refine hz_iconst (v := (3 : Int32)) hO dL_law_895 (by decide) ?_
  refine hz_iadd hO dL_law_896 ?_
  refine hz_name (y := nI (n + 3)) (nI_add n 3).symm ?_
  refine hz_scr hO hT hL (n := n + 3) (by omega) dL_law_897 ?_
  obtain ⟨r4, M5, hq6, h⟩ := hz_ct_e h
  refine hz_callVi (as := [.int (xs (n + 1)), .int (xs (n + 2)), .int (xs (n + 3))]) (rest := []) hO (c_X11_why l w hN2 (xs (n + 1)) (xs (n + 2)) (xs (n + 3)) hq6) hz_cal_X11_why hz_K_9 hz_sh_178 (hz_lt_178 hN2) tw_8_153 (Nat.le_of_ble_eq_true rfl) rfl rfl (Nat.le_of_ble_eq_true rfl) dL_law_898 ?_
  refine hz_istore (ls1 := [(6, .int r4), (5, .int r1), (4, .int (nI n)), (0, .ref b), (1, .ref (hz_ad w 0)), (2, .ref (hz_ad w 178)), (3, .ref (hz_ad w 193))]) hO dL_law_901 (Nat.le_of_ble_eq_true rfl) rfl ?_
  refine hz_aload_n hO dL_law_903 rfl 5 rfl ?_
  obtain ⟨r7, M8, hq9, h⟩ := hz_ct_e h
  refine hz_callVi (as := []) (rest := []) hO (c_X11_thrown l w hN2 hq9) hz_cal_X11_thrown hz_K_9 hz_sh_178 (hz_lt_178 hN2) tw_7_74 (Nat.le_of_ble_eq_true rfl) rfl rfl (Nat.le_of_ble_eq_true rfl) dL_law_904 ?_
  refine hz_iload hO dL_law_907 1 rfl ?_
  obtain ⟨hg10, h⟩ := hz_gd_e h
  refine hz_icmp_eq (tgt := 914) hO dL_law_909 (by decide) (fun _ => ?_) (fun hc => absurd (eq_of_beq hg10) hc)
  refine hz_iload hO dL_law_914 1 rfl ?_
  obtain ⟨hg11, h⟩ := hz_gd_e h
  refine hz_if_ne (tgt := 931) hO dL_law_916 (by decide) (fun _ => ?_) (fun hc => ?_)
  · refine hz_goto (tgt := 2158) hO dL_law_931 (by decide) ?_
    refine hz_ls (ls1 := [(4, .int (nI n)), (0, .ref b), (1, .ref (hz_ad w 0)), (2, .ref (hz_ad w 178)), (3, .ref (hz_ad w 193))]) [2, 3, 4, 5, 6] rfl ?_
    exact hz_nameM (hz_some_e h).2.symm kk
  · have hE : M8 193 0 = r4 := by simpa [hc] using hg11
    refine hz_aload_n hO dL_law_919 rfl 6 rfl ?_
    refine hz_iconst (v := (0 : Int32)) hO dL_law_920 (by decide) ?_
    refine hz_lald hO hz_sh_193 (hz_lt_193 hN3) (by decide) dL_law_921 ?_
    refine hz_iload hO dL_law_922 0 rfl ?_
    refine hz_i2l hO dL_law_924 ?_
    refine hz_lcmp hO dL_law_925 ?_
    refine hz_name (y := 0) (by rw [show (0 : Int32).toNatClampNeg = 0 from rfl, hE]; exact hz_lcmp0.symm) ?_
    refine hz_if_eq (tgt := 931) hO dL_law_926 (by decide) (fun _ => ?_) (fun hc => absurd rfl hc)
    refine hz_goto (tgt := 2158) hO dL_law_931 (by decide) ?_
    refine hz_ls (ls1 := [(4, .int (nI n)), (0, .ref b), (1, .ref (hz_ad w 0)), (2, .ref (hz_ad w 178)), (3, .ref (hz_ad w 193))]) [2, 3, 4, 5, 6] rfl ?_
    exact hz_nameM (hz_some_e h).2.symm kk
def fs_15 (a1 : Int32) (M : hz_M) : hz_O :=
  hz_ct (f_L_highest a1 M) fun r1 M2 =>
  hz_ct (f_X11_highest a1 M2) fun r4 M5 =>
  hz_ct (f_X11_thrown M5) fun r7 M8 =>
  hz_gd (r7 == r1) <|
  hz_gd (!(r1 == 0) || M8 193 0 == r4) <|
  some (0, M8)
set_option maxRecDepth 100000 in
set_option maxHeartbeats 4000000 in
theorem gs_15 {p : Program} {l : Launch} {e : Env} {s : State} {m : MethodId} {args : Array Value} {below : List Frame} {meth : Method} {c : Code} {w : hz_C} (hl : l.stackTraces = false) (hO : hz_Ok p s m args meth c w cL_law 9 "HotStepsLaw" (some .boolean)) {b L : Nat} {xs : Nat → Int32} (hT : va_T .int b L (fun j => .int (xs j)) (hz_A w) s s.heap) (hL : L ≤ 3072) {n : Nat} (hn : n + 6 ≤ L) {z : hz_Z} (hz : z.2.1 + 1 ≤ z.1.1 ∧ z.2.2 + 6 ≤ z.1.2) {Q : State → Prop} {M ME : hz_M} {rE : Int32} (h : fs_15 (xs (n + 1)) M = some (rE, ME)) (kk : hz_G p l e 1400 (hz_zn z 1 6) s m args below meth c w 194 9 Q ME 2158 [(4, .int (nI n)), (0, .ref b), (1, .ref (hz_ad w 0)), (2, .ref (hz_ad w 178)), (3, .ref (hz_ad w 193))] []) : hz_G p l e 1400 z s m args below meth c w 194 9 Q M 934 [(4, .int (nI n)), (0, .ref b), (1, .ref (hz_ad w 0)), (2, .ref (hz_ad w 178)), (3, .ref (hz_ad w 193))] [] := by
  have hN1 : 178 ≤ 194 := (Nat.le_of_ble_eq_true rfl)
  have hN2 : 193 ≤ 194 := (Nat.le_of_ble_eq_true rfl)
  have hN3 : 194 ≤ 194 := Nat.le_refl _
  unfold fs_15 at h
  refine hz_aload_n hO dL_law_934 rfl 2 rfl ?_
  refine hz_aload_n hO dL_law_935 rfl 1 rfl ?_
  refine hz_iload hO dL_law_936 0 rfl ?_
  refine hz_iconst (v := (1 : Int32)) hO dL_law_938 (by decide) ?_
  refine hz_iadd hO dL_law_939 ?_
  refine hz_name (y := nI (n + 1)) (nI_add n 1).symm ?_
  refine hz_scr hO hT hL (n := n + 1) (by omega) dL_law_940 ?_
  refine hz_aload_n hO dL_law_941 rfl 4 rfl ?_
  obtain ⟨r1, M2, hq3, h⟩ := hz_ct_e h
  refine hz_callW (n := 3) (as := [.ref (hz_ad w 0), .int (xs (n + 1)), .ref (hz_ad w 193)]) (rest := []) hO (c_L_highest l hl w hN3 (xs (n + 1)) hq3) hz_cal_L_highest tw_5_207 tw_5_208 tw_1_0 ⟨by decide, by decide, by decide +kernel⟩ (Nat.le_of_ble_eq_true rfl) (Nat.le_of_ble_eq_true rfl) rfl rfl (Nat.le_of_ble_eq_true rfl) hz dL_law_942 ?_
  refine hz_istore (ls1 := [(5, .int r1), (4, .int (nI n)), (0, .ref b), (1, .ref (hz_ad w 0)), (2, .ref (hz_ad w 178)), (3, .ref (hz_ad w 193))]) hO dL_law_945 (Nat.le_of_ble_eq_true rfl) rfl ?_
  refine hz_aload_n hO dL_law_947 rfl 4 rfl ?_
  refine hz_aload_n hO dL_law_948 rfl 2 rfl ?_
  refine hz_iload hO dL_law_949 1 rfl ?_
  refine hz_iconst (v := (1 : Int32)) hO dL_law_951 (by decide) ?_
  refine hz_iadd hO dL_law_952 ?_
  refine hz_name (y := nI (n + 1)) (nI_add n 1).symm ?_
  refine hz_scr hO hT hL (n := n + 1) (by omega) dL_law_953 ?_
  obtain ⟨r4, M5, hq6, h⟩ := hz_ct_e h
  refine hz_callVi (as := [.int (xs (n + 1))]) (rest := []) hO (c_X11_highest l w hN2 (xs (n + 1)) hq6) hz_cal_X11_highest hz_K_9 hz_sh_178 (hz_lt_178 hN2) tw_8_173 (Nat.le_of_ble_eq_true rfl) rfl rfl (Nat.le_of_ble_eq_true rfl) dL_law_954 ?_
  refine hz_istore (ls1 := [(6, .int r4), (5, .int r1), (4, .int (nI n)), (0, .ref b), (1, .ref (hz_ad w 0)), (2, .ref (hz_ad w 178)), (3, .ref (hz_ad w 193))]) hO dL_law_957 (Nat.le_of_ble_eq_true rfl) rfl ?_
  refine hz_aload_n hO dL_law_959 rfl 5 rfl ?_
  obtain ⟨r7, M8, hq9, h⟩ := hz_ct_e h
  refine hz_callVi (as := []) (rest := []) hO (c_X11_thrown l w hN2 hq9) hz_cal_X11_thrown hz_K_9 hz_sh_178 (hz_lt_178 hN2) tw_7_74 (Nat.le_of_ble_eq_true rfl) rfl rfl (Nat.le_of_ble_eq_true rfl) dL_law_960 ?_
  refine hz_iload hO dL_law_963 1 rfl ?_
  obtain ⟨hg10, h⟩ := hz_gd_e h
  refine hz_icmp_eq (tgt := 970) hO dL_law_965 (by decide) (fun _ => ?_) (fun hc => absurd (eq_of_beq hg10) hc)
  refine hz_iload hO dL_law_970 1 rfl ?_
  obtain ⟨hg11, h⟩ := hz_gd_e h
  refine hz_if_ne (tgt := 987) hO dL_law_972 (by decide) (fun _ => ?_) (fun hc => ?_)
  · refine hz_goto (tgt := 2158) hO dL_law_987 (by decide) ?_
    refine hz_ls (ls1 := [(4, .int (nI n)), (0, .ref b), (1, .ref (hz_ad w 0)), (2, .ref (hz_ad w 178)), (3, .ref (hz_ad w 193))]) [2, 3, 4, 5, 6] rfl ?_
    exact hz_nameM (hz_some_e h).2.symm kk
  · have hE : M8 193 0 = r4 := by simpa [hc] using hg11
    refine hz_aload_n hO dL_law_975 rfl 6 rfl ?_
    refine hz_iconst (v := (0 : Int32)) hO dL_law_976 (by decide) ?_
    refine hz_lald hO hz_sh_193 (hz_lt_193 hN3) (by decide) dL_law_977 ?_
    refine hz_iload hO dL_law_978 0 rfl ?_
    refine hz_i2l hO dL_law_980 ?_
    refine hz_lcmp hO dL_law_981 ?_
    refine hz_name (y := 0) (by rw [show (0 : Int32).toNatClampNeg = 0 from rfl, hE]; exact hz_lcmp0.symm) ?_
    refine hz_if_eq (tgt := 987) hO dL_law_982 (by decide) (fun _ => ?_) (fun hc => absurd rfl hc)
    refine hz_goto (tgt := 2158) hO dL_law_987 (by decide) ?_
    refine hz_ls (ls1 := [(4, .int (nI n)), (0, .ref b), (1, .ref (hz_ad w 0)), (2, .ref (hz_ad w 178)), (3, .ref (hz_ad w 193))]) [2, 3, 4, 5, 6] rfl ?_
    exact hz_nameM (hz_some_e h).2.symm kk
def fs_16 (a1 : Int32) (M : hz_M) : hz_O :=
  hz_ct (f_L_account a1 M) fun r1 M2 =>
  hz_ct (f_X11_account a1 M2) fun r4 M5 =>
  hz_ct (f_X11_thrown M5) fun r7 M8 =>
  hz_gd (r7 == r1) <|
  hz_gd (!(r1 == 0) || M8 193 0 == r4) <|
  some (0, M8)
set_option maxRecDepth 100000 in
set_option maxHeartbeats 4000000 in
theorem gs_16 {p : Program} {l : Launch} {e : Env} {s : State} {m : MethodId} {args : Array Value} {below : List Frame} {meth : Method} {c : Code} {w : hz_C} (hl : l.stackTraces = false) (hO : hz_Ok p s m args meth c w cL_law 9 "HotStepsLaw" (some .boolean)) {b L : Nat} {xs : Nat → Int32} (hT : va_T .int b L (fun j => .int (xs j)) (hz_A w) s s.heap) (hL : L ≤ 3072) {n : Nat} (hn : n + 6 ≤ L) {z : hz_Z} (hz : z.2.1 + 1 ≤ z.1.1 ∧ z.2.2 + 6 ≤ z.1.2) {Q : State → Prop} {M ME : hz_M} {rE : Int32} (h : fs_16 (xs (n + 1)) M = some (rE, ME)) (kk : hz_G p l e 1400 (hz_zn z 1 6) s m args below meth c w 194 9 Q ME 2158 [(4, .int (nI n)), (0, .ref b), (1, .ref (hz_ad w 0)), (2, .ref (hz_ad w 178)), (3, .ref (hz_ad w 193))] []) : hz_G p l e 1400 z s m args below meth c w 194 9 Q M 990 [(4, .int (nI n)), (0, .ref b), (1, .ref (hz_ad w 0)), (2, .ref (hz_ad w 178)), (3, .ref (hz_ad w 193))] [] := by
  have hN1 : 178 ≤ 194 := (Nat.le_of_ble_eq_true rfl)
  have hN2 : 193 ≤ 194 := (Nat.le_of_ble_eq_true rfl)
  have hN3 : 194 ≤ 194 := Nat.le_refl _
  unfold fs_16 at h
  refine hz_aload_n hO dL_law_990 rfl 2 rfl ?_
  refine hz_aload_n hO dL_law_991 rfl 1 rfl ?_
  refine hz_iload hO dL_law_992 0 rfl ?_
  refine hz_iconst (v := (1 : Int32)) hO dL_law_994 (by decide) ?_
  refine hz_iadd hO dL_law_995 ?_
  refine hz_name (y := nI (n + 1)) (nI_add n 1).symm ?_
  refine hz_scr hO hT hL (n := n + 1) (by omega) dL_law_996 ?_
  refine hz_aload_n hO dL_law_997 rfl 4 rfl ?_
  obtain ⟨r1, M2, hq3, h⟩ := hz_ct_e h
  refine hz_callW (n := 3) (as := [.ref (hz_ad w 0), .int (xs (n + 1)), .ref (hz_ad w 193)]) (rest := []) hO (c_L_account l hl w hN3 (xs (n + 1)) hq3) hz_cal_L_account tw_5_214 tw_5_215 tw_1_0 ⟨by decide, by decide, by decide +kernel⟩ (Nat.le_of_ble_eq_true rfl) (Nat.le_of_ble_eq_true rfl) rfl rfl (Nat.le_of_ble_eq_true rfl) hz dL_law_998 ?_
  refine hz_istore (ls1 := [(5, .int r1), (4, .int (nI n)), (0, .ref b), (1, .ref (hz_ad w 0)), (2, .ref (hz_ad w 178)), (3, .ref (hz_ad w 193))]) hO dL_law_1001 (Nat.le_of_ble_eq_true rfl) rfl ?_
  refine hz_aload_n hO dL_law_1003 rfl 4 rfl ?_
  refine hz_aload_n hO dL_law_1004 rfl 2 rfl ?_
  refine hz_iload hO dL_law_1005 1 rfl ?_
  refine hz_iconst (v := (1 : Int32)) hO dL_law_1007 (by decide) ?_
  refine hz_iadd hO dL_law_1008 ?_
  refine hz_name (y := nI (n + 1)) (nI_add n 1).symm ?_
  refine hz_scr hO hT hL (n := n + 1) (by omega) dL_law_1009 ?_
  obtain ⟨r4, M5, hq6, h⟩ := hz_ct_e h
  refine hz_callVi (as := [.int (xs (n + 1))]) (rest := []) hO (c_X11_account l w hN2 (xs (n + 1)) hq6) hz_cal_X11_account hz_K_9 hz_sh_178 (hz_lt_178 hN2) tw_8_177 (Nat.le_of_ble_eq_true rfl) rfl rfl (Nat.le_of_ble_eq_true rfl) dL_law_1010 ?_
  refine hz_istore (ls1 := [(6, .int r4), (5, .int r1), (4, .int (nI n)), (0, .ref b), (1, .ref (hz_ad w 0)), (2, .ref (hz_ad w 178)), (3, .ref (hz_ad w 193))]) hO dL_law_1013 (Nat.le_of_ble_eq_true rfl) rfl ?_
  refine hz_aload_n hO dL_law_1015 rfl 5 rfl ?_
  obtain ⟨r7, M8, hq9, h⟩ := hz_ct_e h
  refine hz_callVi (as := []) (rest := []) hO (c_X11_thrown l w hN2 hq9) hz_cal_X11_thrown hz_K_9 hz_sh_178 (hz_lt_178 hN2) tw_7_74 (Nat.le_of_ble_eq_true rfl) rfl rfl (Nat.le_of_ble_eq_true rfl) dL_law_1016 ?_
  refine hz_iload hO dL_law_1019 1 rfl ?_
  obtain ⟨hg10, h⟩ := hz_gd_e h
  refine hz_icmp_eq (tgt := 1026) hO dL_law_1021 (by decide) (fun _ => ?_) (fun hc => absurd (eq_of_beq hg10) hc)
  refine hz_iload hO dL_law_1026 1 rfl ?_
  obtain ⟨hg11, h⟩ := hz_gd_e h
  refine hz_if_ne (tgt := 1043) hO dL_law_1028 (by decide) (fun _ => ?_) (fun hc => ?_)
  · refine hz_goto (tgt := 2158) hO dL_law_1043 (by decide) ?_
    refine hz_ls (ls1 := [(4, .int (nI n)), (0, .ref b), (1, .ref (hz_ad w 0)), (2, .ref (hz_ad w 178)), (3, .ref (hz_ad w 193))]) [2, 3, 4, 5, 6] rfl ?_
    exact hz_nameM (hz_some_e h).2.symm kk
  · have hE : M8 193 0 = r4 := by simpa [hc] using hg11
    refine hz_aload_n hO dL_law_1031 rfl 6 rfl ?_
    refine hz_iconst (v := (0 : Int32)) hO dL_law_1032 (by decide) ?_
    refine hz_lald hO hz_sh_193 (hz_lt_193 hN3) (by decide) dL_law_1033 ?_
    refine hz_iload hO dL_law_1034 0 rfl ?_
    refine hz_i2l hO dL_law_1036 ?_
    refine hz_lcmp hO dL_law_1037 ?_
    refine hz_name (y := 0) (by rw [show (0 : Int32).toNatClampNeg = 0 from rfl, hE]; exact hz_lcmp0.symm) ?_
    refine hz_if_eq (tgt := 1043) hO dL_law_1038 (by decide) (fun _ => ?_) (fun hc => absurd rfl hc)
    refine hz_goto (tgt := 2158) hO dL_law_1043 (by decide) ?_
    refine hz_ls (ls1 := [(4, .int (nI n)), (0, .ref b), (1, .ref (hz_ad w 0)), (2, .ref (hz_ad w 178)), (3, .ref (hz_ad w 193))]) [2, 3, 4, 5, 6] rfl ?_
    exact hz_nameM (hz_some_e h).2.symm kk
def fs_17 (M : hz_M) : hz_O :=
  hz_ct (f_X10_gap M) fun r1 M2 =>
  hz_ct (f_X11_gap M2) fun r4 M5 =>
  hz_gd (r1 == r4) <|
  some (0, M5)
set_option maxRecDepth 100000 in
set_option maxHeartbeats 4000000 in
theorem gs_17 {p : Program} {l : Launch} {e : Env} {s : State} {m : MethodId} {args : Array Value} {below : List Frame} {meth : Method} {c : Code} {w : hz_C} (hl : l.stackTraces = false) (hO : hz_Ok p s m args meth c w cL_law 9 "HotStepsLaw" (some .boolean)) {b L : Nat} {xs : Nat → Int32} (hT : va_T .int b L (fun j => .int (xs j)) (hz_A w) s s.heap) (hL : L ≤ 3072) {n : Nat} (hn : n + 6 ≤ L) {z : hz_Z} (hz : z.2.1 + 1 ≤ z.1.1 ∧ z.2.2 + 6 ≤ z.1.2) {Q : State → Prop} {M ME : hz_M} {rE : Int32} (h : fs_17 M = some (rE, ME)) (kk : hz_G p l e 1400 (hz_zn z 1 6) s m args below meth c w 194 9 Q ME 2158 [(4, .int (nI n)), (0, .ref b), (1, .ref (hz_ad w 0)), (2, .ref (hz_ad w 178)), (3, .ref (hz_ad w 193))] []) : hz_G p l e 1400 z s m args below meth c w 194 9 Q M 1046 [(4, .int (nI n)), (0, .ref b), (1, .ref (hz_ad w 0)), (2, .ref (hz_ad w 178)), (3, .ref (hz_ad w 193))] [] := by
  have hN1 : 178 ≤ 194 := (Nat.le_of_ble_eq_true rfl)
  have hN2 : 193 ≤ 194 := (Nat.le_of_ble_eq_true rfl)
  have hN3 : 194 ≤ 194 := Nat.le_refl _
  unfold fs_17 at h
  refine hz_aload_n hO dL_law_1046 rfl 2 rfl ?_
  obtain ⟨r1, M2, hq3, h⟩ := hz_ct_e h
  refine hz_callVi (as := []) (rest := []) hO (c_X10_gap l w hN1 hq3) hz_cal_X10_gap hz_K_8 hz_sh_0 (hz_lt_0 hN1) tw_4_148 (Nat.le_of_ble_eq_true rfl) rfl rfl (Nat.le_of_ble_eq_true rfl) dL_law_1047 ?_
  refine hz_aload_n hO dL_law_1050 rfl 3 rfl ?_
  obtain ⟨r4, M5, hq6, h⟩ := hz_ct_e h
  refine hz_callVi (as := []) (rest := [.int r1]) hO (c_X11_gap l w hN2 hq6) hz_cal_X11_gap hz_K_9 hz_sh_178 (hz_lt_178 hN2) tw_8_181 (Nat.le_of_ble_eq_true rfl) rfl rfl (Nat.le_of_ble_eq_true rfl) dL_law_1051 ?_
  obtain ⟨hg7, h⟩ := hz_gd_e h
  refine hz_icmp_eq (tgt := 2158) hO dL_law_1054 (by decide) (fun _ => ?_) (fun hc => absurd (eq_of_beq hg7) hc)
  refine hz_upz hz ?_
  exact hz_nameM (hz_some_e h).2.symm kk
def fs_18 (M : hz_M) : hz_O :=
  hz_ct (f_X10_meanWet M) fun r1 M2 =>
  hz_ct (f_X11_meanWet M2) fun r4 M5 =>
  hz_gd (r1 == r4) <|
  some (0, M5)
set_option maxRecDepth 100000 in
set_option maxHeartbeats 4000000 in
theorem gs_18 {p : Program} {l : Launch} {e : Env} {s : State} {m : MethodId} {args : Array Value} {below : List Frame} {meth : Method} {c : Code} {w : hz_C} (hl : l.stackTraces = false) (hO : hz_Ok p s m args meth c w cL_law 9 "HotStepsLaw" (some .boolean)) {b L : Nat} {xs : Nat → Int32} (hT : va_T .int b L (fun j => .int (xs j)) (hz_A w) s s.heap) (hL : L ≤ 3072) {n : Nat} (hn : n + 6 ≤ L) {z : hz_Z} (hz : z.2.1 + 1 ≤ z.1.1 ∧ z.2.2 + 6 ≤ z.1.2) {Q : State → Prop} {M ME : hz_M} {rE : Int32} (h : fs_18 M = some (rE, ME)) (kk : hz_G p l e 1400 (hz_zn z 1 6) s m args below meth c w 194 9 Q ME 2158 [(4, .int (nI n)), (0, .ref b), (1, .ref (hz_ad w 0)), (2, .ref (hz_ad w 178)), (3, .ref (hz_ad w 193))] []) : hz_G p l e 1400 z s m args below meth c w 194 9 Q M 1059 [(4, .int (nI n)), (0, .ref b), (1, .ref (hz_ad w 0)), (2, .ref (hz_ad w 178)), (3, .ref (hz_ad w 193))] [] := by
  have hN1 : 178 ≤ 194 := (Nat.le_of_ble_eq_true rfl)
  have hN2 : 193 ≤ 194 := (Nat.le_of_ble_eq_true rfl)
  have hN3 : 194 ≤ 194 := Nat.le_refl _
  unfold fs_18 at h
  refine hz_aload_n hO dL_law_1059 rfl 2 rfl ?_
  obtain ⟨r1, M2, hq3, h⟩ := hz_ct_e h
  refine hz_callVd (as := []) (rest := []) hO (c_X10_meanWet l w hN1 hq3) hz_cal_X10_meanWet hz_K_8 hz_sh_0 (hz_lt_0 hN1) tw_4_181 (Nat.le_of_ble_eq_true rfl) rfl rfl (Nat.le_of_ble_eq_true rfl) dL_law_1060 ?_
  refine hz_dstore (ls1 := [(5, .double (hz_dd r1)), (4, .int (nI n)), (0, .ref b), (1, .ref (hz_ad w 0)), (2, .ref (hz_ad w 178)), (3, .ref (hz_ad w 193))]) hO dL_law_1063 (Nat.le_of_ble_eq_true rfl) rfl ?_
  refine hz_aload_n hO dL_law_1065 rfl 4 rfl ?_
  obtain ⟨r4, M5, hq6, h⟩ := hz_ct_e h
  refine hz_callVd (as := []) (rest := []) hO (c_X11_meanWet l w hN2 hq6) hz_cal_X11_meanWet hz_K_9 hz_sh_178 (hz_lt_178 hN2) tw_8_186 (Nat.le_of_ble_eq_true rfl) rfl rfl (Nat.le_of_ble_eq_true rfl) dL_law_1066 ?_
  refine hz_dstore (ls1 := [(7, .double (hz_dd r4)), (5, .double (hz_dd r1)), (4, .int (nI n)), (0, .ref b), (1, .ref (hz_ad w 0)), (2, .ref (hz_ad w 178)), (3, .ref (hz_ad w 193))]) hO dL_law_1069 (Nat.le_of_ble_eq_true rfl) rfl ?_
  have hg7 := (hz_gd_e h).1
  replace h := (hz_gd_e h).2
  have hE : r1 = r4 := eq_of_beq hg7
  subst hE
  refine hz_dload hO dL_law_1071 1 rfl ?_
  refine hz_dload hO dL_law_1073 0 rfl ?_
  refine hz_dcmp hO dL_law_1075 ?_
  refine hz_if_eq (tgt := 1097) hO dL_law_1076 (by decide) (fun _ => ?_) (fun hc => ?_)
  · refine hz_goto (tgt := 2158) hO dL_law_1097 (by decide) ?_
    refine hz_ls (ls1 := [(4, .int (nI n)), (0, .ref b), (1, .ref (hz_ad w 0)), (2, .ref (hz_ad w 178)), (3, .ref (hz_ad w 193))]) [2, 3, 4, 5, 6] rfl ?_
    refine hz_upz hz ?_
    exact hz_nameM (hz_some_e h).2.symm kk
  · refine hz_dload hO dL_law_1079 1 rfl ?_
    refine hz_dload hO dL_law_1081 1 rfl ?_
    refine hz_dcmp hO dL_law_1083 ?_
    refine hz_if_eq (tgt := 1095) hO dL_law_1084 (by decide) (fun hd => absurd hd hc) (fun _ => ?_)
    refine hz_dload hO dL_law_1087 0 rfl ?_
    refine hz_dload hO dL_law_1089 0 rfl ?_
    refine hz_dcmp hO dL_law_1091 ?_
    refine hz_if_ne (tgt := 1097) hO dL_law_1092 (by decide) (fun _ => ?_) (fun hd => absurd hd hc)
    refine hz_goto (tgt := 2158) hO dL_law_1097 (by decide) ?_
    refine hz_ls (ls1 := [(4, .int (nI n)), (0, .ref b), (1, .ref (hz_ad w 0)), (2, .ref (hz_ad w 178)), (3, .ref (hz_ad w 193))]) [2, 3, 4, 5, 6] rfl ?_
    refine hz_upz hz ?_
    exact hz_nameM (hz_some_e h).2.symm kk
def fs_19 (M : hz_M) : hz_O :=
  hz_ct (f_X10_heatBits M) fun r1 M2 =>
  hz_ct (f_X11_heatBits M2) fun r4 M5 =>
  hz_gd (r1 == r4) <|
  some (0, M5)
set_option maxRecDepth 100000 in
set_option maxHeartbeats 4000000 in
theorem gs_19 {p : Program} {l : Launch} {e : Env} {s : State} {m : MethodId} {args : Array Value} {below : List Frame} {meth : Method} {c : Code} {w : hz_C} (hl : l.stackTraces = false) (hO : hz_Ok p s m args meth c w cL_law 9 "HotStepsLaw" (some .boolean)) {b L : Nat} {xs : Nat → Int32} (hT : va_T .int b L (fun j => .int (xs j)) (hz_A w) s s.heap) (hL : L ≤ 3072) {n : Nat} (hn : n + 6 ≤ L) {z : hz_Z} (hz : z.2.1 + 1 ≤ z.1.1 ∧ z.2.2 + 6 ≤ z.1.2) {Q : State → Prop} {M ME : hz_M} {rE : Int32} (h : fs_19 M = some (rE, ME)) (kk : hz_G p l e 1400 (hz_zn z 1 6) s m args below meth c w 194 9 Q ME 2158 [(4, .int (nI n)), (0, .ref b), (1, .ref (hz_ad w 0)), (2, .ref (hz_ad w 178)), (3, .ref (hz_ad w 193))] []) : hz_G p l e 1400 z s m args below meth c w 194 9 Q M 1100 [(4, .int (nI n)), (0, .ref b), (1, .ref (hz_ad w 0)), (2, .ref (hz_ad w 178)), (3, .ref (hz_ad w 193))] [] := by
  have hN1 : 178 ≤ 194 := (Nat.le_of_ble_eq_true rfl)
  have hN2 : 193 ≤ 194 := (Nat.le_of_ble_eq_true rfl)
  have hN3 : 194 ≤ 194 := Nat.le_refl _
  unfold fs_19 at h
  refine hz_aload_n hO dL_law_1100 rfl 2 rfl ?_
  obtain ⟨r1, M2, hq3, h⟩ := hz_ct_e h
  refine hz_callVi (as := []) (rest := []) hO (c_X10_heatBits l w hN1 hq3) hz_cal_X10_heatBits hz_K_8 hz_sh_0 (hz_lt_0 hN1) tw_4_189 (Nat.le_of_ble_eq_true rfl) rfl rfl (Nat.le_of_ble_eq_true rfl) dL_law_1101 ?_
  refine hz_aload_n hO dL_law_1104 rfl 3 rfl ?_
  obtain ⟨r4, M5, hq6, h⟩ := hz_ct_e h
  refine hz_callVi (as := []) (rest := [.int r1]) hO (c_X11_heatBits l w hN2 hq6) hz_cal_X11_heatBits hz_K_9 hz_sh_178 (hz_lt_178 hN2) tw_8_190 (Nat.le_of_ble_eq_true rfl) rfl rfl (Nat.le_of_ble_eq_true rfl) dL_law_1105 ?_
  obtain ⟨hg7, h⟩ := hz_gd_e h
  refine hz_icmp_eq (tgt := 2158) hO dL_law_1108 (by decide) (fun _ => ?_) (fun hc => absurd (eq_of_beq hg7) hc)
  refine hz_upz hz ?_
  exact hz_nameM (hz_some_e h).2.symm kk
def fs_20 (a1 : Int32) (M : hz_M) : hz_O :=
  hz_ct (f_L_heatIn a1 M) fun r1 M2 =>
  hz_ct (f_X11_heatIn a1 M2) fun r4 M5 =>
  hz_ct (f_X11_thrown M5) fun r7 M8 =>
  hz_gd (r7 == r1) <|
  hz_gd (!(r1 == 0) || M8 193 0 == r4) <|
  some (0, M8)
set_option maxRecDepth 100000 in
set_option maxHeartbeats 4000000 in
theorem gs_20 {p : Program} {l : Launch} {e : Env} {s : State} {m : MethodId} {args : Array Value} {below : List Frame} {meth : Method} {c : Code} {w : hz_C} (hl : l.stackTraces = false) (hO : hz_Ok p s m args meth c w cL_law 9 "HotStepsLaw" (some .boolean)) {b L : Nat} {xs : Nat → Int32} (hT : va_T .int b L (fun j => .int (xs j)) (hz_A w) s s.heap) (hL : L ≤ 3072) {n : Nat} (hn : n + 6 ≤ L) {z : hz_Z} (hz : z.2.1 + 1 ≤ z.1.1 ∧ z.2.2 + 6 ≤ z.1.2) {Q : State → Prop} {M ME : hz_M} {rE : Int32} (h : fs_20 (xs (n + 1)) M = some (rE, ME)) (kk : hz_G p l e 1400 (hz_zn z 1 6) s m args below meth c w 194 9 Q ME 2158 [(4, .int (nI n)), (0, .ref b), (1, .ref (hz_ad w 0)), (2, .ref (hz_ad w 178)), (3, .ref (hz_ad w 193))] []) : hz_G p l e 1400 z s m args below meth c w 194 9 Q M 1113 [(4, .int (nI n)), (0, .ref b), (1, .ref (hz_ad w 0)), (2, .ref (hz_ad w 178)), (3, .ref (hz_ad w 193))] [] := by
  have hN1 : 178 ≤ 194 := (Nat.le_of_ble_eq_true rfl)
  have hN2 : 193 ≤ 194 := (Nat.le_of_ble_eq_true rfl)
  have hN3 : 194 ≤ 194 := Nat.le_refl _
  unfold fs_20 at h
  refine hz_aload_n hO dL_law_1113 rfl 2 rfl ?_
  refine hz_aload_n hO dL_law_1114 rfl 1 rfl ?_
  refine hz_iload hO dL_law_1115 0 rfl ?_
  refine hz_iconst (v := (1 : Int32)) hO dL_law_1117 (by decide) ?_
  refine hz_iadd hO dL_law_1118 ?_
  refine hz_name (y := nI (n + 1)) (nI_add n 1).symm ?_
  refine hz_scr hO hT hL (n := n + 1) (by omega) dL_law_1119 ?_
  refine hz_aload_n hO dL_law_1120 rfl 4 rfl ?_
  obtain ⟨r1, M2, hq3, h⟩ := hz_ct_e h
  refine hz_callW (n := 3) (as := [.ref (hz_ad w 0), .int (xs (n + 1)), .ref (hz_ad w 193)]) (rest := []) hO (c_L_heatIn l hl w hN3 (xs (n + 1)) hq3) hz_cal_L_heatIn tw_5_221 tw_5_222 tw_1_0 ⟨by decide, by decide, by decide +kernel⟩ (Nat.le_of_ble_eq_true rfl) (Nat.le_of_ble_eq_true rfl) rfl rfl (Nat.le_of_ble_eq_true rfl) hz dL_law_1121 ?_
  refine hz_istore (ls1 := [(5, .int r1), (4, .int (nI n)), (0, .ref b), (1, .ref (hz_ad w 0)), (2, .ref (hz_ad w 178)), (3, .ref (hz_ad w 193))]) hO dL_law_1124 (Nat.le_of_ble_eq_true rfl) rfl ?_
  refine hz_aload_n hO dL_law_1126 rfl 4 rfl ?_
  refine hz_aload_n hO dL_law_1127 rfl 2 rfl ?_
  refine hz_iload hO dL_law_1128 1 rfl ?_
  refine hz_iconst (v := (1 : Int32)) hO dL_law_1130 (by decide) ?_
  refine hz_iadd hO dL_law_1131 ?_
  refine hz_name (y := nI (n + 1)) (nI_add n 1).symm ?_
  refine hz_scr hO hT hL (n := n + 1) (by omega) dL_law_1132 ?_
  obtain ⟨r4, M5, hq6, h⟩ := hz_ct_e h
  refine hz_callVi (as := [.int (xs (n + 1))]) (rest := []) hO (c_X11_heatIn l w hN2 (xs (n + 1)) hq6) hz_cal_X11_heatIn hz_K_9 hz_sh_178 (hz_lt_178 hN2) tw_8_205 (Nat.le_of_ble_eq_true rfl) rfl rfl (Nat.le_of_ble_eq_true rfl) dL_law_1133 ?_
  refine hz_istore (ls1 := [(6, .int r4), (5, .int r1), (4, .int (nI n)), (0, .ref b), (1, .ref (hz_ad w 0)), (2, .ref (hz_ad w 178)), (3, .ref (hz_ad w 193))]) hO dL_law_1136 (Nat.le_of_ble_eq_true rfl) rfl ?_
  refine hz_aload_n hO dL_law_1138 rfl 5 rfl ?_
  obtain ⟨r7, M8, hq9, h⟩ := hz_ct_e h
  refine hz_callVi (as := []) (rest := []) hO (c_X11_thrown l w hN2 hq9) hz_cal_X11_thrown hz_K_9 hz_sh_178 (hz_lt_178 hN2) tw_7_74 (Nat.le_of_ble_eq_true rfl) rfl rfl (Nat.le_of_ble_eq_true rfl) dL_law_1139 ?_
  refine hz_iload hO dL_law_1142 1 rfl ?_
  obtain ⟨hg10, h⟩ := hz_gd_e h
  refine hz_icmp_eq (tgt := 1149) hO dL_law_1144 (by decide) (fun _ => ?_) (fun hc => absurd (eq_of_beq hg10) hc)
  refine hz_iload hO dL_law_1149 1 rfl ?_
  obtain ⟨hg11, h⟩ := hz_gd_e h
  refine hz_if_ne (tgt := 1166) hO dL_law_1151 (by decide) (fun _ => ?_) (fun hc => ?_)
  · refine hz_goto (tgt := 2158) hO dL_law_1166 (by decide) ?_
    refine hz_ls (ls1 := [(4, .int (nI n)), (0, .ref b), (1, .ref (hz_ad w 0)), (2, .ref (hz_ad w 178)), (3, .ref (hz_ad w 193))]) [2, 3, 4, 5, 6] rfl ?_
    exact hz_nameM (hz_some_e h).2.symm kk
  · have hE : M8 193 0 = r4 := by simpa [hc] using hg11
    refine hz_aload_n hO dL_law_1154 rfl 6 rfl ?_
    refine hz_iconst (v := (0 : Int32)) hO dL_law_1155 (by decide) ?_
    refine hz_lald hO hz_sh_193 (hz_lt_193 hN3) (by decide) dL_law_1156 ?_
    refine hz_iload hO dL_law_1157 0 rfl ?_
    refine hz_i2l hO dL_law_1159 ?_
    refine hz_lcmp hO dL_law_1160 ?_
    refine hz_name (y := 0) (by rw [show (0 : Int32).toNatClampNeg = 0 from rfl, hE]; exact hz_lcmp0.symm) ?_
    refine hz_if_eq (tgt := 1166) hO dL_law_1161 (by decide) (fun _ => ?_) (fun hc => absurd rfl hc)
    refine hz_goto (tgt := 2158) hO dL_law_1166 (by decide) ?_
    refine hz_ls (ls1 := [(4, .int (nI n)), (0, .ref b), (1, .ref (hz_ad w 0)), (2, .ref (hz_ad w 178)), (3, .ref (hz_ad w 193))]) [2, 3, 4, 5, 6] rfl ?_
    exact hz_nameM (hz_some_e h).2.symm kk
def fs_21 (a1 : Int32) (M : hz_M) : hz_O :=
  hz_ct (f_L_downIn a1 M) fun r1 M2 =>
  hz_ct (f_X11_downIn a1 M2) fun r4 M5 =>
  hz_ct (f_X11_thrown M5) fun r7 M8 =>
  hz_gd (r7 == r1) <|
  hz_gd (!(r1 == 0) || M8 193 0 == r4) <|
  some (0, M8)
set_option maxRecDepth 100000 in
set_option maxHeartbeats 4000000 in
theorem gs_21 {p : Program} {l : Launch} {e : Env} {s : State} {m : MethodId} {args : Array Value} {below : List Frame} {meth : Method} {c : Code} {w : hz_C} (hl : l.stackTraces = false) (hO : hz_Ok p s m args meth c w cL_law 9 "HotStepsLaw" (some .boolean)) {b L : Nat} {xs : Nat → Int32} (hT : va_T .int b L (fun j => .int (xs j)) (hz_A w) s s.heap) (hL : L ≤ 3072) {n : Nat} (hn : n + 6 ≤ L) {z : hz_Z} (hz : z.2.1 + 1 ≤ z.1.1 ∧ z.2.2 + 6 ≤ z.1.2) {Q : State → Prop} {M ME : hz_M} {rE : Int32} (h : fs_21 (xs (n + 1)) M = some (rE, ME)) (kk : hz_G p l e 1400 (hz_zn z 1 6) s m args below meth c w 194 9 Q ME 2158 [(4, .int (nI n)), (0, .ref b), (1, .ref (hz_ad w 0)), (2, .ref (hz_ad w 178)), (3, .ref (hz_ad w 193))] []) : hz_G p l e 1400 z s m args below meth c w 194 9 Q M 1169 [(4, .int (nI n)), (0, .ref b), (1, .ref (hz_ad w 0)), (2, .ref (hz_ad w 178)), (3, .ref (hz_ad w 193))] [] := by
  have hN1 : 178 ≤ 194 := (Nat.le_of_ble_eq_true rfl)
  have hN2 : 193 ≤ 194 := (Nat.le_of_ble_eq_true rfl)
  have hN3 : 194 ≤ 194 := Nat.le_refl _
  unfold fs_21 at h
  refine hz_aload_n hO dL_law_1169 rfl 2 rfl ?_
  refine hz_aload_n hO dL_law_1170 rfl 1 rfl ?_
  refine hz_iload hO dL_law_1171 0 rfl ?_
  refine hz_iconst (v := (1 : Int32)) hO dL_law_1173 (by decide) ?_
  refine hz_iadd hO dL_law_1174 ?_
  refine hz_name (y := nI (n + 1)) (nI_add n 1).symm ?_
  refine hz_scr hO hT hL (n := n + 1) (by omega) dL_law_1175 ?_
  refine hz_aload_n hO dL_law_1176 rfl 4 rfl ?_
  obtain ⟨r1, M2, hq3, h⟩ := hz_ct_e h
  refine hz_callW (n := 3) (as := [.ref (hz_ad w 0), .int (xs (n + 1)), .ref (hz_ad w 193)]) (rest := []) hO (c_L_downIn l hl w hN3 (xs (n + 1)) hq3) hz_cal_L_downIn tw_5_230 tw_5_231 tw_1_0 ⟨by decide, by decide, by decide +kernel⟩ (Nat.le_of_ble_eq_true rfl) (Nat.le_of_ble_eq_true rfl) rfl rfl (Nat.le_of_ble_eq_true rfl) hz dL_law_1177 ?_
  refine hz_istore (ls1 := [(5, .int r1), (4, .int (nI n)), (0, .ref b), (1, .ref (hz_ad w 0)), (2, .ref (hz_ad w 178)), (3, .ref (hz_ad w 193))]) hO dL_law_1180 (Nat.le_of_ble_eq_true rfl) rfl ?_
  refine hz_aload_n hO dL_law_1182 rfl 4 rfl ?_
  refine hz_aload_n hO dL_law_1183 rfl 2 rfl ?_
  refine hz_iload hO dL_law_1184 1 rfl ?_
  refine hz_iconst (v := (1 : Int32)) hO dL_law_1186 (by decide) ?_
  refine hz_iadd hO dL_law_1187 ?_
  refine hz_name (y := nI (n + 1)) (nI_add n 1).symm ?_
  refine hz_scr hO hT hL (n := n + 1) (by omega) dL_law_1188 ?_
  obtain ⟨r4, M5, hq6, h⟩ := hz_ct_e h
  refine hz_callVi (as := [.int (xs (n + 1))]) (rest := []) hO (c_X11_downIn l w hN2 (xs (n + 1)) hq6) hz_cal_X11_downIn hz_K_9 hz_sh_178 (hz_lt_178 hN2) tw_8_217 (Nat.le_of_ble_eq_true rfl) rfl rfl (Nat.le_of_ble_eq_true rfl) dL_law_1189 ?_
  refine hz_istore (ls1 := [(6, .int r4), (5, .int r1), (4, .int (nI n)), (0, .ref b), (1, .ref (hz_ad w 0)), (2, .ref (hz_ad w 178)), (3, .ref (hz_ad w 193))]) hO dL_law_1192 (Nat.le_of_ble_eq_true rfl) rfl ?_
  refine hz_aload_n hO dL_law_1194 rfl 5 rfl ?_
  obtain ⟨r7, M8, hq9, h⟩ := hz_ct_e h
  refine hz_callVi (as := []) (rest := []) hO (c_X11_thrown l w hN2 hq9) hz_cal_X11_thrown hz_K_9 hz_sh_178 (hz_lt_178 hN2) tw_7_74 (Nat.le_of_ble_eq_true rfl) rfl rfl (Nat.le_of_ble_eq_true rfl) dL_law_1195 ?_
  refine hz_iload hO dL_law_1198 1 rfl ?_
  obtain ⟨hg10, h⟩ := hz_gd_e h
  refine hz_icmp_eq (tgt := 1205) hO dL_law_1200 (by decide) (fun _ => ?_) (fun hc => absurd (eq_of_beq hg10) hc)
  refine hz_iload hO dL_law_1205 1 rfl ?_
  obtain ⟨hg11, h⟩ := hz_gd_e h
  refine hz_if_ne (tgt := 1222) hO dL_law_1207 (by decide) (fun _ => ?_) (fun hc => ?_)
  · refine hz_goto (tgt := 2158) hO dL_law_1222 (by decide) ?_
    refine hz_ls (ls1 := [(4, .int (nI n)), (0, .ref b), (1, .ref (hz_ad w 0)), (2, .ref (hz_ad w 178)), (3, .ref (hz_ad w 193))]) [2, 3, 4, 5, 6] rfl ?_
    exact hz_nameM (hz_some_e h).2.symm kk
  · have hE : M8 193 0 = r4 := by simpa [hc] using hg11
    refine hz_aload_n hO dL_law_1210 rfl 6 rfl ?_
    refine hz_iconst (v := (0 : Int32)) hO dL_law_1211 (by decide) ?_
    refine hz_lald hO hz_sh_193 (hz_lt_193 hN3) (by decide) dL_law_1212 ?_
    refine hz_iload hO dL_law_1213 0 rfl ?_
    refine hz_i2l hO dL_law_1215 ?_
    refine hz_lcmp hO dL_law_1216 ?_
    refine hz_name (y := 0) (by rw [show (0 : Int32).toNatClampNeg = 0 from rfl, hE]; exact hz_lcmp0.symm) ?_
    refine hz_if_eq (tgt := 1222) hO dL_law_1217 (by decide) (fun _ => ?_) (fun hc => absurd rfl hc)
    refine hz_goto (tgt := 2158) hO dL_law_1222 (by decide) ?_
    refine hz_ls (ls1 := [(4, .int (nI n)), (0, .ref b), (1, .ref (hz_ad w 0)), (2, .ref (hz_ad w 178)), (3, .ref (hz_ad w 193))]) [2, 3, 4, 5, 6] rfl ?_
    exact hz_nameM (hz_some_e h).2.symm kk
def fs_22 (a1 : Int32) (M : hz_M) : hz_O :=
  hz_ct (f_L_dryIn a1 M) fun r1 M2 =>
  hz_ct (f_X11_dryIn a1 M2) fun r4 M5 =>
  hz_ct (f_X11_thrown M5) fun r7 M8 =>
  hz_gd (r7 == r1) <|
  hz_gd (!(r1 == 0) || M8 193 0 == r4) <|
  some (0, M8)
set_option maxRecDepth 100000 in
set_option maxHeartbeats 4000000 in
theorem gs_22 {p : Program} {l : Launch} {e : Env} {s : State} {m : MethodId} {args : Array Value} {below : List Frame} {meth : Method} {c : Code} {w : hz_C} (hl : l.stackTraces = false) (hO : hz_Ok p s m args meth c w cL_law 9 "HotStepsLaw" (some .boolean)) {b L : Nat} {xs : Nat → Int32} (hT : va_T .int b L (fun j => .int (xs j)) (hz_A w) s s.heap) (hL : L ≤ 3072) {n : Nat} (hn : n + 6 ≤ L) {z : hz_Z} (hz : z.2.1 + 1 ≤ z.1.1 ∧ z.2.2 + 6 ≤ z.1.2) {Q : State → Prop} {M ME : hz_M} {rE : Int32} (h : fs_22 (xs (n + 1)) M = some (rE, ME)) (kk : hz_G p l e 1400 (hz_zn z 1 6) s m args below meth c w 194 9 Q ME 2158 [(4, .int (nI n)), (0, .ref b), (1, .ref (hz_ad w 0)), (2, .ref (hz_ad w 178)), (3, .ref (hz_ad w 193))] []) : hz_G p l e 1400 z s m args below meth c w 194 9 Q M 1225 [(4, .int (nI n)), (0, .ref b), (1, .ref (hz_ad w 0)), (2, .ref (hz_ad w 178)), (3, .ref (hz_ad w 193))] [] := by
  have hN1 : 178 ≤ 194 := (Nat.le_of_ble_eq_true rfl)
  have hN2 : 193 ≤ 194 := (Nat.le_of_ble_eq_true rfl)
  have hN3 : 194 ≤ 194 := Nat.le_refl _
  unfold fs_22 at h
  refine hz_aload_n hO dL_law_1225 rfl 2 rfl ?_
  refine hz_aload_n hO dL_law_1226 rfl 1 rfl ?_
  refine hz_iload hO dL_law_1227 0 rfl ?_
  refine hz_iconst (v := (1 : Int32)) hO dL_law_1229 (by decide) ?_
  refine hz_iadd hO dL_law_1230 ?_
  refine hz_name (y := nI (n + 1)) (nI_add n 1).symm ?_
  refine hz_scr hO hT hL (n := n + 1) (by omega) dL_law_1231 ?_
  refine hz_aload_n hO dL_law_1232 rfl 4 rfl ?_
  obtain ⟨r1, M2, hq3, h⟩ := hz_ct_e h
  refine hz_callW (n := 3) (as := [.ref (hz_ad w 0), .int (xs (n + 1)), .ref (hz_ad w 193)]) (rest := []) hO (c_L_dryIn l hl w hN3 (xs (n + 1)) hq3) hz_cal_L_dryIn tw_5_238 tw_5_239 tw_1_0 ⟨by decide, by decide, by decide +kernel⟩ (Nat.le_of_ble_eq_true rfl) (Nat.le_of_ble_eq_true rfl) rfl rfl (Nat.le_of_ble_eq_true rfl) hz dL_law_1233 ?_
  refine hz_istore (ls1 := [(5, .int r1), (4, .int (nI n)), (0, .ref b), (1, .ref (hz_ad w 0)), (2, .ref (hz_ad w 178)), (3, .ref (hz_ad w 193))]) hO dL_law_1236 (Nat.le_of_ble_eq_true rfl) rfl ?_
  refine hz_aload_n hO dL_law_1238 rfl 4 rfl ?_
  refine hz_aload_n hO dL_law_1239 rfl 2 rfl ?_
  refine hz_iload hO dL_law_1240 1 rfl ?_
  refine hz_iconst (v := (1 : Int32)) hO dL_law_1242 (by decide) ?_
  refine hz_iadd hO dL_law_1243 ?_
  refine hz_name (y := nI (n + 1)) (nI_add n 1).symm ?_
  refine hz_scr hO hT hL (n := n + 1) (by omega) dL_law_1244 ?_
  obtain ⟨r4, M5, hq6, h⟩ := hz_ct_e h
  refine hz_callVi (as := [.int (xs (n + 1))]) (rest := []) hO (c_X11_dryIn l w hN2 (xs (n + 1)) hq6) hz_cal_X11_dryIn hz_K_9 hz_sh_178 (hz_lt_178 hN2) tw_8_221 (Nat.le_of_ble_eq_true rfl) rfl rfl (Nat.le_of_ble_eq_true rfl) dL_law_1245 ?_
  refine hz_istore (ls1 := [(6, .int r4), (5, .int r1), (4, .int (nI n)), (0, .ref b), (1, .ref (hz_ad w 0)), (2, .ref (hz_ad w 178)), (3, .ref (hz_ad w 193))]) hO dL_law_1248 (Nat.le_of_ble_eq_true rfl) rfl ?_
  refine hz_aload_n hO dL_law_1250 rfl 5 rfl ?_
  obtain ⟨r7, M8, hq9, h⟩ := hz_ct_e h
  refine hz_callVi (as := []) (rest := []) hO (c_X11_thrown l w hN2 hq9) hz_cal_X11_thrown hz_K_9 hz_sh_178 (hz_lt_178 hN2) tw_7_74 (Nat.le_of_ble_eq_true rfl) rfl rfl (Nat.le_of_ble_eq_true rfl) dL_law_1251 ?_
  refine hz_iload hO dL_law_1254 1 rfl ?_
  obtain ⟨hg10, h⟩ := hz_gd_e h
  refine hz_icmp_eq (tgt := 1261) hO dL_law_1256 (by decide) (fun _ => ?_) (fun hc => absurd (eq_of_beq hg10) hc)
  refine hz_iload hO dL_law_1261 1 rfl ?_
  obtain ⟨hg11, h⟩ := hz_gd_e h
  refine hz_if_ne (tgt := 1278) hO dL_law_1263 (by decide) (fun _ => ?_) (fun hc => ?_)
  · refine hz_goto (tgt := 2158) hO dL_law_1278 (by decide) ?_
    refine hz_ls (ls1 := [(4, .int (nI n)), (0, .ref b), (1, .ref (hz_ad w 0)), (2, .ref (hz_ad w 178)), (3, .ref (hz_ad w 193))]) [2, 3, 4, 5, 6] rfl ?_
    exact hz_nameM (hz_some_e h).2.symm kk
  · have hE : M8 193 0 = r4 := by simpa [hc] using hg11
    refine hz_aload_n hO dL_law_1266 rfl 6 rfl ?_
    refine hz_iconst (v := (0 : Int32)) hO dL_law_1267 (by decide) ?_
    refine hz_lald hO hz_sh_193 (hz_lt_193 hN3) (by decide) dL_law_1268 ?_
    refine hz_iload hO dL_law_1269 0 rfl ?_
    refine hz_i2l hO dL_law_1271 ?_
    refine hz_lcmp hO dL_law_1272 ?_
    refine hz_name (y := 0) (by rw [show (0 : Int32).toNatClampNeg = 0 from rfl, hE]; exact hz_lcmp0.symm) ?_
    refine hz_if_eq (tgt := 1278) hO dL_law_1273 (by decide) (fun _ => ?_) (fun hc => absurd rfl hc)
    refine hz_goto (tgt := 2158) hO dL_law_1278 (by decide) ?_
    refine hz_ls (ls1 := [(4, .int (nI n)), (0, .ref b), (1, .ref (hz_ad w 0)), (2, .ref (hz_ad w 178)), (3, .ref (hz_ad w 193))]) [2, 3, 4, 5, 6] rfl ?_
    exact hz_nameM (hz_some_e h).2.symm kk
def fs_23 (M : hz_M) : hz_O :=
  hz_ct (f_X10_silenceIn M) fun r1 M2 =>
  hz_ct (f_X11_silenceIn M2) fun r4 M5 =>
  hz_gd (r1 == r4) <|
  some (0, M5)
set_option maxRecDepth 100000 in
set_option maxHeartbeats 4000000 in
theorem gs_23 {p : Program} {l : Launch} {e : Env} {s : State} {m : MethodId} {args : Array Value} {below : List Frame} {meth : Method} {c : Code} {w : hz_C} (hl : l.stackTraces = false) (hO : hz_Ok p s m args meth c w cL_law 9 "HotStepsLaw" (some .boolean)) {b L : Nat} {xs : Nat → Int32} (hT : va_T .int b L (fun j => .int (xs j)) (hz_A w) s s.heap) (hL : L ≤ 3072) {n : Nat} (hn : n + 6 ≤ L) {z : hz_Z} (hz : z.2.1 + 1 ≤ z.1.1 ∧ z.2.2 + 6 ≤ z.1.2) {Q : State → Prop} {M ME : hz_M} {rE : Int32} (h : fs_23 M = some (rE, ME)) (kk : hz_G p l e 1400 (hz_zn z 1 6) s m args below meth c w 194 9 Q ME 2158 [(4, .int (nI n)), (0, .ref b), (1, .ref (hz_ad w 0)), (2, .ref (hz_ad w 178)), (3, .ref (hz_ad w 193))] []) : hz_G p l e 1400 z s m args below meth c w 194 9 Q M 1281 [(4, .int (nI n)), (0, .ref b), (1, .ref (hz_ad w 0)), (2, .ref (hz_ad w 178)), (3, .ref (hz_ad w 193))] [] := by
  have hN1 : 178 ≤ 194 := (Nat.le_of_ble_eq_true rfl)
  have hN2 : 193 ≤ 194 := (Nat.le_of_ble_eq_true rfl)
  have hN3 : 194 ≤ 194 := Nat.le_refl _
  unfold fs_23 at h
  refine hz_aload_n hO dL_law_1281 rfl 2 rfl ?_
  obtain ⟨r1, M2, hq3, h⟩ := hz_ct_e h
  refine hz_callVi (as := []) (rest := []) hO (c_X10_silenceIn l w hN1 hq3) hz_cal_X10_silenceIn hz_K_8 hz_sh_0 (hz_lt_0 hN1) tw_4_198 (Nat.le_of_ble_eq_true rfl) rfl rfl (Nat.le_of_ble_eq_true rfl) dL_law_1282 ?_
  refine hz_aload_n hO dL_law_1285 rfl 3 rfl ?_
  obtain ⟨r4, M5, hq6, h⟩ := hz_ct_e h
  refine hz_callVi (as := []) (rest := [.int r1]) hO (c_X11_silenceIn l w hN2 hq6) hz_cal_X11_silenceIn hz_K_9 hz_sh_178 (hz_lt_178 hN2) tw_8_225 (Nat.le_of_ble_eq_true rfl) rfl rfl (Nat.le_of_ble_eq_true rfl) dL_law_1286 ?_
  obtain ⟨hg7, h⟩ := hz_gd_e h
  refine hz_icmp_eq (tgt := 2158) hO dL_law_1289 (by decide) (fun _ => ?_) (fun hc => absurd (eq_of_beq hg7) hc)
  refine hz_upz hz ?_
  exact hz_nameM (hz_some_e h).2.symm kk
def fs_24 (a1 : Int32) (a2 : Int32) (M : hz_M) : hz_O :=
  hz_ct (f_L_ifValve a1 a2 M) fun r1 M2 =>
  hz_ct (f_X11_ifValve a1 a2 M2) fun r4 M5 =>
  hz_ct (f_X11_thrown M5) fun r7 M8 =>
  hz_gd (r7 == r1) <|
  hz_gd (!(r1 == 0) || M8 193 0 == r4) <|
  some (0, M8)
set_option maxRecDepth 100000 in
set_option maxHeartbeats 4000000 in
theorem gs_24 {p : Program} {l : Launch} {e : Env} {s : State} {m : MethodId} {args : Array Value} {below : List Frame} {meth : Method} {c : Code} {w : hz_C} (hl : l.stackTraces = false) (hO : hz_Ok p s m args meth c w cL_law 9 "HotStepsLaw" (some .boolean)) {b L : Nat} {xs : Nat → Int32} (hT : va_T .int b L (fun j => .int (xs j)) (hz_A w) s s.heap) (hL : L ≤ 3072) {n : Nat} (hn : n + 6 ≤ L) {z : hz_Z} (hz : z.2.1 + 1 ≤ z.1.1 ∧ z.2.2 + 6 ≤ z.1.2) {Q : State → Prop} {M ME : hz_M} {rE : Int32} (h : fs_24 (xs (n + 1)) (xs (n + 2)) M = some (rE, ME)) (kk : hz_G p l e 1400 (hz_zn z 1 6) s m args below meth c w 194 9 Q ME 2158 [(4, .int (nI n)), (0, .ref b), (1, .ref (hz_ad w 0)), (2, .ref (hz_ad w 178)), (3, .ref (hz_ad w 193))] []) : hz_G p l e 1400 z s m args below meth c w 194 9 Q M 1294 [(4, .int (nI n)), (0, .ref b), (1, .ref (hz_ad w 0)), (2, .ref (hz_ad w 178)), (3, .ref (hz_ad w 193))] [] := by
  have hN1 : 178 ≤ 194 := (Nat.le_of_ble_eq_true rfl)
  have hN2 : 193 ≤ 194 := (Nat.le_of_ble_eq_true rfl)
  have hN3 : 194 ≤ 194 := Nat.le_refl _
  unfold fs_24 at h
  refine hz_aload_n hO dL_law_1294 rfl 2 rfl ?_
  refine hz_aload_n hO dL_law_1295 rfl 1 rfl ?_
  refine hz_iload hO dL_law_1296 0 rfl ?_
  refine hz_iconst (v := (1 : Int32)) hO dL_law_1298 (by decide) ?_
  refine hz_iadd hO dL_law_1299 ?_
  refine hz_name (y := nI (n + 1)) (nI_add n 1).symm ?_
  refine hz_scr hO hT hL (n := n + 1) (by omega) dL_law_1300 ?_
  refine hz_aload_n hO dL_law_1301 rfl 1 rfl ?_
  refine hz_iload hO dL_law_1302 0 rfl ?_
  refine hz_iconst (v := (2 : Int32)) hO dL_law_1304 (by decide) ?_
  refine hz_iadd hO dL_law_1305 ?_
  refine hz_name (y := nI (n + 2)) (nI_add n 2).symm ?_
  refine hz_scr hO hT hL (n := n + 2) (by omega) dL_law_1306 ?_
  refine hz_aload_n hO dL_law_1307 rfl 4 rfl ?_
  obtain ⟨r1, M2, hq3, h⟩ := hz_ct_e h
  refine hz_callW (n := 4) (as := [.ref (hz_ad w 0), .int (xs (n + 1)), .int (xs (n + 2)), .ref (hz_ad w 193)]) (rest := []) hO (c_L_ifValve l hl w hN3 (xs (n + 1)) (xs (n + 2)) hq3) hz_cal_L_ifValve tw_6_6 tw_6_7 tw_1_0 ⟨by decide, by decide, by decide +kernel⟩ (Nat.le_of_ble_eq_true rfl) (Nat.le_of_ble_eq_true rfl) rfl rfl (Nat.le_of_ble_eq_true rfl) hz dL_law_1308 ?_
  refine hz_istore (ls1 := [(5, .int r1), (4, .int (nI n)), (0, .ref b), (1, .ref (hz_ad w 0)), (2, .ref (hz_ad w 178)), (3, .ref (hz_ad w 193))]) hO dL_law_1311 (Nat.le_of_ble_eq_true rfl) rfl ?_
  refine hz_aload_n hO dL_law_1313 rfl 4 rfl ?_
  refine hz_aload_n hO dL_law_1314 rfl 2 rfl ?_
  refine hz_iload hO dL_law_1315 1 rfl ?_
  refine hz_iconst (v := (1 : Int32)) hO dL_law_1317 (by decide) ?_
  refine hz_iadd hO dL_law_1318 ?_
  refine hz_name (y := nI (n + 1)) (nI_add n 1).symm ?_
  refine hz_scr hO hT hL (n := n + 1) (by omega) dL_law_1319 ?_
  refine hz_aload_n hO dL_law_1320 rfl 2 rfl ?_
  refine hz_iload hO dL_law_1321 1 rfl ?_
  refine hz_iconst (v := (2 : Int32)) hO dL_law_1323 (by decide) ?_
  refine hz_iadd hO dL_law_1324 ?_
  refine hz_name (y := nI (n + 2)) (nI_add n 2).symm ?_
  refine hz_scr hO hT hL (n := n + 2) (by omega) dL_law_1325 ?_
  obtain ⟨r4, M5, hq6, h⟩ := hz_ct_e h
  refine hz_callVi (as := [.int (xs (n + 1)), .int (xs (n + 2))]) (rest := []) hO (c_X11_ifValve l w hN2 (xs (n + 1)) (xs (n + 2)) hq6) hz_cal_X11_ifValve hz_K_9 hz_sh_178 (hz_lt_178 hN2) tw_8_229 (Nat.le_of_ble_eq_true rfl) rfl rfl (Nat.le_of_ble_eq_true rfl) dL_law_1326 ?_
  refine hz_istore (ls1 := [(6, .int r4), (5, .int r1), (4, .int (nI n)), (0, .ref b), (1, .ref (hz_ad w 0)), (2, .ref (hz_ad w 178)), (3, .ref (hz_ad w 193))]) hO dL_law_1329 (Nat.le_of_ble_eq_true rfl) rfl ?_
  refine hz_aload_n hO dL_law_1331 rfl 5 rfl ?_
  obtain ⟨r7, M8, hq9, h⟩ := hz_ct_e h
  refine hz_callVi (as := []) (rest := []) hO (c_X11_thrown l w hN2 hq9) hz_cal_X11_thrown hz_K_9 hz_sh_178 (hz_lt_178 hN2) tw_7_74 (Nat.le_of_ble_eq_true rfl) rfl rfl (Nat.le_of_ble_eq_true rfl) dL_law_1332 ?_
  refine hz_iload hO dL_law_1335 1 rfl ?_
  obtain ⟨hg10, h⟩ := hz_gd_e h
  refine hz_icmp_eq (tgt := 1342) hO dL_law_1337 (by decide) (fun _ => ?_) (fun hc => absurd (eq_of_beq hg10) hc)
  refine hz_iload hO dL_law_1342 1 rfl ?_
  obtain ⟨hg11, h⟩ := hz_gd_e h
  refine hz_if_ne (tgt := 1359) hO dL_law_1344 (by decide) (fun _ => ?_) (fun hc => ?_)
  · refine hz_goto (tgt := 2158) hO dL_law_1359 (by decide) ?_
    refine hz_ls (ls1 := [(4, .int (nI n)), (0, .ref b), (1, .ref (hz_ad w 0)), (2, .ref (hz_ad w 178)), (3, .ref (hz_ad w 193))]) [2, 3, 4, 5, 6] rfl ?_
    exact hz_nameM (hz_some_e h).2.symm kk
  · have hE : M8 193 0 = r4 := by simpa [hc] using hg11
    refine hz_aload_n hO dL_law_1347 rfl 6 rfl ?_
    refine hz_iconst (v := (0 : Int32)) hO dL_law_1348 (by decide) ?_
    refine hz_lald hO hz_sh_193 (hz_lt_193 hN3) (by decide) dL_law_1349 ?_
    refine hz_iload hO dL_law_1350 0 rfl ?_
    refine hz_i2l hO dL_law_1352 ?_
    refine hz_lcmp hO dL_law_1353 ?_
    refine hz_name (y := 0) (by rw [show (0 : Int32).toNatClampNeg = 0 from rfl, hE]; exact hz_lcmp0.symm) ?_
    refine hz_if_eq (tgt := 1359) hO dL_law_1354 (by decide) (fun _ => ?_) (fun hc => absurd rfl hc)
    refine hz_goto (tgt := 2158) hO dL_law_1359 (by decide) ?_
    refine hz_ls (ls1 := [(4, .int (nI n)), (0, .ref b), (1, .ref (hz_ad w 0)), (2, .ref (hz_ad w 178)), (3, .ref (hz_ad w 193))]) [2, 3, 4, 5, 6] rfl ?_
    exact hz_nameM (hz_some_e h).2.symm kk
def fs_25 (a1 : Int32) (M : hz_M) : hz_O :=
  hz_ct (f_L_enter a1 M) fun r1 M2 =>
  hz_ct (f_X11_enter a1 M2) fun r4 M5 =>
  hz_ct (f_X11_thrown M5) fun r7 M8 =>
  hz_gd (r7 == r1) <|
  hz_gd (!(r1 == 0) || M8 193 0 == r4) <|
  some (0, M8)
set_option maxRecDepth 100000 in
set_option maxHeartbeats 4000000 in
theorem gs_25 {p : Program} {l : Launch} {e : Env} {s : State} {m : MethodId} {args : Array Value} {below : List Frame} {meth : Method} {c : Code} {w : hz_C} (hl : l.stackTraces = false) (hO : hz_Ok p s m args meth c w cL_law 9 "HotStepsLaw" (some .boolean)) {b L : Nat} {xs : Nat → Int32} (hT : va_T .int b L (fun j => .int (xs j)) (hz_A w) s s.heap) (hL : L ≤ 3072) {n : Nat} (hn : n + 6 ≤ L) {z : hz_Z} (hz : z.2.1 + 1 ≤ z.1.1 ∧ z.2.2 + 6 ≤ z.1.2) {Q : State → Prop} {M ME : hz_M} {rE : Int32} (h : fs_25 (xs (n + 1)) M = some (rE, ME)) (kk : hz_G p l e 1400 (hz_zn z 1 6) s m args below meth c w 194 9 Q ME 2158 [(4, .int (nI n)), (0, .ref b), (1, .ref (hz_ad w 0)), (2, .ref (hz_ad w 178)), (3, .ref (hz_ad w 193))] []) : hz_G p l e 1400 z s m args below meth c w 194 9 Q M 1362 [(4, .int (nI n)), (0, .ref b), (1, .ref (hz_ad w 0)), (2, .ref (hz_ad w 178)), (3, .ref (hz_ad w 193))] [] := by
  have hN1 : 178 ≤ 194 := (Nat.le_of_ble_eq_true rfl)
  have hN2 : 193 ≤ 194 := (Nat.le_of_ble_eq_true rfl)
  have hN3 : 194 ≤ 194 := Nat.le_refl _
  unfold fs_25 at h
  refine hz_aload_n hO dL_law_1362 rfl 2 rfl ?_
  refine hz_aload_n hO dL_law_1363 rfl 1 rfl ?_
  refine hz_iload hO dL_law_1364 0 rfl ?_
  refine hz_iconst (v := (1 : Int32)) hO dL_law_1366 (by decide) ?_
  refine hz_iadd hO dL_law_1367 ?_
  refine hz_name (y := nI (n + 1)) (nI_add n 1).symm ?_
  refine hz_scr hO hT hL (n := n + 1) (by omega) dL_law_1368 ?_
  refine hz_aload_n hO dL_law_1369 rfl 4 rfl ?_
  obtain ⟨r1, M2, hq3, h⟩ := hz_ct_e h
  refine hz_callW (n := 3) (as := [.ref (hz_ad w 0), .int (xs (n + 1)), .ref (hz_ad w 193)]) (rest := []) hO (c_L_enter l hl w hN3 (xs (n + 1)) hq3) hz_cal_L_enter tw_6_16 tw_6_17 tw_1_0 ⟨by decide, by decide, by decide +kernel⟩ (Nat.le_of_ble_eq_true rfl) (Nat.le_of_ble_eq_true rfl) rfl rfl (Nat.le_of_ble_eq_true rfl) hz dL_law_1370 ?_
  refine hz_istore (ls1 := [(5, .int r1), (4, .int (nI n)), (0, .ref b), (1, .ref (hz_ad w 0)), (2, .ref (hz_ad w 178)), (3, .ref (hz_ad w 193))]) hO dL_law_1373 (Nat.le_of_ble_eq_true rfl) rfl ?_
  refine hz_aload_n hO dL_law_1375 rfl 4 rfl ?_
  refine hz_aload_n hO dL_law_1376 rfl 2 rfl ?_
  refine hz_iload hO dL_law_1377 1 rfl ?_
  refine hz_iconst (v := (1 : Int32)) hO dL_law_1379 (by decide) ?_
  refine hz_iadd hO dL_law_1380 ?_
  refine hz_name (y := nI (n + 1)) (nI_add n 1).symm ?_
  refine hz_scr hO hT hL (n := n + 1) (by omega) dL_law_1381 ?_
  obtain ⟨r4, M5, hq6, h⟩ := hz_ct_e h
  refine hz_callVi (as := [.int (xs (n + 1))]) (rest := []) hO (c_X11_enter l w hN2 (xs (n + 1)) hq6) hz_cal_X11_enter hz_K_9 hz_sh_178 (hz_lt_178 hN2) tw_8_233 (Nat.le_of_ble_eq_true rfl) rfl rfl (Nat.le_of_ble_eq_true rfl) dL_law_1382 ?_
  refine hz_istore (ls1 := [(6, .int r4), (5, .int r1), (4, .int (nI n)), (0, .ref b), (1, .ref (hz_ad w 0)), (2, .ref (hz_ad w 178)), (3, .ref (hz_ad w 193))]) hO dL_law_1385 (Nat.le_of_ble_eq_true rfl) rfl ?_
  refine hz_aload_n hO dL_law_1387 rfl 5 rfl ?_
  obtain ⟨r7, M8, hq9, h⟩ := hz_ct_e h
  refine hz_callVi (as := []) (rest := []) hO (c_X11_thrown l w hN2 hq9) hz_cal_X11_thrown hz_K_9 hz_sh_178 (hz_lt_178 hN2) tw_7_74 (Nat.le_of_ble_eq_true rfl) rfl rfl (Nat.le_of_ble_eq_true rfl) dL_law_1388 ?_
  refine hz_iload hO dL_law_1391 1 rfl ?_
  obtain ⟨hg10, h⟩ := hz_gd_e h
  refine hz_icmp_eq (tgt := 1398) hO dL_law_1393 (by decide) (fun _ => ?_) (fun hc => absurd (eq_of_beq hg10) hc)
  refine hz_iload hO dL_law_1398 1 rfl ?_
  obtain ⟨hg11, h⟩ := hz_gd_e h
  refine hz_if_ne (tgt := 1415) hO dL_law_1400 (by decide) (fun _ => ?_) (fun hc => ?_)
  · refine hz_goto (tgt := 2158) hO dL_law_1415 (by decide) ?_
    refine hz_ls (ls1 := [(4, .int (nI n)), (0, .ref b), (1, .ref (hz_ad w 0)), (2, .ref (hz_ad w 178)), (3, .ref (hz_ad w 193))]) [2, 3, 4, 5, 6] rfl ?_
    exact hz_nameM (hz_some_e h).2.symm kk
  · have hE : M8 193 0 = r4 := by simpa [hc] using hg11
    refine hz_aload_n hO dL_law_1403 rfl 6 rfl ?_
    refine hz_iconst (v := (0 : Int32)) hO dL_law_1404 (by decide) ?_
    refine hz_lald hO hz_sh_193 (hz_lt_193 hN3) (by decide) dL_law_1405 ?_
    refine hz_iload hO dL_law_1406 0 rfl ?_
    refine hz_i2l hO dL_law_1408 ?_
    refine hz_lcmp hO dL_law_1409 ?_
    refine hz_name (y := 0) (by rw [show (0 : Int32).toNatClampNeg = 0 from rfl, hE]; exact hz_lcmp0.symm) ?_
    refine hz_if_eq (tgt := 1415) hO dL_law_1410 (by decide) (fun _ => ?_) (fun hc => absurd rfl hc)
    refine hz_goto (tgt := 2158) hO dL_law_1415 (by decide) ?_
    refine hz_ls (ls1 := [(4, .int (nI n)), (0, .ref b), (1, .ref (hz_ad w 0)), (2, .ref (hz_ad w 178)), (3, .ref (hz_ad w 193))]) [2, 3, 4, 5, 6] rfl ?_
    exact hz_nameM (hz_some_e h).2.symm kk
def fs_26 (a1 : Int32) (a2 : Int32) (M : hz_M) : hz_O :=
  hz_ct (f_L_sit a1 a2 M) fun r1 M2 =>
  hz_ct (f_X11_sit a1 a2 M2) fun r4 M5 =>
  hz_ct (f_X11_thrown M5) fun r7 M8 =>
  hz_gd (r7 == r1) <|
  hz_gd (!(r1 == 0) || M8 193 0 == r4) <|
  some (0, M8)
set_option maxRecDepth 100000 in
set_option maxHeartbeats 4000000 in
theorem gs_26 {p : Program} {l : Launch} {e : Env} {s : State} {m : MethodId} {args : Array Value} {below : List Frame} {meth : Method} {c : Code} {w : hz_C} (hl : l.stackTraces = false) (hO : hz_Ok p s m args meth c w cL_law 9 "HotStepsLaw" (some .boolean)) {b L : Nat} {xs : Nat → Int32} (hT : va_T .int b L (fun j => .int (xs j)) (hz_A w) s s.heap) (hL : L ≤ 3072) {n : Nat} (hn : n + 6 ≤ L) {z : hz_Z} (hz : z.2.1 + 1 ≤ z.1.1 ∧ z.2.2 + 6 ≤ z.1.2) {Q : State → Prop} {M ME : hz_M} {rE : Int32} (h : fs_26 (xs (n + 1)) (xs (n + 2)) M = some (rE, ME)) (kk : hz_G p l e 1400 (hz_zn z 1 6) s m args below meth c w 194 9 Q ME 2158 [(4, .int (nI n)), (0, .ref b), (1, .ref (hz_ad w 0)), (2, .ref (hz_ad w 178)), (3, .ref (hz_ad w 193))] []) : hz_G p l e 1400 z s m args below meth c w 194 9 Q M 1418 [(4, .int (nI n)), (0, .ref b), (1, .ref (hz_ad w 0)), (2, .ref (hz_ad w 178)), (3, .ref (hz_ad w 193))] [] := by
  have hN1 : 178 ≤ 194 := (Nat.le_of_ble_eq_true rfl)
  have hN2 : 193 ≤ 194 := (Nat.le_of_ble_eq_true rfl)
  have hN3 : 194 ≤ 194 := Nat.le_refl _
  unfold fs_26 at h
  refine hz_aload_n hO dL_law_1418 rfl 2 rfl ?_
  refine hz_aload_n hO dL_law_1419 rfl 1 rfl ?_
  refine hz_iload hO dL_law_1420 0 rfl ?_
  refine hz_iconst (v := (1 : Int32)) hO dL_law_1422 (by decide) ?_
  refine hz_iadd hO dL_law_1423 ?_
  refine hz_name (y := nI (n + 1)) (nI_add n 1).symm ?_
  refine hz_scr hO hT hL (n := n + 1) (by omega) dL_law_1424 ?_
  refine hz_aload_n hO dL_law_1425 rfl 1 rfl ?_
  refine hz_iload hO dL_law_1426 0 rfl ?_
  refine hz_iconst (v := (2 : Int32)) hO dL_law_1428 (by decide) ?_
  refine hz_iadd hO dL_law_1429 ?_
  refine hz_name (y := nI (n + 2)) (nI_add n 2).symm ?_
  refine hz_scr hO hT hL (n := n + 2) (by omega) dL_law_1430 ?_
  refine hz_aload_n hO dL_law_1431 rfl 4 rfl ?_
  obtain ⟨r1, M2, hq3, h⟩ := hz_ct_e h
  refine hz_callW (n := 4) (as := [.ref (hz_ad w 0), .int (xs (n + 1)), .int (xs (n + 2)), .ref (hz_ad w 193)]) (rest := []) hO (c_L_sit l hl w hN3 (xs (n + 1)) (xs (n + 2)) hq3) hz_cal_L_sit tw_6_25 tw_6_26 tw_1_0 ⟨by decide, by decide, by decide +kernel⟩ (Nat.le_of_ble_eq_true rfl) (Nat.le_of_ble_eq_true rfl) rfl rfl (Nat.le_of_ble_eq_true rfl) hz dL_law_1432 ?_
  refine hz_istore (ls1 := [(5, .int r1), (4, .int (nI n)), (0, .ref b), (1, .ref (hz_ad w 0)), (2, .ref (hz_ad w 178)), (3, .ref (hz_ad w 193))]) hO dL_law_1435 (Nat.le_of_ble_eq_true rfl) rfl ?_
  refine hz_aload_n hO dL_law_1437 rfl 4 rfl ?_
  refine hz_aload_n hO dL_law_1438 rfl 2 rfl ?_
  refine hz_iload hO dL_law_1439 1 rfl ?_
  refine hz_iconst (v := (1 : Int32)) hO dL_law_1441 (by decide) ?_
  refine hz_iadd hO dL_law_1442 ?_
  refine hz_name (y := nI (n + 1)) (nI_add n 1).symm ?_
  refine hz_scr hO hT hL (n := n + 1) (by omega) dL_law_1443 ?_
  refine hz_aload_n hO dL_law_1444 rfl 2 rfl ?_
  refine hz_iload hO dL_law_1445 1 rfl ?_
  refine hz_iconst (v := (2 : Int32)) hO dL_law_1447 (by decide) ?_
  refine hz_iadd hO dL_law_1448 ?_
  refine hz_name (y := nI (n + 2)) (nI_add n 2).symm ?_
  refine hz_scr hO hT hL (n := n + 2) (by omega) dL_law_1449 ?_
  obtain ⟨r4, M5, hq6, h⟩ := hz_ct_e h
  refine hz_callVi (as := [.int (xs (n + 1)), .int (xs (n + 2))]) (rest := []) hO (c_X11_sit l w hN2 (xs (n + 1)) (xs (n + 2)) hq6) hz_cal_X11_sit hz_K_9 hz_sh_178 (hz_lt_178 hN2) tw_8_237 (Nat.le_of_ble_eq_true rfl) rfl rfl (Nat.le_of_ble_eq_true rfl) dL_law_1450 ?_
  refine hz_istore (ls1 := [(6, .int r4), (5, .int r1), (4, .int (nI n)), (0, .ref b), (1, .ref (hz_ad w 0)), (2, .ref (hz_ad w 178)), (3, .ref (hz_ad w 193))]) hO dL_law_1453 (Nat.le_of_ble_eq_true rfl) rfl ?_
  refine hz_aload_n hO dL_law_1455 rfl 5 rfl ?_
  obtain ⟨r7, M8, hq9, h⟩ := hz_ct_e h
  refine hz_callVi (as := []) (rest := []) hO (c_X11_thrown l w hN2 hq9) hz_cal_X11_thrown hz_K_9 hz_sh_178 (hz_lt_178 hN2) tw_7_74 (Nat.le_of_ble_eq_true rfl) rfl rfl (Nat.le_of_ble_eq_true rfl) dL_law_1456 ?_
  refine hz_iload hO dL_law_1459 1 rfl ?_
  obtain ⟨hg10, h⟩ := hz_gd_e h
  refine hz_icmp_eq (tgt := 1466) hO dL_law_1461 (by decide) (fun _ => ?_) (fun hc => absurd (eq_of_beq hg10) hc)
  refine hz_iload hO dL_law_1466 1 rfl ?_
  obtain ⟨hg11, h⟩ := hz_gd_e h
  refine hz_if_ne (tgt := 1483) hO dL_law_1468 (by decide) (fun _ => ?_) (fun hc => ?_)
  · refine hz_goto (tgt := 2158) hO dL_law_1483 (by decide) ?_
    refine hz_ls (ls1 := [(4, .int (nI n)), (0, .ref b), (1, .ref (hz_ad w 0)), (2, .ref (hz_ad w 178)), (3, .ref (hz_ad w 193))]) [2, 3, 4, 5, 6] rfl ?_
    exact hz_nameM (hz_some_e h).2.symm kk
  · have hE : M8 193 0 = r4 := by simpa [hc] using hg11
    refine hz_aload_n hO dL_law_1471 rfl 6 rfl ?_
    refine hz_iconst (v := (0 : Int32)) hO dL_law_1472 (by decide) ?_
    refine hz_lald hO hz_sh_193 (hz_lt_193 hN3) (by decide) dL_law_1473 ?_
    refine hz_iload hO dL_law_1474 0 rfl ?_
    refine hz_i2l hO dL_law_1476 ?_
    refine hz_lcmp hO dL_law_1477 ?_
    refine hz_name (y := 0) (by rw [show (0 : Int32).toNatClampNeg = 0 from rfl, hE]; exact hz_lcmp0.symm) ?_
    refine hz_if_eq (tgt := 1483) hO dL_law_1478 (by decide) (fun _ => ?_) (fun hc => absurd rfl hc)
    refine hz_goto (tgt := 2158) hO dL_law_1483 (by decide) ?_
    refine hz_ls (ls1 := [(4, .int (nI n)), (0, .ref b), (1, .ref (hz_ad w 0)), (2, .ref (hz_ad w 178)), (3, .ref (hz_ad w 193))]) [2, 3, 4, 5, 6] rfl ?_
    exact hz_nameM (hz_some_e h).2.symm kk
def fs_27 (a1 : Int32) (M : hz_M) : hz_O :=
  hz_ct (f_L_hall a1 M) fun r1 M2 =>
  hz_ct (f_X11_hall a1 M2) fun r4 M5 =>
  hz_ct (f_X11_thrown M5) fun r7 M8 =>
  hz_gd (r7 == r1) <|
  hz_gd (!(r1 == 0) || M8 193 0 == r4) <|
  some (0, M8)
set_option maxRecDepth 100000 in
set_option maxHeartbeats 4000000 in
theorem gs_27 {p : Program} {l : Launch} {e : Env} {s : State} {m : MethodId} {args : Array Value} {below : List Frame} {meth : Method} {c : Code} {w : hz_C} (hl : l.stackTraces = false) (hO : hz_Ok p s m args meth c w cL_law 9 "HotStepsLaw" (some .boolean)) {b L : Nat} {xs : Nat → Int32} (hT : va_T .int b L (fun j => .int (xs j)) (hz_A w) s s.heap) (hL : L ≤ 3072) {n : Nat} (hn : n + 6 ≤ L) {z : hz_Z} (hz : z.2.1 + 1 ≤ z.1.1 ∧ z.2.2 + 6 ≤ z.1.2) {Q : State → Prop} {M ME : hz_M} {rE : Int32} (h : fs_27 (xs (n + 1)) M = some (rE, ME)) (kk : hz_G p l e 1400 (hz_zn z 1 6) s m args below meth c w 194 9 Q ME 2158 [(4, .int (nI n)), (0, .ref b), (1, .ref (hz_ad w 0)), (2, .ref (hz_ad w 178)), (3, .ref (hz_ad w 193))] []) : hz_G p l e 1400 z s m args below meth c w 194 9 Q M 1486 [(4, .int (nI n)), (0, .ref b), (1, .ref (hz_ad w 0)), (2, .ref (hz_ad w 178)), (3, .ref (hz_ad w 193))] [] := by
  have hN1 : 178 ≤ 194 := (Nat.le_of_ble_eq_true rfl)
  have hN2 : 193 ≤ 194 := (Nat.le_of_ble_eq_true rfl)
  have hN3 : 194 ≤ 194 := Nat.le_refl _
  unfold fs_27 at h
  refine hz_aload_n hO dL_law_1486 rfl 2 rfl ?_
  refine hz_aload_n hO dL_law_1487 rfl 1 rfl ?_
  refine hz_iload hO dL_law_1488 0 rfl ?_
  refine hz_iconst (v := (1 : Int32)) hO dL_law_1490 (by decide) ?_
  refine hz_iadd hO dL_law_1491 ?_
  refine hz_name (y := nI (n + 1)) (nI_add n 1).symm ?_
  refine hz_scr hO hT hL (n := n + 1) (by omega) dL_law_1492 ?_
  refine hz_aload_n hO dL_law_1493 rfl 4 rfl ?_
  obtain ⟨r1, M2, hq3, h⟩ := hz_ct_e h
  refine hz_callW (n := 3) (as := [.ref (hz_ad w 0), .int (xs (n + 1)), .ref (hz_ad w 193)]) (rest := []) hO (c_L_hall l hl w hN3 (xs (n + 1)) hq3) hz_cal_L_hall tw_6_33 tw_6_34 tw_1_0 ⟨by decide, by decide, by decide +kernel⟩ (Nat.le_of_ble_eq_true rfl) (Nat.le_of_ble_eq_true rfl) rfl rfl (Nat.le_of_ble_eq_true rfl) hz dL_law_1494 ?_
  refine hz_istore (ls1 := [(5, .int r1), (4, .int (nI n)), (0, .ref b), (1, .ref (hz_ad w 0)), (2, .ref (hz_ad w 178)), (3, .ref (hz_ad w 193))]) hO dL_law_1497 (Nat.le_of_ble_eq_true rfl) rfl ?_
  refine hz_aload_n hO dL_law_1499 rfl 4 rfl ?_
  refine hz_aload_n hO dL_law_1500 rfl 2 rfl ?_
  refine hz_iload hO dL_law_1501 1 rfl ?_
  refine hz_iconst (v := (1 : Int32)) hO dL_law_1503 (by decide) ?_
  refine hz_iadd hO dL_law_1504 ?_
  refine hz_name (y := nI (n + 1)) (nI_add n 1).symm ?_
  refine hz_scr hO hT hL (n := n + 1) (by omega) dL_law_1505 ?_
  obtain ⟨r4, M5, hq6, h⟩ := hz_ct_e h
  refine hz_callVi (as := [.int (xs (n + 1))]) (rest := []) hO (c_X11_hall l w hN2 (xs (n + 1)) hq6) hz_cal_X11_hall hz_K_9 hz_sh_178 (hz_lt_178 hN2) tw_9_1 (Nat.le_of_ble_eq_true rfl) rfl rfl (Nat.le_of_ble_eq_true rfl) dL_law_1506 ?_
  refine hz_istore (ls1 := [(6, .int r4), (5, .int r1), (4, .int (nI n)), (0, .ref b), (1, .ref (hz_ad w 0)), (2, .ref (hz_ad w 178)), (3, .ref (hz_ad w 193))]) hO dL_law_1509 (Nat.le_of_ble_eq_true rfl) rfl ?_
  refine hz_aload_n hO dL_law_1511 rfl 5 rfl ?_
  obtain ⟨r7, M8, hq9, h⟩ := hz_ct_e h
  refine hz_callVi (as := []) (rest := []) hO (c_X11_thrown l w hN2 hq9) hz_cal_X11_thrown hz_K_9 hz_sh_178 (hz_lt_178 hN2) tw_7_74 (Nat.le_of_ble_eq_true rfl) rfl rfl (Nat.le_of_ble_eq_true rfl) dL_law_1512 ?_
  refine hz_iload hO dL_law_1515 1 rfl ?_
  obtain ⟨hg10, h⟩ := hz_gd_e h
  refine hz_icmp_eq (tgt := 1522) hO dL_law_1517 (by decide) (fun _ => ?_) (fun hc => absurd (eq_of_beq hg10) hc)
  refine hz_iload hO dL_law_1522 1 rfl ?_
  obtain ⟨hg11, h⟩ := hz_gd_e h
  refine hz_if_ne (tgt := 1539) hO dL_law_1524 (by decide) (fun _ => ?_) (fun hc => ?_)
  · refine hz_goto (tgt := 2158) hO dL_law_1539 (by decide) ?_
    refine hz_ls (ls1 := [(4, .int (nI n)), (0, .ref b), (1, .ref (hz_ad w 0)), (2, .ref (hz_ad w 178)), (3, .ref (hz_ad w 193))]) [2, 3, 4, 5, 6] rfl ?_
    exact hz_nameM (hz_some_e h).2.symm kk
  · have hE : M8 193 0 = r4 := by simpa [hc] using hg11
    refine hz_aload_n hO dL_law_1527 rfl 6 rfl ?_
    refine hz_iconst (v := (0 : Int32)) hO dL_law_1528 (by decide) ?_
    refine hz_lald hO hz_sh_193 (hz_lt_193 hN3) (by decide) dL_law_1529 ?_
    refine hz_iload hO dL_law_1530 0 rfl ?_
    refine hz_i2l hO dL_law_1532 ?_
    refine hz_lcmp hO dL_law_1533 ?_
    refine hz_name (y := 0) (by rw [show (0 : Int32).toNatClampNeg = 0 from rfl, hE]; exact hz_lcmp0.symm) ?_
    refine hz_if_eq (tgt := 1539) hO dL_law_1534 (by decide) (fun _ => ?_) (fun hc => absurd rfl hc)
    refine hz_goto (tgt := 2158) hO dL_law_1539 (by decide) ?_
    refine hz_ls (ls1 := [(4, .int (nI n)), (0, .ref b), (1, .ref (hz_ad w 0)), (2, .ref (hz_ad w 178)), (3, .ref (hz_ad w 193))]) [2, 3, 4, 5, 6] rfl ?_
    exact hz_nameM (hz_some_e h).2.symm kk
def fs_28 (a1 : Int32) (a2 : Int32) (M : hz_M) : hz_O :=
  hz_ct (f_L_hang a1 a2 M) fun r1 M2 =>
  hz_ct (f_X11_hang a1 a2 M2) fun r4 M5 =>
  hz_ct (f_X11_thrown M5) fun r7 M8 =>
  hz_gd (r7 == r1) <|
  hz_gd (!(r1 == 0) || M8 193 0 == r4) <|
  some (0, M8)
set_option maxRecDepth 100000 in
set_option maxHeartbeats 4000000 in
theorem gs_28 {p : Program} {l : Launch} {e : Env} {s : State} {m : MethodId} {args : Array Value} {below : List Frame} {meth : Method} {c : Code} {w : hz_C} (hl : l.stackTraces = false) (hO : hz_Ok p s m args meth c w cL_law 9 "HotStepsLaw" (some .boolean)) {b L : Nat} {xs : Nat → Int32} (hT : va_T .int b L (fun j => .int (xs j)) (hz_A w) s s.heap) (hL : L ≤ 3072) {n : Nat} (hn : n + 6 ≤ L) {z : hz_Z} (hz : z.2.1 + 1 ≤ z.1.1 ∧ z.2.2 + 6 ≤ z.1.2) {Q : State → Prop} {M ME : hz_M} {rE : Int32} (h : fs_28 (xs (n + 1)) (xs (n + 2)) M = some (rE, ME)) (kk : hz_G p l e 1400 (hz_zn z 1 6) s m args below meth c w 194 9 Q ME 2158 [(4, .int (nI n)), (0, .ref b), (1, .ref (hz_ad w 0)), (2, .ref (hz_ad w 178)), (3, .ref (hz_ad w 193))] []) : hz_G p l e 1400 z s m args below meth c w 194 9 Q M 1542 [(4, .int (nI n)), (0, .ref b), (1, .ref (hz_ad w 0)), (2, .ref (hz_ad w 178)), (3, .ref (hz_ad w 193))] [] := by
  have hN1 : 178 ≤ 194 := (Nat.le_of_ble_eq_true rfl)
  have hN2 : 193 ≤ 194 := (Nat.le_of_ble_eq_true rfl)
  have hN3 : 194 ≤ 194 := Nat.le_refl _
  unfold fs_28 at h
  refine hz_aload_n hO dL_law_1542 rfl 2 rfl ?_
  refine hz_aload_n hO dL_law_1543 rfl 1 rfl ?_
  refine hz_iload hO dL_law_1544 0 rfl ?_
  refine hz_iconst (v := (1 : Int32)) hO dL_law_1546 (by decide) ?_
  refine hz_iadd hO dL_law_1547 ?_
  refine hz_name (y := nI (n + 1)) (nI_add n 1).symm ?_
  refine hz_scr hO hT hL (n := n + 1) (by omega) dL_law_1548 ?_
  refine hz_aload_n hO dL_law_1549 rfl 1 rfl ?_
  refine hz_iload hO dL_law_1550 0 rfl ?_
  refine hz_iconst (v := (2 : Int32)) hO dL_law_1552 (by decide) ?_
  refine hz_iadd hO dL_law_1553 ?_
  refine hz_name (y := nI (n + 2)) (nI_add n 2).symm ?_
  refine hz_scr hO hT hL (n := n + 2) (by omega) dL_law_1554 ?_
  refine hz_aload_n hO dL_law_1555 rfl 4 rfl ?_
  obtain ⟨r1, M2, hq3, h⟩ := hz_ct_e h
  refine hz_callW (n := 4) (as := [.ref (hz_ad w 0), .int (xs (n + 1)), .int (xs (n + 2)), .ref (hz_ad w 193)]) (rest := []) hO (c_L_hang l hl w hN3 (xs (n + 1)) (xs (n + 2)) hq3) hz_cal_L_hang tw_6_42 tw_6_43 tw_1_0 ⟨by decide, by decide, by decide +kernel⟩ (Nat.le_of_ble_eq_true rfl) (Nat.le_of_ble_eq_true rfl) rfl rfl (Nat.le_of_ble_eq_true rfl) hz dL_law_1556 ?_
  refine hz_istore (ls1 := [(5, .int r1), (4, .int (nI n)), (0, .ref b), (1, .ref (hz_ad w 0)), (2, .ref (hz_ad w 178)), (3, .ref (hz_ad w 193))]) hO dL_law_1559 (Nat.le_of_ble_eq_true rfl) rfl ?_
  refine hz_aload_n hO dL_law_1561 rfl 4 rfl ?_
  refine hz_aload_n hO dL_law_1562 rfl 2 rfl ?_
  refine hz_iload hO dL_law_1563 1 rfl ?_
  refine hz_iconst (v := (1 : Int32)) hO dL_law_1565 (by decide) ?_
  refine hz_iadd hO dL_law_1566 ?_
  refine hz_name (y := nI (n + 1)) (nI_add n 1).symm ?_
  refine hz_scr hO hT hL (n := n + 1) (by omega) dL_law_1567 ?_
  refine hz_aload_n hO dL_law_1568 rfl 2 rfl ?_
  refine hz_iload hO dL_law_1569 1 rfl ?_
  refine hz_iconst (v := (2 : Int32)) hO dL_law_1571 (by decide) ?_
  refine hz_iadd hO dL_law_1572 ?_
  refine hz_name (y := nI (n + 2)) (nI_add n 2).symm ?_
  refine hz_scr hO hT hL (n := n + 2) (by omega) dL_law_1573 ?_
  obtain ⟨r4, M5, hq6, h⟩ := hz_ct_e h
  refine hz_callVi (as := [.int (xs (n + 1)), .int (xs (n + 2))]) (rest := []) hO (c_X11_hang l w hN2 (xs (n + 1)) (xs (n + 2)) hq6) hz_cal_X11_hang hz_K_9 hz_sh_178 (hz_lt_178 hN2) tw_9_5 (Nat.le_of_ble_eq_true rfl) rfl rfl (Nat.le_of_ble_eq_true rfl) dL_law_1574 ?_
  refine hz_istore (ls1 := [(6, .int r4), (5, .int r1), (4, .int (nI n)), (0, .ref b), (1, .ref (hz_ad w 0)), (2, .ref (hz_ad w 178)), (3, .ref (hz_ad w 193))]) hO dL_law_1577 (Nat.le_of_ble_eq_true rfl) rfl ?_
  refine hz_aload_n hO dL_law_1579 rfl 5 rfl ?_
  obtain ⟨r7, M8, hq9, h⟩ := hz_ct_e h
  refine hz_callVi (as := []) (rest := []) hO (c_X11_thrown l w hN2 hq9) hz_cal_X11_thrown hz_K_9 hz_sh_178 (hz_lt_178 hN2) tw_7_74 (Nat.le_of_ble_eq_true rfl) rfl rfl (Nat.le_of_ble_eq_true rfl) dL_law_1580 ?_
  refine hz_iload hO dL_law_1583 1 rfl ?_
  obtain ⟨hg10, h⟩ := hz_gd_e h
  refine hz_icmp_eq (tgt := 1590) hO dL_law_1585 (by decide) (fun _ => ?_) (fun hc => absurd (eq_of_beq hg10) hc)
  refine hz_iload hO dL_law_1590 1 rfl ?_
  obtain ⟨hg11, h⟩ := hz_gd_e h
  refine hz_if_ne (tgt := 1607) hO dL_law_1592 (by decide) (fun _ => ?_) (fun hc => ?_)
  · refine hz_goto (tgt := 2158) hO dL_law_1607 (by decide) ?_
    refine hz_ls (ls1 := [(4, .int (nI n)), (0, .ref b), (1, .ref (hz_ad w 0)), (2, .ref (hz_ad w 178)), (3, .ref (hz_ad w 193))]) [2, 3, 4, 5, 6] rfl ?_
    exact hz_nameM (hz_some_e h).2.symm kk
  · have hE : M8 193 0 = r4 := by simpa [hc] using hg11
    refine hz_aload_n hO dL_law_1595 rfl 6 rfl ?_
    refine hz_iconst (v := (0 : Int32)) hO dL_law_1596 (by decide) ?_
    refine hz_lald hO hz_sh_193 (hz_lt_193 hN3) (by decide) dL_law_1597 ?_
    refine hz_iload hO dL_law_1598 0 rfl ?_
    refine hz_i2l hO dL_law_1600 ?_
    refine hz_lcmp hO dL_law_1601 ?_
    refine hz_name (y := 0) (by rw [show (0 : Int32).toNatClampNeg = 0 from rfl, hE]; exact hz_lcmp0.symm) ?_
    refine hz_if_eq (tgt := 1607) hO dL_law_1602 (by decide) (fun _ => ?_) (fun hc => absurd rfl hc)
    refine hz_goto (tgt := 2158) hO dL_law_1607 (by decide) ?_
    refine hz_ls (ls1 := [(4, .int (nI n)), (0, .ref b), (1, .ref (hz_ad w 0)), (2, .ref (hz_ad w 178)), (3, .ref (hz_ad w 193))]) [2, 3, 4, 5, 6] rfl ?_
    exact hz_nameM (hz_some_e h).2.symm kk
def fs_29 (a1 : Int32) (a2 : Int32) (M : hz_M) : hz_O :=
  hz_ct (f_L_take a1 a2 M) fun r1 M2 =>
  hz_ct (f_X11_take a1 a2 M2) fun r4 M5 =>
  hz_ct (f_X11_thrown M5) fun r7 M8 =>
  hz_gd (r7 == r1) <|
  hz_gd (!(r1 == 0) || M8 193 0 == r4) <|
  some (0, M8)
set_option maxRecDepth 100000 in
set_option maxHeartbeats 4000000 in
theorem gs_29 {p : Program} {l : Launch} {e : Env} {s : State} {m : MethodId} {args : Array Value} {below : List Frame} {meth : Method} {c : Code} {w : hz_C} (hl : l.stackTraces = false) (hO : hz_Ok p s m args meth c w cL_law 9 "HotStepsLaw" (some .boolean)) {b L : Nat} {xs : Nat → Int32} (hT : va_T .int b L (fun j => .int (xs j)) (hz_A w) s s.heap) (hL : L ≤ 3072) {n : Nat} (hn : n + 6 ≤ L) {z : hz_Z} (hz : z.2.1 + 1 ≤ z.1.1 ∧ z.2.2 + 6 ≤ z.1.2) {Q : State → Prop} {M ME : hz_M} {rE : Int32} (h : fs_29 (xs (n + 1)) (xs (n + 2)) M = some (rE, ME)) (kk : hz_G p l e 1400 (hz_zn z 1 6) s m args below meth c w 194 9 Q ME 2158 [(4, .int (nI n)), (0, .ref b), (1, .ref (hz_ad w 0)), (2, .ref (hz_ad w 178)), (3, .ref (hz_ad w 193))] []) : hz_G p l e 1400 z s m args below meth c w 194 9 Q M 1610 [(4, .int (nI n)), (0, .ref b), (1, .ref (hz_ad w 0)), (2, .ref (hz_ad w 178)), (3, .ref (hz_ad w 193))] [] := by
  have hN1 : 178 ≤ 194 := (Nat.le_of_ble_eq_true rfl)
  have hN2 : 193 ≤ 194 := (Nat.le_of_ble_eq_true rfl)
  have hN3 : 194 ≤ 194 := Nat.le_refl _
  unfold fs_29 at h
  refine hz_aload_n hO dL_law_1610 rfl 2 rfl ?_
  refine hz_aload_n hO dL_law_1611 rfl 1 rfl ?_
  refine hz_iload hO dL_law_1612 0 rfl ?_
  refine hz_iconst (v := (1 : Int32)) hO dL_law_1614 (by decide) ?_
  refine hz_iadd hO dL_law_1615 ?_
  refine hz_name (y := nI (n + 1)) (nI_add n 1).symm ?_
  refine hz_scr hO hT hL (n := n + 1) (by omega) dL_law_1616 ?_
  refine hz_aload_n hO dL_law_1617 rfl 1 rfl ?_
  refine hz_iload hO dL_law_1618 0 rfl ?_
  refine hz_iconst (v := (2 : Int32)) hO dL_law_1620 (by decide) ?_
  refine hz_iadd hO dL_law_1621 ?_
  refine hz_name (y := nI (n + 2)) (nI_add n 2).symm ?_
  refine hz_scr hO hT hL (n := n + 2) (by omega) dL_law_1622 ?_
  refine hz_aload_n hO dL_law_1623 rfl 4 rfl ?_
  obtain ⟨r1, M2, hq3, h⟩ := hz_ct_e h
  refine hz_callW (n := 4) (as := [.ref (hz_ad w 0), .int (xs (n + 1)), .int (xs (n + 2)), .ref (hz_ad w 193)]) (rest := []) hO (c_L_take l hl w hN3 (xs (n + 1)) (xs (n + 2)) hq3) hz_cal_L_take tw_6_50 tw_6_51 tw_1_0 ⟨by decide, by decide, by decide +kernel⟩ (Nat.le_of_ble_eq_true rfl) (Nat.le_of_ble_eq_true rfl) rfl rfl (Nat.le_of_ble_eq_true rfl) hz dL_law_1624 ?_
  refine hz_istore (ls1 := [(5, .int r1), (4, .int (nI n)), (0, .ref b), (1, .ref (hz_ad w 0)), (2, .ref (hz_ad w 178)), (3, .ref (hz_ad w 193))]) hO dL_law_1627 (Nat.le_of_ble_eq_true rfl) rfl ?_
  refine hz_aload_n hO dL_law_1629 rfl 4 rfl ?_
  refine hz_aload_n hO dL_law_1630 rfl 2 rfl ?_
  refine hz_iload hO dL_law_1631 1 rfl ?_
  refine hz_iconst (v := (1 : Int32)) hO dL_law_1633 (by decide) ?_
  refine hz_iadd hO dL_law_1634 ?_
  refine hz_name (y := nI (n + 1)) (nI_add n 1).symm ?_
  refine hz_scr hO hT hL (n := n + 1) (by omega) dL_law_1635 ?_
  refine hz_aload_n hO dL_law_1636 rfl 2 rfl ?_
  refine hz_iload hO dL_law_1637 1 rfl ?_
  refine hz_iconst (v := (2 : Int32)) hO dL_law_1639 (by decide) ?_
  refine hz_iadd hO dL_law_1640 ?_
  refine hz_name (y := nI (n + 2)) (nI_add n 2).symm ?_
  refine hz_scr hO hT hL (n := n + 2) (by omega) dL_law_1641 ?_
  obtain ⟨r4, M5, hq6, h⟩ := hz_ct_e h
  refine hz_callVi (as := [.int (xs (n + 1)), .int (xs (n + 2))]) (rest := []) hO (c_X11_take l w hN2 (xs (n + 1)) (xs (n + 2)) hq6) hz_cal_X11_take hz_K_9 hz_sh_178 (hz_lt_178 hN2) tw_9_9 (Nat.le_of_ble_eq_true rfl) rfl rfl (Nat.le_of_ble_eq_true rfl) dL_law_1642 ?_
  refine hz_istore (ls1 := [(6, .int r4), (5, .int r1), (4, .int (nI n)), (0, .ref b), (1, .ref (hz_ad w 0)), (2, .ref (hz_ad w 178)), (3, .ref (hz_ad w 193))]) hO dL_law_1645 (Nat.le_of_ble_eq_true rfl) rfl ?_
  refine hz_aload_n hO dL_law_1647 rfl 5 rfl ?_
  obtain ⟨r7, M8, hq9, h⟩ := hz_ct_e h
  refine hz_callVi (as := []) (rest := []) hO (c_X11_thrown l w hN2 hq9) hz_cal_X11_thrown hz_K_9 hz_sh_178 (hz_lt_178 hN2) tw_7_74 (Nat.le_of_ble_eq_true rfl) rfl rfl (Nat.le_of_ble_eq_true rfl) dL_law_1648 ?_
  refine hz_iload hO dL_law_1651 1 rfl ?_
  obtain ⟨hg10, h⟩ := hz_gd_e h
  refine hz_icmp_eq (tgt := 1658) hO dL_law_1653 (by decide) (fun _ => ?_) (fun hc => absurd (eq_of_beq hg10) hc)
  refine hz_iload hO dL_law_1658 1 rfl ?_
  obtain ⟨hg11, h⟩ := hz_gd_e h
  refine hz_if_ne (tgt := 1675) hO dL_law_1660 (by decide) (fun _ => ?_) (fun hc => ?_)
  · refine hz_goto (tgt := 2158) hO dL_law_1675 (by decide) ?_
    refine hz_ls (ls1 := [(4, .int (nI n)), (0, .ref b), (1, .ref (hz_ad w 0)), (2, .ref (hz_ad w 178)), (3, .ref (hz_ad w 193))]) [2, 3, 4, 5, 6] rfl ?_
    exact hz_nameM (hz_some_e h).2.symm kk
  · have hE : M8 193 0 = r4 := by simpa [hc] using hg11
    refine hz_aload_n hO dL_law_1663 rfl 6 rfl ?_
    refine hz_iconst (v := (0 : Int32)) hO dL_law_1664 (by decide) ?_
    refine hz_lald hO hz_sh_193 (hz_lt_193 hN3) (by decide) dL_law_1665 ?_
    refine hz_iload hO dL_law_1666 0 rfl ?_
    refine hz_i2l hO dL_law_1668 ?_
    refine hz_lcmp hO dL_law_1669 ?_
    refine hz_name (y := 0) (by rw [show (0 : Int32).toNatClampNeg = 0 from rfl, hE]; exact hz_lcmp0.symm) ?_
    refine hz_if_eq (tgt := 1675) hO dL_law_1670 (by decide) (fun _ => ?_) (fun hc => absurd rfl hc)
    refine hz_goto (tgt := 2158) hO dL_law_1675 (by decide) ?_
    refine hz_ls (ls1 := [(4, .int (nI n)), (0, .ref b), (1, .ref (hz_ad w 0)), (2, .ref (hz_ad w 178)), (3, .ref (hz_ad w 193))]) [2, 3, 4, 5, 6] rfl ?_
    exact hz_nameM (hz_some_e h).2.symm kk
def fs_30 (a1 : Int32) (M : hz_M) : hz_O :=
  hz_ct (f_L_leave a1 M) fun r1 M2 =>
  hz_ct (f_X11_leave a1 M2) fun r4 M5 =>
  hz_ct (f_X11_thrown M5) fun r7 M8 =>
  hz_gd (r7 == r1) <|
  hz_gd (!(r1 == 0) || M8 193 0 == r4) <|
  some (0, M8)
set_option maxRecDepth 100000 in
set_option maxHeartbeats 4000000 in
theorem gs_30 {p : Program} {l : Launch} {e : Env} {s : State} {m : MethodId} {args : Array Value} {below : List Frame} {meth : Method} {c : Code} {w : hz_C} (hl : l.stackTraces = false) (hO : hz_Ok p s m args meth c w cL_law 9 "HotStepsLaw" (some .boolean)) {b L : Nat} {xs : Nat → Int32} (hT : va_T .int b L (fun j => .int (xs j)) (hz_A w) s s.heap) (hL : L ≤ 3072) {n : Nat} (hn : n + 6 ≤ L) {z : hz_Z} (hz : z.2.1 + 1 ≤ z.1.1 ∧ z.2.2 + 6 ≤ z.1.2) {Q : State → Prop} {M ME : hz_M} {rE : Int32} (h : fs_30 (xs (n + 1)) M = some (rE, ME)) (kk : hz_G p l e 1400 (hz_zn z 1 6) s m args below meth c w 194 9 Q ME 2158 [(4, .int (nI n)), (0, .ref b), (1, .ref (hz_ad w 0)), (2, .ref (hz_ad w 178)), (3, .ref (hz_ad w 193))] []) : hz_G p l e 1400 z s m args below meth c w 194 9 Q M 1678 [(4, .int (nI n)), (0, .ref b), (1, .ref (hz_ad w 0)), (2, .ref (hz_ad w 178)), (3, .ref (hz_ad w 193))] [] := by
  have hN1 : 178 ≤ 194 := (Nat.le_of_ble_eq_true rfl)
  have hN2 : 193 ≤ 194 := (Nat.le_of_ble_eq_true rfl)
  have hN3 : 194 ≤ 194 := Nat.le_refl _
  unfold fs_30 at h
  refine hz_aload_n hO dL_law_1678 rfl 2 rfl ?_
  refine hz_aload_n hO dL_law_1679 rfl 1 rfl ?_
  refine hz_iload hO dL_law_1680 0 rfl ?_
  refine hz_iconst (v := (1 : Int32)) hO dL_law_1682 (by decide) ?_
  refine hz_iadd hO dL_law_1683 ?_
  refine hz_name (y := nI (n + 1)) (nI_add n 1).symm ?_
  refine hz_scr hO hT hL (n := n + 1) (by omega) dL_law_1684 ?_
  refine hz_aload_n hO dL_law_1685 rfl 4 rfl ?_
  obtain ⟨r1, M2, hq3, h⟩ := hz_ct_e h
  refine hz_callW (n := 3) (as := [.ref (hz_ad w 0), .int (xs (n + 1)), .ref (hz_ad w 193)]) (rest := []) hO (c_L_leave l hl w hN3 (xs (n + 1)) hq3) hz_cal_L_leave tw_6_58 tw_6_59 tw_1_0 ⟨by decide, by decide, by decide +kernel⟩ (Nat.le_of_ble_eq_true rfl) (Nat.le_of_ble_eq_true rfl) rfl rfl (Nat.le_of_ble_eq_true rfl) hz dL_law_1686 ?_
  refine hz_istore (ls1 := [(5, .int r1), (4, .int (nI n)), (0, .ref b), (1, .ref (hz_ad w 0)), (2, .ref (hz_ad w 178)), (3, .ref (hz_ad w 193))]) hO dL_law_1689 (Nat.le_of_ble_eq_true rfl) rfl ?_
  refine hz_aload_n hO dL_law_1691 rfl 4 rfl ?_
  refine hz_aload_n hO dL_law_1692 rfl 2 rfl ?_
  refine hz_iload hO dL_law_1693 1 rfl ?_
  refine hz_iconst (v := (1 : Int32)) hO dL_law_1695 (by decide) ?_
  refine hz_iadd hO dL_law_1696 ?_
  refine hz_name (y := nI (n + 1)) (nI_add n 1).symm ?_
  refine hz_scr hO hT hL (n := n + 1) (by omega) dL_law_1697 ?_
  obtain ⟨r4, M5, hq6, h⟩ := hz_ct_e h
  refine hz_callVi (as := [.int (xs (n + 1))]) (rest := []) hO (c_X11_leave l w hN2 (xs (n + 1)) hq6) hz_cal_X11_leave hz_K_9 hz_sh_178 (hz_lt_178 hN2) tw_9_13 (Nat.le_of_ble_eq_true rfl) rfl rfl (Nat.le_of_ble_eq_true rfl) dL_law_1698 ?_
  refine hz_istore (ls1 := [(6, .int r4), (5, .int r1), (4, .int (nI n)), (0, .ref b), (1, .ref (hz_ad w 0)), (2, .ref (hz_ad w 178)), (3, .ref (hz_ad w 193))]) hO dL_law_1701 (Nat.le_of_ble_eq_true rfl) rfl ?_
  refine hz_aload_n hO dL_law_1703 rfl 5 rfl ?_
  obtain ⟨r7, M8, hq9, h⟩ := hz_ct_e h
  refine hz_callVi (as := []) (rest := []) hO (c_X11_thrown l w hN2 hq9) hz_cal_X11_thrown hz_K_9 hz_sh_178 (hz_lt_178 hN2) tw_7_74 (Nat.le_of_ble_eq_true rfl) rfl rfl (Nat.le_of_ble_eq_true rfl) dL_law_1704 ?_
  refine hz_iload hO dL_law_1707 1 rfl ?_
  obtain ⟨hg10, h⟩ := hz_gd_e h
  refine hz_icmp_eq (tgt := 1714) hO dL_law_1709 (by decide) (fun _ => ?_) (fun hc => absurd (eq_of_beq hg10) hc)
  refine hz_iload hO dL_law_1714 1 rfl ?_
  obtain ⟨hg11, h⟩ := hz_gd_e h
  refine hz_if_ne (tgt := 1731) hO dL_law_1716 (by decide) (fun _ => ?_) (fun hc => ?_)
  · refine hz_goto (tgt := 2158) hO dL_law_1731 (by decide) ?_
    refine hz_ls (ls1 := [(4, .int (nI n)), (0, .ref b), (1, .ref (hz_ad w 0)), (2, .ref (hz_ad w 178)), (3, .ref (hz_ad w 193))]) [2, 3, 4, 5, 6] rfl ?_
    exact hz_nameM (hz_some_e h).2.symm kk
  · have hE : M8 193 0 = r4 := by simpa [hc] using hg11
    refine hz_aload_n hO dL_law_1719 rfl 6 rfl ?_
    refine hz_iconst (v := (0 : Int32)) hO dL_law_1720 (by decide) ?_
    refine hz_lald hO hz_sh_193 (hz_lt_193 hN3) (by decide) dL_law_1721 ?_
    refine hz_iload hO dL_law_1722 0 rfl ?_
    refine hz_i2l hO dL_law_1724 ?_
    refine hz_lcmp hO dL_law_1725 ?_
    refine hz_name (y := 0) (by rw [show (0 : Int32).toNatClampNeg = 0 from rfl, hE]; exact hz_lcmp0.symm) ?_
    refine hz_if_eq (tgt := 1731) hO dL_law_1726 (by decide) (fun _ => ?_) (fun hc => absurd rfl hc)
    refine hz_goto (tgt := 2158) hO dL_law_1731 (by decide) ?_
    refine hz_ls (ls1 := [(4, .int (nI n)), (0, .ref b), (1, .ref (hz_ad w 0)), (2, .ref (hz_ad w 178)), (3, .ref (hz_ad w 193))]) [2, 3, 4, 5, 6] rfl ?_
    exact hz_nameM (hz_some_e h).2.symm kk
def fs_31 (a1 : Int32) (M : hz_M) : hz_O :=
  hz_ct (f_L_speak a1 M) fun r1 M2 =>
  hz_ct (f_X11_speak a1 M2) fun r4 M5 =>
  hz_ct (f_X11_thrown M5) fun r7 M8 =>
  hz_gd (r7 == r1) <|
  hz_gd (!(r1 == 0) || M8 193 0 == r4) <|
  some (0, M8)
set_option maxRecDepth 100000 in
set_option maxHeartbeats 4000000 in
theorem gs_31 {p : Program} {l : Launch} {e : Env} {s : State} {m : MethodId} {args : Array Value} {below : List Frame} {meth : Method} {c : Code} {w : hz_C} (hl : l.stackTraces = false) (hO : hz_Ok p s m args meth c w cL_law 9 "HotStepsLaw" (some .boolean)) {b L : Nat} {xs : Nat → Int32} (hT : va_T .int b L (fun j => .int (xs j)) (hz_A w) s s.heap) (hL : L ≤ 3072) {n : Nat} (hn : n + 6 ≤ L) {z : hz_Z} (hz : z.2.1 + 1 ≤ z.1.1 ∧ z.2.2 + 6 ≤ z.1.2) {Q : State → Prop} {M ME : hz_M} {rE : Int32} (h : fs_31 (xs (n + 1)) M = some (rE, ME)) (kk : hz_G p l e 1400 (hz_zn z 1 6) s m args below meth c w 194 9 Q ME 2158 [(4, .int (nI n)), (0, .ref b), (1, .ref (hz_ad w 0)), (2, .ref (hz_ad w 178)), (3, .ref (hz_ad w 193))] []) : hz_G p l e 1400 z s m args below meth c w 194 9 Q M 1734 [(4, .int (nI n)), (0, .ref b), (1, .ref (hz_ad w 0)), (2, .ref (hz_ad w 178)), (3, .ref (hz_ad w 193))] [] := by
  have hN1 : 178 ≤ 194 := (Nat.le_of_ble_eq_true rfl)
  have hN2 : 193 ≤ 194 := (Nat.le_of_ble_eq_true rfl)
  have hN3 : 194 ≤ 194 := Nat.le_refl _
  unfold fs_31 at h
  refine hz_aload_n hO dL_law_1734 rfl 2 rfl ?_
  refine hz_aload_n hO dL_law_1735 rfl 1 rfl ?_
  refine hz_iload hO dL_law_1736 0 rfl ?_
  refine hz_iconst (v := (1 : Int32)) hO dL_law_1738 (by decide) ?_
  refine hz_iadd hO dL_law_1739 ?_
  refine hz_name (y := nI (n + 1)) (nI_add n 1).symm ?_
  refine hz_scr hO hT hL (n := n + 1) (by omega) dL_law_1740 ?_
  refine hz_aload_n hO dL_law_1741 rfl 4 rfl ?_
  obtain ⟨r1, M2, hq3, h⟩ := hz_ct_e h
  refine hz_callW (n := 3) (as := [.ref (hz_ad w 0), .int (xs (n + 1)), .ref (hz_ad w 193)]) (rest := []) hO (c_L_speak l hl w hN3 (xs (n + 1)) hq3) hz_cal_L_speak tw_6_67 tw_6_68 tw_1_0 ⟨by decide, by decide, by decide +kernel⟩ (Nat.le_of_ble_eq_true rfl) (Nat.le_of_ble_eq_true rfl) rfl rfl (Nat.le_of_ble_eq_true rfl) hz dL_law_1742 ?_
  refine hz_istore (ls1 := [(5, .int r1), (4, .int (nI n)), (0, .ref b), (1, .ref (hz_ad w 0)), (2, .ref (hz_ad w 178)), (3, .ref (hz_ad w 193))]) hO dL_law_1745 (Nat.le_of_ble_eq_true rfl) rfl ?_
  refine hz_aload_n hO dL_law_1747 rfl 4 rfl ?_
  refine hz_aload_n hO dL_law_1748 rfl 2 rfl ?_
  refine hz_iload hO dL_law_1749 1 rfl ?_
  refine hz_iconst (v := (1 : Int32)) hO dL_law_1751 (by decide) ?_
  refine hz_iadd hO dL_law_1752 ?_
  refine hz_name (y := nI (n + 1)) (nI_add n 1).symm ?_
  refine hz_scr hO hT hL (n := n + 1) (by omega) dL_law_1753 ?_
  obtain ⟨r4, M5, hq6, h⟩ := hz_ct_e h
  refine hz_callVi (as := [.int (xs (n + 1))]) (rest := []) hO (c_X11_speak l w hN2 (xs (n + 1)) hq6) hz_cal_X11_speak hz_K_9 hz_sh_178 (hz_lt_178 hN2) tw_9_17 (Nat.le_of_ble_eq_true rfl) rfl rfl (Nat.le_of_ble_eq_true rfl) dL_law_1754 ?_
  refine hz_istore (ls1 := [(6, .int r4), (5, .int r1), (4, .int (nI n)), (0, .ref b), (1, .ref (hz_ad w 0)), (2, .ref (hz_ad w 178)), (3, .ref (hz_ad w 193))]) hO dL_law_1757 (Nat.le_of_ble_eq_true rfl) rfl ?_
  refine hz_aload_n hO dL_law_1759 rfl 5 rfl ?_
  obtain ⟨r7, M8, hq9, h⟩ := hz_ct_e h
  refine hz_callVi (as := []) (rest := []) hO (c_X11_thrown l w hN2 hq9) hz_cal_X11_thrown hz_K_9 hz_sh_178 (hz_lt_178 hN2) tw_7_74 (Nat.le_of_ble_eq_true rfl) rfl rfl (Nat.le_of_ble_eq_true rfl) dL_law_1760 ?_
  refine hz_iload hO dL_law_1763 1 rfl ?_
  obtain ⟨hg10, h⟩ := hz_gd_e h
  refine hz_icmp_eq (tgt := 1770) hO dL_law_1765 (by decide) (fun _ => ?_) (fun hc => absurd (eq_of_beq hg10) hc)
  refine hz_iload hO dL_law_1770 1 rfl ?_
  obtain ⟨hg11, h⟩ := hz_gd_e h
  refine hz_if_ne (tgt := 1787) hO dL_law_1772 (by decide) (fun _ => ?_) (fun hc => ?_)
  · refine hz_goto (tgt := 2158) hO dL_law_1787 (by decide) ?_
    refine hz_ls (ls1 := [(4, .int (nI n)), (0, .ref b), (1, .ref (hz_ad w 0)), (2, .ref (hz_ad w 178)), (3, .ref (hz_ad w 193))]) [2, 3, 4, 5, 6] rfl ?_
    exact hz_nameM (hz_some_e h).2.symm kk
  · have hE : M8 193 0 = r4 := by simpa [hc] using hg11
    refine hz_aload_n hO dL_law_1775 rfl 6 rfl ?_
    refine hz_iconst (v := (0 : Int32)) hO dL_law_1776 (by decide) ?_
    refine hz_lald hO hz_sh_193 (hz_lt_193 hN3) (by decide) dL_law_1777 ?_
    refine hz_iload hO dL_law_1778 0 rfl ?_
    refine hz_i2l hO dL_law_1780 ?_
    refine hz_lcmp hO dL_law_1781 ?_
    refine hz_name (y := 0) (by rw [show (0 : Int32).toNatClampNeg = 0 from rfl, hE]; exact hz_lcmp0.symm) ?_
    refine hz_if_eq (tgt := 1787) hO dL_law_1782 (by decide) (fun _ => ?_) (fun hc => absurd rfl hc)
    refine hz_goto (tgt := 2158) hO dL_law_1787 (by decide) ?_
    refine hz_ls (ls1 := [(4, .int (nI n)), (0, .ref b), (1, .ref (hz_ad w 0)), (2, .ref (hz_ad w 178)), (3, .ref (hz_ad w 193))]) [2, 3, 4, 5, 6] rfl ?_
    exact hz_nameM (hz_some_e h).2.symm kk
def fs_32 (M : hz_M) : hz_O :=
  hz_ct (f_X10_wash M) fun r1 M2 =>
  hz_ct (f_X11_wash M2) fun r4 M5 =>
  hz_gd (r1 == r4) <|
  some (0, M5)
set_option maxRecDepth 100000 in
set_option maxHeartbeats 4000000 in
theorem gs_32 {p : Program} {l : Launch} {e : Env} {s : State} {m : MethodId} {args : Array Value} {below : List Frame} {meth : Method} {c : Code} {w : hz_C} (hl : l.stackTraces = false) (hO : hz_Ok p s m args meth c w cL_law 9 "HotStepsLaw" (some .boolean)) {b L : Nat} {xs : Nat → Int32} (hT : va_T .int b L (fun j => .int (xs j)) (hz_A w) s s.heap) (hL : L ≤ 3072) {n : Nat} (hn : n + 6 ≤ L) {z : hz_Z} (hz : z.2.1 + 1 ≤ z.1.1 ∧ z.2.2 + 6 ≤ z.1.2) {Q : State → Prop} {M ME : hz_M} {rE : Int32} (h : fs_32 M = some (rE, ME)) (kk : hz_G p l e 1400 (hz_zn z 1 6) s m args below meth c w 194 9 Q ME 2158 [(4, .int (nI n)), (0, .ref b), (1, .ref (hz_ad w 0)), (2, .ref (hz_ad w 178)), (3, .ref (hz_ad w 193))] []) : hz_G p l e 1400 z s m args below meth c w 194 9 Q M 1790 [(4, .int (nI n)), (0, .ref b), (1, .ref (hz_ad w 0)), (2, .ref (hz_ad w 178)), (3, .ref (hz_ad w 193))] [] := by
  have hN1 : 178 ≤ 194 := (Nat.le_of_ble_eq_true rfl)
  have hN2 : 193 ≤ 194 := (Nat.le_of_ble_eq_true rfl)
  have hN3 : 194 ≤ 194 := Nat.le_refl _
  unfold fs_32 at h
  refine hz_aload_n hO dL_law_1790 rfl 2 rfl ?_
  obtain ⟨r1, M2, hq3, h⟩ := hz_ct_e h
  refine hz_callVi (as := []) (rest := []) hO (c_X10_wash l w hN1 hq3) hz_cal_X10_wash hz_K_8 hz_sh_0 (hz_lt_0 hN1) tw_4_207 (Nat.le_of_ble_eq_true rfl) rfl rfl (Nat.le_of_ble_eq_true rfl) dL_law_1791 ?_
  refine hz_aload_n hO dL_law_1794 rfl 3 rfl ?_
  obtain ⟨r4, M5, hq6, h⟩ := hz_ct_e h
  refine hz_callVi (as := []) (rest := [.int r1]) hO (c_X11_wash l w hN2 hq6) hz_cal_X11_wash hz_K_9 hz_sh_178 (hz_lt_178 hN2) tw_9_21 (Nat.le_of_ble_eq_true rfl) rfl rfl (Nat.le_of_ble_eq_true rfl) dL_law_1795 ?_
  obtain ⟨hg7, h⟩ := hz_gd_e h
  refine hz_icmp_eq (tgt := 2158) hO dL_law_1798 (by decide) (fun _ => ?_) (fun hc => absurd (eq_of_beq hg7) hc)
  refine hz_upz hz ?_
  exact hz_nameM (hz_some_e h).2.symm kk
def fs_33 (a1 : Int32) (a2 : Int32) (M : hz_M) : hz_O :=
  hz_ct (f_L_valve a1 a2 M) fun r1 M2 =>
  hz_ct (f_X11_valve a1 a2 M2) fun r4 M5 =>
  hz_ct (f_X11_thrown M5) fun r7 M8 =>
  hz_gd (r7 == r1) <|
  hz_gd (!(r1 == 0) || M8 193 0 == r4) <|
  some (0, M8)
set_option maxRecDepth 100000 in
set_option maxHeartbeats 4000000 in
theorem gs_33 {p : Program} {l : Launch} {e : Env} {s : State} {m : MethodId} {args : Array Value} {below : List Frame} {meth : Method} {c : Code} {w : hz_C} (hl : l.stackTraces = false) (hO : hz_Ok p s m args meth c w cL_law 9 "HotStepsLaw" (some .boolean)) {b L : Nat} {xs : Nat → Int32} (hT : va_T .int b L (fun j => .int (xs j)) (hz_A w) s s.heap) (hL : L ≤ 3072) {n : Nat} (hn : n + 6 ≤ L) {z : hz_Z} (hz : z.2.1 + 1 ≤ z.1.1 ∧ z.2.2 + 6 ≤ z.1.2) {Q : State → Prop} {M ME : hz_M} {rE : Int32} (h : fs_33 (xs (n + 1)) (xs (n + 2)) M = some (rE, ME)) (kk : hz_G p l e 1400 (hz_zn z 1 6) s m args below meth c w 194 9 Q ME 2158 [(4, .int (nI n)), (0, .ref b), (1, .ref (hz_ad w 0)), (2, .ref (hz_ad w 178)), (3, .ref (hz_ad w 193))] []) : hz_G p l e 1400 z s m args below meth c w 194 9 Q M 1803 [(4, .int (nI n)), (0, .ref b), (1, .ref (hz_ad w 0)), (2, .ref (hz_ad w 178)), (3, .ref (hz_ad w 193))] [] := by
  have hN1 : 178 ≤ 194 := (Nat.le_of_ble_eq_true rfl)
  have hN2 : 193 ≤ 194 := (Nat.le_of_ble_eq_true rfl)
  have hN3 : 194 ≤ 194 := Nat.le_refl _
  unfold fs_33 at h
  refine hz_aload_n hO dL_law_1803 rfl 2 rfl ?_
  refine hz_aload_n hO dL_law_1804 rfl 1 rfl ?_
  refine hz_iload hO dL_law_1805 0 rfl ?_
  refine hz_iconst (v := (1 : Int32)) hO dL_law_1807 (by decide) ?_
  refine hz_iadd hO dL_law_1808 ?_
  refine hz_name (y := nI (n + 1)) (nI_add n 1).symm ?_
  refine hz_scr hO hT hL (n := n + 1) (by omega) dL_law_1809 ?_
  refine hz_aload_n hO dL_law_1810 rfl 1 rfl ?_
  refine hz_iload hO dL_law_1811 0 rfl ?_
  refine hz_iconst (v := (2 : Int32)) hO dL_law_1813 (by decide) ?_
  refine hz_iadd hO dL_law_1814 ?_
  refine hz_name (y := nI (n + 2)) (nI_add n 2).symm ?_
  refine hz_scr hO hT hL (n := n + 2) (by omega) dL_law_1815 ?_
  refine hz_aload_n hO dL_law_1816 rfl 4 rfl ?_
  obtain ⟨r1, M2, hq3, h⟩ := hz_ct_e h
  refine hz_callW (n := 4) (as := [.ref (hz_ad w 0), .int (xs (n + 1)), .int (xs (n + 2)), .ref (hz_ad w 193)]) (rest := []) hO (c_L_valve l hl w hN3 (xs (n + 1)) (xs (n + 2)) hq3) hz_cal_L_valve tw_6_76 tw_6_77 tw_1_0 ⟨by decide, by decide, by decide +kernel⟩ (Nat.le_of_ble_eq_true rfl) (Nat.le_of_ble_eq_true rfl) rfl rfl (Nat.le_of_ble_eq_true rfl) hz dL_law_1817 ?_
  refine hz_istore (ls1 := [(5, .int r1), (4, .int (nI n)), (0, .ref b), (1, .ref (hz_ad w 0)), (2, .ref (hz_ad w 178)), (3, .ref (hz_ad w 193))]) hO dL_law_1820 (Nat.le_of_ble_eq_true rfl) rfl ?_
  refine hz_aload_n hO dL_law_1822 rfl 4 rfl ?_
  refine hz_aload_n hO dL_law_1823 rfl 2 rfl ?_
  refine hz_iload hO dL_law_1824 1 rfl ?_
  refine hz_iconst (v := (1 : Int32)) hO dL_law_1826 (by decide) ?_
  refine hz_iadd hO dL_law_1827 ?_
  refine hz_name (y := nI (n + 1)) (nI_add n 1).symm ?_
  refine hz_scr hO hT hL (n := n + 1) (by omega) dL_law_1828 ?_
  refine hz_aload_n hO dL_law_1829 rfl 2 rfl ?_
  refine hz_iload hO dL_law_1830 1 rfl ?_
  refine hz_iconst (v := (2 : Int32)) hO dL_law_1832 (by decide) ?_
  refine hz_iadd hO dL_law_1833 ?_
  refine hz_name (y := nI (n + 2)) (nI_add n 2).symm ?_
  refine hz_scr hO hT hL (n := n + 2) (by omega) dL_law_1834 ?_
  obtain ⟨r4, M5, hq6, h⟩ := hz_ct_e h
  refine hz_callVi (as := [.int (xs (n + 1)), .int (xs (n + 2))]) (rest := []) hO (c_X11_valve l w hN2 (xs (n + 1)) (xs (n + 2)) hq6) hz_cal_X11_valve hz_K_9 hz_sh_178 (hz_lt_178 hN2) tw_9_25 (Nat.le_of_ble_eq_true rfl) rfl rfl (Nat.le_of_ble_eq_true rfl) dL_law_1835 ?_
  refine hz_istore (ls1 := [(6, .int r4), (5, .int r1), (4, .int (nI n)), (0, .ref b), (1, .ref (hz_ad w 0)), (2, .ref (hz_ad w 178)), (3, .ref (hz_ad w 193))]) hO dL_law_1838 (Nat.le_of_ble_eq_true rfl) rfl ?_
  refine hz_aload_n hO dL_law_1840 rfl 5 rfl ?_
  obtain ⟨r7, M8, hq9, h⟩ := hz_ct_e h
  refine hz_callVi (as := []) (rest := []) hO (c_X11_thrown l w hN2 hq9) hz_cal_X11_thrown hz_K_9 hz_sh_178 (hz_lt_178 hN2) tw_7_74 (Nat.le_of_ble_eq_true rfl) rfl rfl (Nat.le_of_ble_eq_true rfl) dL_law_1841 ?_
  refine hz_iload hO dL_law_1844 1 rfl ?_
  obtain ⟨hg10, h⟩ := hz_gd_e h
  refine hz_icmp_eq (tgt := 1851) hO dL_law_1846 (by decide) (fun _ => ?_) (fun hc => absurd (eq_of_beq hg10) hc)
  refine hz_iload hO dL_law_1851 1 rfl ?_
  obtain ⟨hg11, h⟩ := hz_gd_e h
  refine hz_if_ne (tgt := 1868) hO dL_law_1853 (by decide) (fun _ => ?_) (fun hc => ?_)
  · refine hz_goto (tgt := 2158) hO dL_law_1868 (by decide) ?_
    refine hz_ls (ls1 := [(4, .int (nI n)), (0, .ref b), (1, .ref (hz_ad w 0)), (2, .ref (hz_ad w 178)), (3, .ref (hz_ad w 193))]) [2, 3, 4, 5, 6] rfl ?_
    exact hz_nameM (hz_some_e h).2.symm kk
  · have hE : M8 193 0 = r4 := by simpa [hc] using hg11
    refine hz_aload_n hO dL_law_1856 rfl 6 rfl ?_
    refine hz_iconst (v := (0 : Int32)) hO dL_law_1857 (by decide) ?_
    refine hz_lald hO hz_sh_193 (hz_lt_193 hN3) (by decide) dL_law_1858 ?_
    refine hz_iload hO dL_law_1859 0 rfl ?_
    refine hz_i2l hO dL_law_1861 ?_
    refine hz_lcmp hO dL_law_1862 ?_
    refine hz_name (y := 0) (by rw [show (0 : Int32).toNatClampNeg = 0 from rfl, hE]; exact hz_lcmp0.symm) ?_
    refine hz_if_eq (tgt := 1868) hO dL_law_1863 (by decide) (fun _ => ?_) (fun hc => absurd rfl hc)
    refine hz_goto (tgt := 2158) hO dL_law_1868 (by decide) ?_
    refine hz_ls (ls1 := [(4, .int (nI n)), (0, .ref b), (1, .ref (hz_ad w 0)), (2, .ref (hz_ad w 178)), (3, .ref (hz_ad w 193))]) [2, 3, 4, 5, 6] rfl ?_
    exact hz_nameM (hz_some_e h).2.symm kk
def fs_34 (a1 : Int32) (M : hz_M) : hz_O :=
  hz_ct (f_L_waits a1 M) fun r1 M2 =>
  hz_ct (f_X11_waits a1 M2) fun r4 M5 =>
  hz_ct (f_X11_thrown M5) fun r7 M8 =>
  hz_gd (r7 == r1) <|
  hz_gd (!(r1 == 0) || M8 193 0 == r4) <|
  some (0, M8)
set_option maxRecDepth 100000 in
set_option maxHeartbeats 4000000 in
theorem gs_34 {p : Program} {l : Launch} {e : Env} {s : State} {m : MethodId} {args : Array Value} {below : List Frame} {meth : Method} {c : Code} {w : hz_C} (hl : l.stackTraces = false) (hO : hz_Ok p s m args meth c w cL_law 9 "HotStepsLaw" (some .boolean)) {b L : Nat} {xs : Nat → Int32} (hT : va_T .int b L (fun j => .int (xs j)) (hz_A w) s s.heap) (hL : L ≤ 3072) {n : Nat} (hn : n + 6 ≤ L) {z : hz_Z} (hz : z.2.1 + 1 ≤ z.1.1 ∧ z.2.2 + 6 ≤ z.1.2) {Q : State → Prop} {M ME : hz_M} {rE : Int32} (h : fs_34 (xs (n + 1)) M = some (rE, ME)) (kk : hz_G p l e 1400 (hz_zn z 1 6) s m args below meth c w 194 9 Q ME 2158 [(4, .int (nI n)), (0, .ref b), (1, .ref (hz_ad w 0)), (2, .ref (hz_ad w 178)), (3, .ref (hz_ad w 193))] []) : hz_G p l e 1400 z s m args below meth c w 194 9 Q M 1871 [(4, .int (nI n)), (0, .ref b), (1, .ref (hz_ad w 0)), (2, .ref (hz_ad w 178)), (3, .ref (hz_ad w 193))] [] := by
  have hN1 : 178 ≤ 194 := (Nat.le_of_ble_eq_true rfl)
  have hN2 : 193 ≤ 194 := (Nat.le_of_ble_eq_true rfl)
  have hN3 : 194 ≤ 194 := Nat.le_refl _
  unfold fs_34 at h
  refine hz_aload_n hO dL_law_1871 rfl 2 rfl ?_
  refine hz_aload_n hO dL_law_1872 rfl 1 rfl ?_
  refine hz_iload hO dL_law_1873 0 rfl ?_
  refine hz_iconst (v := (1 : Int32)) hO dL_law_1875 (by decide) ?_
  refine hz_iadd hO dL_law_1876 ?_
  refine hz_name (y := nI (n + 1)) (nI_add n 1).symm ?_
  refine hz_scr hO hT hL (n := n + 1) (by omega) dL_law_1877 ?_
  refine hz_aload_n hO dL_law_1878 rfl 4 rfl ?_
  obtain ⟨r1, M2, hq3, h⟩ := hz_ct_e h
  refine hz_callW (n := 3) (as := [.ref (hz_ad w 0), .int (xs (n + 1)), .ref (hz_ad w 193)]) (rest := []) hO (c_L_waits l hl w hN3 (xs (n + 1)) hq3) hz_cal_L_waits tw_6_84 tw_6_85 tw_1_0 ⟨by decide, by decide, by decide +kernel⟩ (Nat.le_of_ble_eq_true rfl) (Nat.le_of_ble_eq_true rfl) rfl rfl (Nat.le_of_ble_eq_true rfl) hz dL_law_1879 ?_
  refine hz_istore (ls1 := [(5, .int r1), (4, .int (nI n)), (0, .ref b), (1, .ref (hz_ad w 0)), (2, .ref (hz_ad w 178)), (3, .ref (hz_ad w 193))]) hO dL_law_1882 (Nat.le_of_ble_eq_true rfl) rfl ?_
  refine hz_aload_n hO dL_law_1884 rfl 4 rfl ?_
  refine hz_aload_n hO dL_law_1885 rfl 2 rfl ?_
  refine hz_iload hO dL_law_1886 1 rfl ?_
  refine hz_iconst (v := (1 : Int32)) hO dL_law_1888 (by decide) ?_
  refine hz_iadd hO dL_law_1889 ?_
  refine hz_name (y := nI (n + 1)) (nI_add n 1).symm ?_
  refine hz_scr hO hT hL (n := n + 1) (by omega) dL_law_1890 ?_
  obtain ⟨r4, M5, hq6, h⟩ := hz_ct_e h
  refine hz_callVi (as := [.int (xs (n + 1))]) (rest := []) hO (c_X11_waits l w hN2 (xs (n + 1)) hq6) hz_cal_X11_waits hz_K_9 hz_sh_178 (hz_lt_178 hN2) tw_9_29 (Nat.le_of_ble_eq_true rfl) rfl rfl (Nat.le_of_ble_eq_true rfl) dL_law_1891 ?_
  refine hz_istore (ls1 := [(6, .int r4), (5, .int r1), (4, .int (nI n)), (0, .ref b), (1, .ref (hz_ad w 0)), (2, .ref (hz_ad w 178)), (3, .ref (hz_ad w 193))]) hO dL_law_1894 (Nat.le_of_ble_eq_true rfl) rfl ?_
  refine hz_aload_n hO dL_law_1896 rfl 5 rfl ?_
  obtain ⟨r7, M8, hq9, h⟩ := hz_ct_e h
  refine hz_callVi (as := []) (rest := []) hO (c_X11_thrown l w hN2 hq9) hz_cal_X11_thrown hz_K_9 hz_sh_178 (hz_lt_178 hN2) tw_7_74 (Nat.le_of_ble_eq_true rfl) rfl rfl (Nat.le_of_ble_eq_true rfl) dL_law_1897 ?_
  refine hz_iload hO dL_law_1900 1 rfl ?_
  obtain ⟨hg10, h⟩ := hz_gd_e h
  refine hz_icmp_eq (tgt := 1907) hO dL_law_1902 (by decide) (fun _ => ?_) (fun hc => absurd (eq_of_beq hg10) hc)
  refine hz_iload hO dL_law_1907 1 rfl ?_
  obtain ⟨hg11, h⟩ := hz_gd_e h
  refine hz_if_ne (tgt := 1924) hO dL_law_1909 (by decide) (fun _ => ?_) (fun hc => ?_)
  · refine hz_goto (tgt := 2158) hO dL_law_1924 (by decide) ?_
    refine hz_ls (ls1 := [(4, .int (nI n)), (0, .ref b), (1, .ref (hz_ad w 0)), (2, .ref (hz_ad w 178)), (3, .ref (hz_ad w 193))]) [2, 3, 4, 5, 6] rfl ?_
    exact hz_nameM (hz_some_e h).2.symm kk
  · have hE : M8 193 0 = r4 := by simpa [hc] using hg11
    refine hz_aload_n hO dL_law_1912 rfl 6 rfl ?_
    refine hz_iconst (v := (0 : Int32)) hO dL_law_1913 (by decide) ?_
    refine hz_lald hO hz_sh_193 (hz_lt_193 hN3) (by decide) dL_law_1914 ?_
    refine hz_iload hO dL_law_1915 0 rfl ?_
    refine hz_i2l hO dL_law_1917 ?_
    refine hz_lcmp hO dL_law_1918 ?_
    refine hz_name (y := 0) (by rw [show (0 : Int32).toNatClampNeg = 0 from rfl, hE]; exact hz_lcmp0.symm) ?_
    refine hz_if_eq (tgt := 1924) hO dL_law_1919 (by decide) (fun _ => ?_) (fun hc => absurd rfl hc)
    refine hz_goto (tgt := 2158) hO dL_law_1924 (by decide) ?_
    refine hz_ls (ls1 := [(4, .int (nI n)), (0, .ref b), (1, .ref (hz_ad w 0)), (2, .ref (hz_ad w 178)), (3, .ref (hz_ad w 193))]) [2, 3, 4, 5, 6] rfl ?_
    exact hz_nameM (hz_some_e h).2.symm kk
def fs_35 (a1 : Int32) (a2 : Int32) (M : hz_M) : hz_O :=
  hz_ct (f_L_set a1 a2 M) fun r1 M2 =>
  hz_ct (f_X11_set a1 a2 M2) fun r4 M5 =>
  hz_ct (f_X11_thrown M5) fun r7 M8 =>
  hz_gd (r7 == r1) <|
  hz_gd (!(r1 == 0) || M8 193 0 == r4) <|
  some (0, M8)
set_option maxRecDepth 100000 in
set_option maxHeartbeats 4000000 in
theorem gs_35 {p : Program} {l : Launch} {e : Env} {s : State} {m : MethodId} {args : Array Value} {below : List Frame} {meth : Method} {c : Code} {w : hz_C} (hl : l.stackTraces = false) (hO : hz_Ok p s m args meth c w cL_law 9 "HotStepsLaw" (some .boolean)) {b L : Nat} {xs : Nat → Int32} (hT : va_T .int b L (fun j => .int (xs j)) (hz_A w) s s.heap) (hL : L ≤ 3072) {n : Nat} (hn : n + 6 ≤ L) {z : hz_Z} (hz : z.2.1 + 1 ≤ z.1.1 ∧ z.2.2 + 6 ≤ z.1.2) {Q : State → Prop} {M ME : hz_M} {rE : Int32} (h : fs_35 (xs (n + 1)) (xs (n + 2)) M = some (rE, ME)) (kk : hz_G p l e 1400 (hz_zn z 1 6) s m args below meth c w 194 9 Q ME 2158 [(4, .int (nI n)), (0, .ref b), (1, .ref (hz_ad w 0)), (2, .ref (hz_ad w 178)), (3, .ref (hz_ad w 193))] []) : hz_G p l e 1400 z s m args below meth c w 194 9 Q M 1927 [(4, .int (nI n)), (0, .ref b), (1, .ref (hz_ad w 0)), (2, .ref (hz_ad w 178)), (3, .ref (hz_ad w 193))] [] := by
  have hN1 : 178 ≤ 194 := (Nat.le_of_ble_eq_true rfl)
  have hN2 : 193 ≤ 194 := (Nat.le_of_ble_eq_true rfl)
  have hN3 : 194 ≤ 194 := Nat.le_refl _
  unfold fs_35 at h
  refine hz_aload_n hO dL_law_1927 rfl 2 rfl ?_
  refine hz_aload_n hO dL_law_1928 rfl 1 rfl ?_
  refine hz_iload hO dL_law_1929 0 rfl ?_
  refine hz_iconst (v := (1 : Int32)) hO dL_law_1931 (by decide) ?_
  refine hz_iadd hO dL_law_1932 ?_
  refine hz_name (y := nI (n + 1)) (nI_add n 1).symm ?_
  refine hz_scr hO hT hL (n := n + 1) (by omega) dL_law_1933 ?_
  refine hz_aload_n hO dL_law_1934 rfl 1 rfl ?_
  refine hz_iload hO dL_law_1935 0 rfl ?_
  refine hz_iconst (v := (2 : Int32)) hO dL_law_1937 (by decide) ?_
  refine hz_iadd hO dL_law_1938 ?_
  refine hz_name (y := nI (n + 2)) (nI_add n 2).symm ?_
  refine hz_scr hO hT hL (n := n + 2) (by omega) dL_law_1939 ?_
  refine hz_aload_n hO dL_law_1940 rfl 4 rfl ?_
  obtain ⟨r1, M2, hq3, h⟩ := hz_ct_e h
  refine hz_callW (n := 4) (as := [.ref (hz_ad w 0), .int (xs (n + 1)), .int (xs (n + 2)), .ref (hz_ad w 193)]) (rest := []) hO (c_L_set l hl w hN3 (xs (n + 1)) (xs (n + 2)) hq3) hz_cal_L_set tw_6_93 tw_6_94 tw_1_0 ⟨by decide, by decide, by decide +kernel⟩ (Nat.le_of_ble_eq_true rfl) (Nat.le_of_ble_eq_true rfl) rfl rfl (Nat.le_of_ble_eq_true rfl) hz dL_law_1941 ?_
  refine hz_istore (ls1 := [(5, .int r1), (4, .int (nI n)), (0, .ref b), (1, .ref (hz_ad w 0)), (2, .ref (hz_ad w 178)), (3, .ref (hz_ad w 193))]) hO dL_law_1944 (Nat.le_of_ble_eq_true rfl) rfl ?_
  refine hz_aload_n hO dL_law_1946 rfl 4 rfl ?_
  refine hz_aload_n hO dL_law_1947 rfl 2 rfl ?_
  refine hz_iload hO dL_law_1948 1 rfl ?_
  refine hz_iconst (v := (1 : Int32)) hO dL_law_1950 (by decide) ?_
  refine hz_iadd hO dL_law_1951 ?_
  refine hz_name (y := nI (n + 1)) (nI_add n 1).symm ?_
  refine hz_scr hO hT hL (n := n + 1) (by omega) dL_law_1952 ?_
  refine hz_aload_n hO dL_law_1953 rfl 2 rfl ?_
  refine hz_iload hO dL_law_1954 1 rfl ?_
  refine hz_iconst (v := (2 : Int32)) hO dL_law_1956 (by decide) ?_
  refine hz_iadd hO dL_law_1957 ?_
  refine hz_name (y := nI (n + 2)) (nI_add n 2).symm ?_
  refine hz_scr hO hT hL (n := n + 2) (by omega) dL_law_1958 ?_
  obtain ⟨r4, M5, hq6, h⟩ := hz_ct_e h
  refine hz_callVi (as := [.int (xs (n + 1)), .int (xs (n + 2))]) (rest := []) hO (c_X11_set l w hN2 (xs (n + 1)) (xs (n + 2)) hq6) hz_cal_X11_set hz_K_9 hz_sh_178 (hz_lt_178 hN2) tw_9_33 (Nat.le_of_ble_eq_true rfl) rfl rfl (Nat.le_of_ble_eq_true rfl) dL_law_1959 ?_
  refine hz_istore (ls1 := [(6, .int r4), (5, .int r1), (4, .int (nI n)), (0, .ref b), (1, .ref (hz_ad w 0)), (2, .ref (hz_ad w 178)), (3, .ref (hz_ad w 193))]) hO dL_law_1962 (Nat.le_of_ble_eq_true rfl) rfl ?_
  refine hz_aload_n hO dL_law_1964 rfl 5 rfl ?_
  obtain ⟨r7, M8, hq9, h⟩ := hz_ct_e h
  refine hz_callVi (as := []) (rest := []) hO (c_X11_thrown l w hN2 hq9) hz_cal_X11_thrown hz_K_9 hz_sh_178 (hz_lt_178 hN2) tw_7_74 (Nat.le_of_ble_eq_true rfl) rfl rfl (Nat.le_of_ble_eq_true rfl) dL_law_1965 ?_
  refine hz_iload hO dL_law_1968 1 rfl ?_
  obtain ⟨hg10, h⟩ := hz_gd_e h
  refine hz_icmp_eq (tgt := 1975) hO dL_law_1970 (by decide) (fun _ => ?_) (fun hc => absurd (eq_of_beq hg10) hc)
  refine hz_iload hO dL_law_1975 1 rfl ?_
  obtain ⟨hg11, h⟩ := hz_gd_e h
  refine hz_if_ne (tgt := 1992) hO dL_law_1977 (by decide) (fun _ => ?_) (fun hc => ?_)
  · refine hz_goto (tgt := 2158) hO dL_law_1992 (by decide) ?_
    refine hz_ls (ls1 := [(4, .int (nI n)), (0, .ref b), (1, .ref (hz_ad w 0)), (2, .ref (hz_ad w 178)), (3, .ref (hz_ad w 193))]) [2, 3, 4, 5, 6] rfl ?_
    exact hz_nameM (hz_some_e h).2.symm kk
  · have hE : M8 193 0 = r4 := by simpa [hc] using hg11
    refine hz_aload_n hO dL_law_1980 rfl 6 rfl ?_
    refine hz_iconst (v := (0 : Int32)) hO dL_law_1981 (by decide) ?_
    refine hz_lald hO hz_sh_193 (hz_lt_193 hN3) (by decide) dL_law_1982 ?_
    refine hz_iload hO dL_law_1983 0 rfl ?_
    refine hz_i2l hO dL_law_1985 ?_
    refine hz_lcmp hO dL_law_1986 ?_
    refine hz_name (y := 0) (by rw [show (0 : Int32).toNatClampNeg = 0 from rfl, hE]; exact hz_lcmp0.symm) ?_
    refine hz_if_eq (tgt := 1992) hO dL_law_1987 (by decide) (fun _ => ?_) (fun hc => absurd rfl hc)
    refine hz_goto (tgt := 2158) hO dL_law_1992 (by decide) ?_
    refine hz_ls (ls1 := [(4, .int (nI n)), (0, .ref b), (1, .ref (hz_ad w 0)), (2, .ref (hz_ad w 178)), (3, .ref (hz_ad w 193))]) [2, 3, 4, 5, 6] rfl ?_
    exact hz_nameM (hz_some_e h).2.symm kk
def fs_36 (M : hz_M) : hz_O :=
  hz_ct (f_X10_report M) fun r1 M2 =>
  hz_ct (f_X11_report M2) fun r4 M5 =>
  hz_gd (r1 == r4) <|
  some (0, M5)
set_option maxRecDepth 100000 in
set_option maxHeartbeats 4000000 in
theorem gs_36 {p : Program} {l : Launch} {e : Env} {s : State} {m : MethodId} {args : Array Value} {below : List Frame} {meth : Method} {c : Code} {w : hz_C} (hl : l.stackTraces = false) (hO : hz_Ok p s m args meth c w cL_law 9 "HotStepsLaw" (some .boolean)) {b L : Nat} {xs : Nat → Int32} (hT : va_T .int b L (fun j => .int (xs j)) (hz_A w) s s.heap) (hL : L ≤ 3072) {n : Nat} (hn : n + 6 ≤ L) {z : hz_Z} (hz : z.2.1 + 1 ≤ z.1.1 ∧ z.2.2 + 6 ≤ z.1.2) {Q : State → Prop} {M ME : hz_M} {rE : Int32} (h : fs_36 M = some (rE, ME)) (kk : hz_G p l e 1400 (hz_zn z 1 6) s m args below meth c w 194 9 Q ME 2158 [(4, .int (nI n)), (0, .ref b), (1, .ref (hz_ad w 0)), (2, .ref (hz_ad w 178)), (3, .ref (hz_ad w 193))] []) : hz_G p l e 1400 z s m args below meth c w 194 9 Q M 1995 [(4, .int (nI n)), (0, .ref b), (1, .ref (hz_ad w 0)), (2, .ref (hz_ad w 178)), (3, .ref (hz_ad w 193))] [] := by
  have hN1 : 178 ≤ 194 := (Nat.le_of_ble_eq_true rfl)
  have hN2 : 193 ≤ 194 := (Nat.le_of_ble_eq_true rfl)
  have hN3 : 194 ≤ 194 := Nat.le_refl _
  unfold fs_36 at h
  refine hz_aload_n hO dL_law_1995 rfl 2 rfl ?_
  obtain ⟨r1, M2, hq3, h⟩ := hz_ct_e h
  refine hz_callVi (as := []) (rest := []) hO (c_X10_report l w hN1 hq3) hz_cal_X10_report hz_K_8 hz_sh_0 (hz_lt_0 hN1) tw_4_219 (Nat.le_of_ble_eq_true rfl) rfl rfl (Nat.le_of_ble_eq_true rfl) dL_law_1996 ?_
  refine hz_aload_n hO dL_law_1999 rfl 3 rfl ?_
  obtain ⟨r4, M5, hq6, h⟩ := hz_ct_e h
  refine hz_callVi (as := []) (rest := [.int r1]) hO (c_X11_report l w hN2 hq6) hz_cal_X11_report hz_K_9 hz_sh_178 (hz_lt_178 hN2) tw_9_37 (Nat.le_of_ble_eq_true rfl) rfl rfl (Nat.le_of_ble_eq_true rfl) dL_law_2000 ?_
  obtain ⟨hg7, h⟩ := hz_gd_e h
  refine hz_icmp_eq (tgt := 2158) hO dL_law_2003 (by decide) (fun _ => ?_) (fun hc => absurd (eq_of_beq hg7) hc)
  refine hz_upz hz ?_
  exact hz_nameM (hz_some_e h).2.symm kk
def fs_37 (a1 : Int32) (M : hz_M) : hz_O :=
  hz_ct (f_X10_reportByte a1 M) fun r1 M2 =>
  hz_ct (f_X11_reportByte a1 M2) fun r4 M5 =>
  hz_gd (r1 == r4) <|
  some (0, M5)
set_option maxRecDepth 100000 in
set_option maxHeartbeats 4000000 in
theorem gs_37 {p : Program} {l : Launch} {e : Env} {s : State} {m : MethodId} {args : Array Value} {below : List Frame} {meth : Method} {c : Code} {w : hz_C} (hl : l.stackTraces = false) (hO : hz_Ok p s m args meth c w cL_law 9 "HotStepsLaw" (some .boolean)) {b L : Nat} {xs : Nat → Int32} (hT : va_T .int b L (fun j => .int (xs j)) (hz_A w) s s.heap) (hL : L ≤ 3072) {n : Nat} (hn : n + 6 ≤ L) {z : hz_Z} (hz : z.2.1 + 1 ≤ z.1.1 ∧ z.2.2 + 6 ≤ z.1.2) {Q : State → Prop} {M ME : hz_M} {rE : Int32} (h : fs_37 (xs (n + 1)) M = some (rE, ME)) (kk : hz_G p l e 1400 (hz_zn z 1 6) s m args below meth c w 194 9 Q ME 2158 [(4, .int (nI n)), (0, .ref b), (1, .ref (hz_ad w 0)), (2, .ref (hz_ad w 178)), (3, .ref (hz_ad w 193))] []) : hz_G p l e 1400 z s m args below meth c w 194 9 Q M 2008 [(4, .int (nI n)), (0, .ref b), (1, .ref (hz_ad w 0)), (2, .ref (hz_ad w 178)), (3, .ref (hz_ad w 193))] [] := by
  have hN1 : 178 ≤ 194 := (Nat.le_of_ble_eq_true rfl)
  have hN2 : 193 ≤ 194 := (Nat.le_of_ble_eq_true rfl)
  have hN3 : 194 ≤ 194 := Nat.le_refl _
  unfold fs_37 at h
  refine hz_aload_n hO dL_law_2008 rfl 2 rfl ?_
  refine hz_aload_n hO dL_law_2009 rfl 1 rfl ?_
  refine hz_iload hO dL_law_2010 0 rfl ?_
  refine hz_iconst (v := (1 : Int32)) hO dL_law_2012 (by decide) ?_
  refine hz_iadd hO dL_law_2013 ?_
  refine hz_name (y := nI (n + 1)) (nI_add n 1).symm ?_
  refine hz_scr hO hT hL (n := n + 1) (by omega) dL_law_2014 ?_
  obtain ⟨r1, M2, hq3, h⟩ := hz_ct_e h
  refine hz_callVi (as := [.int (xs (n + 1))]) (rest := []) hO (c_X10_reportByte l w hN1 (xs (n + 1)) hq3) hz_cal_X10_reportByte hz_K_8 hz_sh_0 (hz_lt_0 hN1) tw_5_12 (Nat.le_of_ble_eq_true rfl) rfl rfl (Nat.le_of_ble_eq_true rfl) dL_law_2015 ?_
  refine hz_aload_n hO dL_law_2018 rfl 3 rfl ?_
  refine hz_aload_n hO dL_law_2019 rfl 1 rfl ?_
  refine hz_iload hO dL_law_2020 0 rfl ?_
  refine hz_iconst (v := (1 : Int32)) hO dL_law_2022 (by decide) ?_
  refine hz_iadd hO dL_law_2023 ?_
  refine hz_name (y := nI (n + 1)) (nI_add n 1).symm ?_
  refine hz_scr hO hT hL (n := n + 1) (by omega) dL_law_2024 ?_
  obtain ⟨r4, M5, hq6, h⟩ := hz_ct_e h
  refine hz_callVi (as := [.int (xs (n + 1))]) (rest := [.int r1]) hO (c_X11_reportByte l w hN2 (xs (n + 1)) hq6) hz_cal_X11_reportByte hz_K_9 hz_sh_178 (hz_lt_178 hN2) tw_9_53 (Nat.le_of_ble_eq_true rfl) rfl rfl (Nat.le_of_ble_eq_true rfl) dL_law_2025 ?_
  obtain ⟨hg7, h⟩ := hz_gd_e h
  refine hz_icmp_eq (tgt := 2158) hO dL_law_2028 (by decide) (fun _ => ?_) (fun hc => absurd (eq_of_beq hg7) hc)
  refine hz_upz hz ?_
  exact hz_nameM (hz_some_e h).2.symm kk
def fs_38 (M : hz_M) : hz_O :=
  hz_ct (f_X10_undo M) fun r1 M2 =>
  hz_ct (f_X11_undo M2) fun r4 M5 =>
  hz_gd (r1 == r4) <|
  some (0, M5)
set_option maxRecDepth 100000 in
set_option maxHeartbeats 4000000 in
theorem gs_38 {p : Program} {l : Launch} {e : Env} {s : State} {m : MethodId} {args : Array Value} {below : List Frame} {meth : Method} {c : Code} {w : hz_C} (hl : l.stackTraces = false) (hO : hz_Ok p s m args meth c w cL_law 9 "HotStepsLaw" (some .boolean)) {b L : Nat} {xs : Nat → Int32} (hT : va_T .int b L (fun j => .int (xs j)) (hz_A w) s s.heap) (hL : L ≤ 3072) {n : Nat} (hn : n + 6 ≤ L) {z : hz_Z} (hz : z.2.1 + 1 ≤ z.1.1 ∧ z.2.2 + 6 ≤ z.1.2) {Q : State → Prop} {M ME : hz_M} {rE : Int32} (h : fs_38 M = some (rE, ME)) (kk : hz_G p l e 1400 (hz_zn z 1 6) s m args below meth c w 194 9 Q ME 2158 [(4, .int (nI n)), (0, .ref b), (1, .ref (hz_ad w 0)), (2, .ref (hz_ad w 178)), (3, .ref (hz_ad w 193))] []) : hz_G p l e 1400 z s m args below meth c w 194 9 Q M 2033 [(4, .int (nI n)), (0, .ref b), (1, .ref (hz_ad w 0)), (2, .ref (hz_ad w 178)), (3, .ref (hz_ad w 193))] [] := by
  have hN1 : 178 ≤ 194 := (Nat.le_of_ble_eq_true rfl)
  have hN2 : 193 ≤ 194 := (Nat.le_of_ble_eq_true rfl)
  have hN3 : 194 ≤ 194 := Nat.le_refl _
  unfold fs_38 at h
  refine hz_aload_n hO dL_law_2033 rfl 2 rfl ?_
  obtain ⟨r1, M2, hq3, h⟩ := hz_ct_e h
  refine hz_callVi (as := []) (rest := []) hO (c_X10_undo l w hN1 hq3) hz_cal_X10_undo hz_K_8 hz_sh_0 (hz_lt_0 hN1) tw_5_20 (Nat.le_of_ble_eq_true rfl) rfl rfl (Nat.le_of_ble_eq_true rfl) dL_law_2034 ?_
  refine hz_aload_n hO dL_law_2037 rfl 3 rfl ?_
  obtain ⟨r4, M5, hq6, h⟩ := hz_ct_e h
  refine hz_callVi (as := []) (rest := [.int r1]) hO (c_X11_undo l w hN2 hq6) hz_cal_X11_undo hz_K_9 hz_sh_178 (hz_lt_178 hN2) tw_9_57 (Nat.le_of_ble_eq_true rfl) rfl rfl (Nat.le_of_ble_eq_true rfl) dL_law_2038 ?_
  obtain ⟨hg7, h⟩ := hz_gd_e h
  refine hz_icmp_eq (tgt := 2158) hO dL_law_2041 (by decide) (fun _ => ?_) (fun hc => absurd (eq_of_beq hg7) hc)
  refine hz_upz hz ?_
  exact hz_nameM (hz_some_e h).2.symm kk
def fs_39 (a1 : Int32) (M : hz_M) : hz_O :=
  hz_ct (f_L_save a1 M) fun r1 M2 =>
  hz_ct (f_X11_save a1 M2) fun r4 M5 =>
  hz_ct (f_X11_thrown M5) fun r7 M8 =>
  hz_gd (r7 == r1) <|
  hz_gd (!(r1 == 0) || M8 193 0 == r4) <|
  some (0, M8)
set_option maxRecDepth 100000 in
set_option maxHeartbeats 4000000 in
theorem gs_39 {p : Program} {l : Launch} {e : Env} {s : State} {m : MethodId} {args : Array Value} {below : List Frame} {meth : Method} {c : Code} {w : hz_C} (hl : l.stackTraces = false) (hO : hz_Ok p s m args meth c w cL_law 9 "HotStepsLaw" (some .boolean)) {b L : Nat} {xs : Nat → Int32} (hT : va_T .int b L (fun j => .int (xs j)) (hz_A w) s s.heap) (hL : L ≤ 3072) {n : Nat} (hn : n + 6 ≤ L) {z : hz_Z} (hz : z.2.1 + 1 ≤ z.1.1 ∧ z.2.2 + 6 ≤ z.1.2) {Q : State → Prop} {M ME : hz_M} {rE : Int32} (h : fs_39 (xs (n + 1)) M = some (rE, ME)) (kk : hz_G p l e 1400 (hz_zn z 1 6) s m args below meth c w 194 9 Q ME 2158 [(4, .int (nI n)), (0, .ref b), (1, .ref (hz_ad w 0)), (2, .ref (hz_ad w 178)), (3, .ref (hz_ad w 193))] []) : hz_G p l e 1400 z s m args below meth c w 194 9 Q M 2046 [(4, .int (nI n)), (0, .ref b), (1, .ref (hz_ad w 0)), (2, .ref (hz_ad w 178)), (3, .ref (hz_ad w 193))] [] := by
  have hN1 : 178 ≤ 194 := (Nat.le_of_ble_eq_true rfl)
  have hN2 : 193 ≤ 194 := (Nat.le_of_ble_eq_true rfl)
  have hN3 : 194 ≤ 194 := Nat.le_refl _
  unfold fs_39 at h
  refine hz_aload_n hO dL_law_2046 rfl 2 rfl ?_
  refine hz_aload_n hO dL_law_2047 rfl 1 rfl ?_
  refine hz_iload hO dL_law_2048 0 rfl ?_
  refine hz_iconst (v := (1 : Int32)) hO dL_law_2050 (by decide) ?_
  refine hz_iadd hO dL_law_2051 ?_
  refine hz_name (y := nI (n + 1)) (nI_add n 1).symm ?_
  refine hz_scr hO hT hL (n := n + 1) (by omega) dL_law_2052 ?_
  refine hz_aload_n hO dL_law_2053 rfl 4 rfl ?_
  obtain ⟨r1, M2, hq3, h⟩ := hz_ct_e h
  refine hz_callW (n := 3) (as := [.ref (hz_ad w 0), .int (xs (n + 1)), .ref (hz_ad w 193)]) (rest := []) hO (c_L_save l hl w hN3 (xs (n + 1)) hq3) hz_cal_L_save tw_6_104 tw_6_105 tw_1_0 ⟨by decide, by decide, by decide +kernel⟩ (Nat.le_of_ble_eq_true rfl) (Nat.le_of_ble_eq_true rfl) rfl rfl (Nat.le_of_ble_eq_true rfl) hz dL_law_2054 ?_
  refine hz_istore (ls1 := [(5, .int r1), (4, .int (nI n)), (0, .ref b), (1, .ref (hz_ad w 0)), (2, .ref (hz_ad w 178)), (3, .ref (hz_ad w 193))]) hO dL_law_2057 (Nat.le_of_ble_eq_true rfl) rfl ?_
  refine hz_aload_n hO dL_law_2059 rfl 4 rfl ?_
  refine hz_aload_n hO dL_law_2060 rfl 2 rfl ?_
  refine hz_iload hO dL_law_2061 1 rfl ?_
  refine hz_iconst (v := (1 : Int32)) hO dL_law_2063 (by decide) ?_
  refine hz_iadd hO dL_law_2064 ?_
  refine hz_name (y := nI (n + 1)) (nI_add n 1).symm ?_
  refine hz_scr hO hT hL (n := n + 1) (by omega) dL_law_2065 ?_
  obtain ⟨r4, M5, hq6, h⟩ := hz_ct_e h
  refine hz_callVi (as := [.int (xs (n + 1))]) (rest := []) hO (c_X11_save l w hN2 (xs (n + 1)) hq6) hz_cal_X11_save hz_K_9 hz_sh_178 (hz_lt_178 hN2) tw_9_61 (Nat.le_of_ble_eq_true rfl) rfl rfl (Nat.le_of_ble_eq_true rfl) dL_law_2066 ?_
  refine hz_istore (ls1 := [(6, .int r4), (5, .int r1), (4, .int (nI n)), (0, .ref b), (1, .ref (hz_ad w 0)), (2, .ref (hz_ad w 178)), (3, .ref (hz_ad w 193))]) hO dL_law_2069 (Nat.le_of_ble_eq_true rfl) rfl ?_
  refine hz_aload_n hO dL_law_2071 rfl 5 rfl ?_
  obtain ⟨r7, M8, hq9, h⟩ := hz_ct_e h
  refine hz_callVi (as := []) (rest := []) hO (c_X11_thrown l w hN2 hq9) hz_cal_X11_thrown hz_K_9 hz_sh_178 (hz_lt_178 hN2) tw_7_74 (Nat.le_of_ble_eq_true rfl) rfl rfl (Nat.le_of_ble_eq_true rfl) dL_law_2072 ?_
  refine hz_iload hO dL_law_2075 1 rfl ?_
  obtain ⟨hg10, h⟩ := hz_gd_e h
  refine hz_icmp_eq (tgt := 2082) hO dL_law_2077 (by decide) (fun _ => ?_) (fun hc => absurd (eq_of_beq hg10) hc)
  refine hz_iload hO dL_law_2082 1 rfl ?_
  obtain ⟨hg11, h⟩ := hz_gd_e h
  refine hz_if_ne (tgt := 2099) hO dL_law_2084 (by decide) (fun _ => ?_) (fun hc => ?_)
  · refine hz_goto (tgt := 2158) hO dL_law_2099 (by decide) ?_
    refine hz_ls (ls1 := [(4, .int (nI n)), (0, .ref b), (1, .ref (hz_ad w 0)), (2, .ref (hz_ad w 178)), (3, .ref (hz_ad w 193))]) [2, 3, 4, 5, 6] rfl ?_
    exact hz_nameM (hz_some_e h).2.symm kk
  · have hE : M8 193 0 = r4 := by simpa [hc] using hg11
    refine hz_aload_n hO dL_law_2087 rfl 6 rfl ?_
    refine hz_iconst (v := (0 : Int32)) hO dL_law_2088 (by decide) ?_
    refine hz_lald hO hz_sh_193 (hz_lt_193 hN3) (by decide) dL_law_2089 ?_
    refine hz_iload hO dL_law_2090 0 rfl ?_
    refine hz_i2l hO dL_law_2092 ?_
    refine hz_lcmp hO dL_law_2093 ?_
    refine hz_name (y := 0) (by rw [show (0 : Int32).toNatClampNeg = 0 from rfl, hE]; exact hz_lcmp0.symm) ?_
    refine hz_if_eq (tgt := 2099) hO dL_law_2094 (by decide) (fun _ => ?_) (fun hc => absurd rfl hc)
    refine hz_goto (tgt := 2158) hO dL_law_2099 (by decide) ?_
    refine hz_ls (ls1 := [(4, .int (nI n)), (0, .ref b), (1, .ref (hz_ad w 0)), (2, .ref (hz_ad w 178)), (3, .ref (hz_ad w 193))]) [2, 3, 4, 5, 6] rfl ?_
    exact hz_nameM (hz_some_e h).2.symm kk
def fs_40 (a1 : Int32) (M : hz_M) : hz_O :=
  hz_ct (f_L_restore a1 M) fun r1 M2 =>
  hz_ct (f_X11_restore a1 M2) fun r4 M5 =>
  hz_ct (f_X11_thrown M5) fun r7 M8 =>
  hz_gd (r7 == r1) <|
  hz_gd (!(r1 == 0) || M8 193 0 == r4) <|
  some (0, M8)
set_option maxRecDepth 100000 in
set_option maxHeartbeats 4000000 in
theorem gs_40 {p : Program} {l : Launch} {e : Env} {s : State} {m : MethodId} {args : Array Value} {below : List Frame} {meth : Method} {c : Code} {w : hz_C} (hl : l.stackTraces = false) (hO : hz_Ok p s m args meth c w cL_law 9 "HotStepsLaw" (some .boolean)) {b L : Nat} {xs : Nat → Int32} (hT : va_T .int b L (fun j => .int (xs j)) (hz_A w) s s.heap) (hL : L ≤ 3072) {n : Nat} (hn : n + 6 ≤ L) {z : hz_Z} (hz : z.2.1 + 1 ≤ z.1.1 ∧ z.2.2 + 6 ≤ z.1.2) {Q : State → Prop} {M ME : hz_M} {rE : Int32} (h : fs_40 (xs (n + 1)) M = some (rE, ME)) (kk : hz_G p l e 1400 (hz_zn z 1 6) s m args below meth c w 194 9 Q ME 2158 [(4, .int (nI n)), (0, .ref b), (1, .ref (hz_ad w 0)), (2, .ref (hz_ad w 178)), (3, .ref (hz_ad w 193))] []) : hz_G p l e 1400 z s m args below meth c w 194 9 Q M 2102 [(4, .int (nI n)), (0, .ref b), (1, .ref (hz_ad w 0)), (2, .ref (hz_ad w 178)), (3, .ref (hz_ad w 193))] [] := by
  have hN1 : 178 ≤ 194 := (Nat.le_of_ble_eq_true rfl)
  have hN2 : 193 ≤ 194 := (Nat.le_of_ble_eq_true rfl)
  have hN3 : 194 ≤ 194 := Nat.le_refl _
  unfold fs_40 at h
  refine hz_aload_n hO dL_law_2102 rfl 2 rfl ?_
  refine hz_aload_n hO dL_law_2103 rfl 1 rfl ?_
  refine hz_iload hO dL_law_2104 0 rfl ?_
  refine hz_iconst (v := (1 : Int32)) hO dL_law_2106 (by decide) ?_
  refine hz_iadd hO dL_law_2107 ?_
  refine hz_name (y := nI (n + 1)) (nI_add n 1).symm ?_
  refine hz_scr hO hT hL (n := n + 1) (by omega) dL_law_2108 ?_
  refine hz_aload_n hO dL_law_2109 rfl 4 rfl ?_
  obtain ⟨r1, M2, hq3, h⟩ := hz_ct_e h
  refine hz_callW (n := 3) (as := [.ref (hz_ad w 0), .int (xs (n + 1)), .ref (hz_ad w 193)]) (rest := []) hO (c_L_restore l hl w hN3 (xs (n + 1)) hq3) hz_cal_L_restore tw_6_118 tw_6_119 tw_1_0 ⟨by decide, by decide, by decide +kernel⟩ (Nat.le_of_ble_eq_true rfl) (Nat.le_of_ble_eq_true rfl) rfl rfl (Nat.le_of_ble_eq_true rfl) hz dL_law_2110 ?_
  refine hz_istore (ls1 := [(5, .int r1), (4, .int (nI n)), (0, .ref b), (1, .ref (hz_ad w 0)), (2, .ref (hz_ad w 178)), (3, .ref (hz_ad w 193))]) hO dL_law_2113 (Nat.le_of_ble_eq_true rfl) rfl ?_
  refine hz_aload_n hO dL_law_2115 rfl 4 rfl ?_
  refine hz_aload_n hO dL_law_2116 rfl 2 rfl ?_
  refine hz_iload hO dL_law_2117 1 rfl ?_
  refine hz_iconst (v := (1 : Int32)) hO dL_law_2119 (by decide) ?_
  refine hz_iadd hO dL_law_2120 ?_
  refine hz_name (y := nI (n + 1)) (nI_add n 1).symm ?_
  refine hz_scr hO hT hL (n := n + 1) (by omega) dL_law_2121 ?_
  obtain ⟨r4, M5, hq6, h⟩ := hz_ct_e h
  refine hz_callVi (as := [.int (xs (n + 1))]) (rest := []) hO (c_X11_restore l w hN2 (xs (n + 1)) hq6) hz_cal_X11_restore hz_K_9 hz_sh_178 (hz_lt_178 hN2) tw_9_65 (Nat.le_of_ble_eq_true rfl) rfl rfl (Nat.le_of_ble_eq_true rfl) dL_law_2122 ?_
  refine hz_istore (ls1 := [(6, .int r4), (5, .int r1), (4, .int (nI n)), (0, .ref b), (1, .ref (hz_ad w 0)), (2, .ref (hz_ad w 178)), (3, .ref (hz_ad w 193))]) hO dL_law_2125 (Nat.le_of_ble_eq_true rfl) rfl ?_
  refine hz_aload_n hO dL_law_2127 rfl 5 rfl ?_
  obtain ⟨r7, M8, hq9, h⟩ := hz_ct_e h
  refine hz_callVi (as := []) (rest := []) hO (c_X11_thrown l w hN2 hq9) hz_cal_X11_thrown hz_K_9 hz_sh_178 (hz_lt_178 hN2) tw_7_74 (Nat.le_of_ble_eq_true rfl) rfl rfl (Nat.le_of_ble_eq_true rfl) dL_law_2128 ?_
  refine hz_iload hO dL_law_2131 1 rfl ?_
  obtain ⟨hg10, h⟩ := hz_gd_e h
  refine hz_icmp_eq (tgt := 2138) hO dL_law_2133 (by decide) (fun _ => ?_) (fun hc => absurd (eq_of_beq hg10) hc)
  refine hz_iload hO dL_law_2138 1 rfl ?_
  obtain ⟨hg11, h⟩ := hz_gd_e h
  refine hz_if_ne (tgt := 2155) hO dL_law_2140 (by decide) (fun _ => ?_) (fun hc => ?_)
  · refine hz_goto (tgt := 2158) hO dL_law_2155 (by decide) ?_
    refine hz_ls (ls1 := [(4, .int (nI n)), (0, .ref b), (1, .ref (hz_ad w 0)), (2, .ref (hz_ad w 178)), (3, .ref (hz_ad w 193))]) [2, 3, 4, 5, 6] rfl ?_
    exact hz_nameM (hz_some_e h).2.symm kk
  · have hE : M8 193 0 = r4 := by simpa [hc] using hg11
    refine hz_aload_n hO dL_law_2143 rfl 6 rfl ?_
    refine hz_iconst (v := (0 : Int32)) hO dL_law_2144 (by decide) ?_
    refine hz_lald hO hz_sh_193 (hz_lt_193 hN3) (by decide) dL_law_2145 ?_
    refine hz_iload hO dL_law_2146 0 rfl ?_
    refine hz_i2l hO dL_law_2148 ?_
    refine hz_lcmp hO dL_law_2149 ?_
    refine hz_name (y := 0) (by rw [show (0 : Int32).toNatClampNeg = 0 from rfl, hE]; exact hz_lcmp0.symm) ?_
    refine hz_if_eq (tgt := 2155) hO dL_law_2150 (by decide) (fun _ => ?_) (fun hc => absurd rfl hc)
    refine hz_goto (tgt := 2158) hO dL_law_2155 (by decide) ?_
    refine hz_ls (ls1 := [(4, .int (nI n)), (0, .ref b), (1, .ref (hz_ad w 0)), (2, .ref (hz_ad w 178)), (3, .ref (hz_ad w 193))]) [2, 3, 4, 5, 6] rfl ?_
    exact hz_nameM (hz_some_e h).2.symm kk
def fs_case (k a1 a2 a3 a4 a5 : Int32) (M : hz_M) : hz_O :=
  if k = 0 then fs_0 a1 a2 a3 a4 a5 M else
  if k = 1 then fs_1 M else
  if k = 2 then fs_2 M else
  if k = 3 then fs_3 M else
  if k = 4 then fs_4 a1 M else
  if k = 5 then fs_5 a1 a2 M else
  if k = 6 then fs_6 a1 a2 M else
  if k = 7 then fs_7 a1 M else
  if k = 8 then fs_8 a1 M else
  if k = 9 then fs_9 a1 M else
  if k = 10 then fs_10 a1 a2 M else
  if k = 11 then fs_11 M else
  if k = 12 then fs_12 a1 a2 M else
  if k = 13 then fs_13 M else
  if k = 14 then fs_14 a1 a2 a3 M else
  if k = 15 then fs_15 a1 M else
  if k = 16 then fs_16 a1 M else
  if k = 17 then fs_17 M else
  if k = 18 then fs_18 M else
  if k = 19 then fs_19 M else
  if k = 20 then fs_20 a1 M else
  if k = 21 then fs_21 a1 M else
  if k = 22 then fs_22 a1 M else
  if k = 23 then fs_23 M else
  if k = 24 then fs_24 a1 a2 M else
  if k = 25 then fs_25 a1 M else
  if k = 26 then fs_26 a1 a2 M else
  if k = 27 then fs_27 a1 M else
  if k = 28 then fs_28 a1 a2 M else
  if k = 29 then fs_29 a1 a2 M else
  if k = 30 then fs_30 a1 M else
  if k = 31 then fs_31 a1 M else
  if k = 32 then fs_32 M else
  if k = 33 then fs_33 a1 a2 M else
  if k = 34 then fs_34 a1 M else
  if k = 35 then fs_35 a1 a2 M else
  if k = 36 then fs_36 M else
  if k = 37 then fs_37 a1 M else
  if k = 38 then fs_38 M else
  if k = 39 then fs_39 a1 M else
  if k = 40 then fs_40 a1 M else
  some (0, M)
set_option maxRecDepth 100000 in
set_option maxHeartbeats 4000000 in
theorem gs_case {p : Program} {l : Launch} {e : Env} {s : State} {m : MethodId} {args : Array Value} {below : List Frame} {meth : Method} {c : Code} {w : hz_C} (hl : l.stackTraces = false) (hO : hz_Ok p s m args meth c w cL_law 9 "HotStepsLaw" (some .boolean)) {b L : Nat} {xs : Nat → Int32} (hT : va_T .int b L (fun j => .int (xs j)) (hz_A w) s s.heap) (hL : L ≤ 3072) {n : Nat} (hn : n + 6 ≤ L) {z : hz_Z} (hz : z.2.1 + 1 ≤ z.1.1 ∧ z.2.2 + 6 ≤ z.1.2) {Q : State → Prop} {M ME : hz_M} {rE : Int32} {k : Int32} (h : fs_case k (xs (n + 1)) (xs (n + 2)) (xs (n + 3)) (xs (n + 4)) (xs (n + 5)) M = some (rE, ME)) (kk : hz_G p l e 1400 (hz_zn z 1 6) s m args below meth c w 194 9 Q ME 2158 [(4, .int (nI n)), (0, .ref b), (1, .ref (hz_ad w 0)), (2, .ref (hz_ad w 178)), (3, .ref (hz_ad w 193))] []) : hz_G p l e 1400 z s m args below meth c w 194 9 Q M 40 [(4, .int (nI n)), (0, .ref b), (1, .ref (hz_ad w 0)), (2, .ref (hz_ad w 178)), (3, .ref (hz_ad w 193))] [.int k] := by
  unfold fs_case at h
  by_cases h0 : k = (0 : Int32)
  · rw [if_pos h0] at h
    exact hz_tin (tgt := 220) hO h0 dL_law_40 (by decide) (by decide) rfl (by decide) (gs_0 hl hO hT hL hn hz h kk)
  rw [if_neg h0] at h
  by_cases h1 : k = (1 : Int32)
  · rw [if_pos h1] at h
    exact hz_tin (tgt := 293) hO h1 dL_law_40 (by decide) (by decide) rfl (by decide) (gs_1 hl hO hT hL hn hz h kk)
  rw [if_neg h1] at h
  by_cases h2 : k = (2 : Int32)
  · rw [if_pos h2] at h
    exact hz_tin (tgt := 306) hO h2 dL_law_40 (by decide) (by decide) rfl (by decide) (gs_2 hl hO hT hL hn hz h kk)
  rw [if_neg h2] at h
  by_cases h3 : k = (3 : Int32)
  · rw [if_pos h3] at h
    exact hz_tin (tgt := 319) hO h3 dL_law_40 (by decide) (by decide) rfl (by decide) (gs_3 hl hO hT hL hn hz h kk)
  rw [if_neg h3] at h
  by_cases h4 : k = (4 : Int32)
  · rw [if_pos h4] at h
    exact hz_tin (tgt := 332) hO h4 dL_law_40 (by decide) (by decide) rfl (by decide) (gs_4 hl hO hT hL hn hz h kk)
  rw [if_neg h4] at h
  by_cases h5 : k = (5 : Int32)
  · rw [if_pos h5] at h
    exact hz_tin (tgt := 388) hO h5 dL_law_40 (by decide) (by decide) rfl (by decide) (gs_5 hl hO hT hL hn hz h kk)
  rw [if_neg h5] at h
  by_cases h6 : k = (6 : Int32)
  · rw [if_pos h6] at h
    exact hz_tin (tgt := 456) hO h6 dL_law_40 (by decide) (by decide) rfl (by decide) (gs_6 hl hO hT hL hn hz h kk)
  rw [if_neg h6] at h
  by_cases h7 : k = (7 : Int32)
  · rw [if_pos h7] at h
    exact hz_tin (tgt := 524) hO h7 dL_law_40 (by decide) (by decide) rfl (by decide) (gs_7 hl hO hT hL hn hz h kk)
  rw [if_neg h7] at h
  by_cases h8 : k = (8 : Int32)
  · rw [if_pos h8] at h
    exact hz_tin (tgt := 580) hO h8 dL_law_40 (by decide) (by decide) rfl (by decide) (gs_8 hl hO hT hL hn hz h kk)
  rw [if_neg h8] at h
  by_cases h9 : k = (9 : Int32)
  · rw [if_pos h9] at h
    exact hz_tin (tgt := 636) hO h9 dL_law_40 (by decide) (by decide) rfl (by decide) (gs_9 hl hO hT hL hn hz h kk)
  rw [if_neg h9] at h
  by_cases h10 : k = (10 : Int32)
  · rw [if_pos h10] at h
    exact hz_tin (tgt := 692) hO h10 dL_law_40 (by decide) (by decide) rfl (by decide) (gs_10 hl hO hT hL hn hz h kk)
  rw [if_neg h10] at h
  by_cases h11 : k = (11 : Int32)
  · rw [if_pos h11] at h
    exact hz_tin (tgt := 760) hO h11 dL_law_40 (by decide) (by decide) rfl (by decide) (gs_11 hl hO hT hL hn hz h kk)
  rw [if_neg h11] at h
  by_cases h12 : k = (12 : Int32)
  · rw [if_pos h12] at h
    exact hz_tin (tgt := 773) hO h12 dL_law_40 (by decide) (by decide) rfl (by decide) (gs_12 hl hO hT hL hn hz h kk)
  rw [if_neg h12] at h
  by_cases h13 : k = (13 : Int32)
  · rw [if_pos h13] at h
    exact hz_tin (tgt := 841) hO h13 dL_law_40 (by decide) (by decide) rfl (by decide) (gs_13 hl hO hT hL hn hz h kk)
  rw [if_neg h13] at h
  by_cases h14 : k = (14 : Int32)
  · rw [if_pos h14] at h
    exact hz_tin (tgt := 854) hO h14 dL_law_40 (by decide) (by decide) rfl (by decide) (gs_14 hl hO hT hL hn hz h kk)
  rw [if_neg h14] at h
  by_cases h15 : k = (15 : Int32)
  · rw [if_pos h15] at h
    exact hz_tin (tgt := 934) hO h15 dL_law_40 (by decide) (by decide) rfl (by decide) (gs_15 hl hO hT hL hn hz h kk)
  rw [if_neg h15] at h
  by_cases h16 : k = (16 : Int32)
  · rw [if_pos h16] at h
    exact hz_tin (tgt := 990) hO h16 dL_law_40 (by decide) (by decide) rfl (by decide) (gs_16 hl hO hT hL hn hz h kk)
  rw [if_neg h16] at h
  by_cases h17 : k = (17 : Int32)
  · rw [if_pos h17] at h
    exact hz_tin (tgt := 1046) hO h17 dL_law_40 (by decide) (by decide) rfl (by decide) (gs_17 hl hO hT hL hn hz h kk)
  rw [if_neg h17] at h
  by_cases h18 : k = (18 : Int32)
  · rw [if_pos h18] at h
    exact hz_tin (tgt := 1059) hO h18 dL_law_40 (by decide) (by decide) rfl (by decide) (gs_18 hl hO hT hL hn hz h kk)
  rw [if_neg h18] at h
  by_cases h19 : k = (19 : Int32)
  · rw [if_pos h19] at h
    exact hz_tin (tgt := 1100) hO h19 dL_law_40 (by decide) (by decide) rfl (by decide) (gs_19 hl hO hT hL hn hz h kk)
  rw [if_neg h19] at h
  by_cases h20 : k = (20 : Int32)
  · rw [if_pos h20] at h
    exact hz_tin (tgt := 1113) hO h20 dL_law_40 (by decide) (by decide) rfl (by decide) (gs_20 hl hO hT hL hn hz h kk)
  rw [if_neg h20] at h
  by_cases h21 : k = (21 : Int32)
  · rw [if_pos h21] at h
    exact hz_tin (tgt := 1169) hO h21 dL_law_40 (by decide) (by decide) rfl (by decide) (gs_21 hl hO hT hL hn hz h kk)
  rw [if_neg h21] at h
  by_cases h22 : k = (22 : Int32)
  · rw [if_pos h22] at h
    exact hz_tin (tgt := 1225) hO h22 dL_law_40 (by decide) (by decide) rfl (by decide) (gs_22 hl hO hT hL hn hz h kk)
  rw [if_neg h22] at h
  by_cases h23 : k = (23 : Int32)
  · rw [if_pos h23] at h
    exact hz_tin (tgt := 1281) hO h23 dL_law_40 (by decide) (by decide) rfl (by decide) (gs_23 hl hO hT hL hn hz h kk)
  rw [if_neg h23] at h
  by_cases h24 : k = (24 : Int32)
  · rw [if_pos h24] at h
    exact hz_tin (tgt := 1294) hO h24 dL_law_40 (by decide) (by decide) rfl (by decide) (gs_24 hl hO hT hL hn hz h kk)
  rw [if_neg h24] at h
  by_cases h25 : k = (25 : Int32)
  · rw [if_pos h25] at h
    exact hz_tin (tgt := 1362) hO h25 dL_law_40 (by decide) (by decide) rfl (by decide) (gs_25 hl hO hT hL hn hz h kk)
  rw [if_neg h25] at h
  by_cases h26 : k = (26 : Int32)
  · rw [if_pos h26] at h
    exact hz_tin (tgt := 1418) hO h26 dL_law_40 (by decide) (by decide) rfl (by decide) (gs_26 hl hO hT hL hn hz h kk)
  rw [if_neg h26] at h
  by_cases h27 : k = (27 : Int32)
  · rw [if_pos h27] at h
    exact hz_tin (tgt := 1486) hO h27 dL_law_40 (by decide) (by decide) rfl (by decide) (gs_27 hl hO hT hL hn hz h kk)
  rw [if_neg h27] at h
  by_cases h28 : k = (28 : Int32)
  · rw [if_pos h28] at h
    exact hz_tin (tgt := 1542) hO h28 dL_law_40 (by decide) (by decide) rfl (by decide) (gs_28 hl hO hT hL hn hz h kk)
  rw [if_neg h28] at h
  by_cases h29 : k = (29 : Int32)
  · rw [if_pos h29] at h
    exact hz_tin (tgt := 1610) hO h29 dL_law_40 (by decide) (by decide) rfl (by decide) (gs_29 hl hO hT hL hn hz h kk)
  rw [if_neg h29] at h
  by_cases h30 : k = (30 : Int32)
  · rw [if_pos h30] at h
    exact hz_tin (tgt := 1678) hO h30 dL_law_40 (by decide) (by decide) rfl (by decide) (gs_30 hl hO hT hL hn hz h kk)
  rw [if_neg h30] at h
  by_cases h31 : k = (31 : Int32)
  · rw [if_pos h31] at h
    exact hz_tin (tgt := 1734) hO h31 dL_law_40 (by decide) (by decide) rfl (by decide) (gs_31 hl hO hT hL hn hz h kk)
  rw [if_neg h31] at h
  by_cases h32 : k = (32 : Int32)
  · rw [if_pos h32] at h
    exact hz_tin (tgt := 1790) hO h32 dL_law_40 (by decide) (by decide) rfl (by decide) (gs_32 hl hO hT hL hn hz h kk)
  rw [if_neg h32] at h
  by_cases h33 : k = (33 : Int32)
  · rw [if_pos h33] at h
    exact hz_tin (tgt := 1803) hO h33 dL_law_40 (by decide) (by decide) rfl (by decide) (gs_33 hl hO hT hL hn hz h kk)
  rw [if_neg h33] at h
  by_cases h34 : k = (34 : Int32)
  · rw [if_pos h34] at h
    exact hz_tin (tgt := 1871) hO h34 dL_law_40 (by decide) (by decide) rfl (by decide) (gs_34 hl hO hT hL hn hz h kk)
  rw [if_neg h34] at h
  by_cases h35 : k = (35 : Int32)
  · rw [if_pos h35] at h
    exact hz_tin (tgt := 1927) hO h35 dL_law_40 (by decide) (by decide) rfl (by decide) (gs_35 hl hO hT hL hn hz h kk)
  rw [if_neg h35] at h
  by_cases h36 : k = (36 : Int32)
  · rw [if_pos h36] at h
    exact hz_tin (tgt := 1995) hO h36 dL_law_40 (by decide) (by decide) rfl (by decide) (gs_36 hl hO hT hL hn hz h kk)
  rw [if_neg h36] at h
  by_cases h37 : k = (37 : Int32)
  · rw [if_pos h37] at h
    exact hz_tin (tgt := 2008) hO h37 dL_law_40 (by decide) (by decide) rfl (by decide) (gs_37 hl hO hT hL hn hz h kk)
  rw [if_neg h37] at h
  by_cases h38 : k = (38 : Int32)
  · rw [if_pos h38] at h
    exact hz_tin (tgt := 2033) hO h38 dL_law_40 (by decide) (by decide) rfl (by decide) (gs_38 hl hO hT hL hn hz h kk)
  rw [if_neg h38] at h
  by_cases h39 : k = (39 : Int32)
  · rw [if_pos h39] at h
    exact hz_tin (tgt := 2046) hO h39 dL_law_40 (by decide) (by decide) rfl (by decide) (gs_39 hl hO hT hL hn hz h kk)
  rw [if_neg h39] at h
  by_cases h40 : k = (40 : Int32)
  · rw [if_pos h40] at h
    exact hz_tin (tgt := 2102) hO h40 dL_law_40 (by decide) (by decide) rfl (by decide) (gs_40 hl hO hT hL hn hz h kk)
  rw [if_neg h40] at h
  have hn0 : ¬ k.toInt = 0 := lv_neT h0 rfl
  have hn1 : ¬ k.toInt = 1 := lv_neT h1 rfl
  have hn2 : ¬ k.toInt = 2 := lv_neT h2 rfl
  have hn3 : ¬ k.toInt = 3 := lv_neT h3 rfl
  have hn4 : ¬ k.toInt = 4 := lv_neT h4 rfl
  have hn5 : ¬ k.toInt = 5 := lv_neT h5 rfl
  have hn6 : ¬ k.toInt = 6 := lv_neT h6 rfl
  have hn7 : ¬ k.toInt = 7 := lv_neT h7 rfl
  have hn8 : ¬ k.toInt = 8 := lv_neT h8 rfl
  have hn9 : ¬ k.toInt = 9 := lv_neT h9 rfl
  have hn10 : ¬ k.toInt = 10 := lv_neT h10 rfl
  have hn11 : ¬ k.toInt = 11 := lv_neT h11 rfl
  have hn12 : ¬ k.toInt = 12 := lv_neT h12 rfl
  have hn13 : ¬ k.toInt = 13 := lv_neT h13 rfl
  have hn14 : ¬ k.toInt = 14 := lv_neT h14 rfl
  have hn15 : ¬ k.toInt = 15 := lv_neT h15 rfl
  have hn16 : ¬ k.toInt = 16 := lv_neT h16 rfl
  have hn17 : ¬ k.toInt = 17 := lv_neT h17 rfl
  have hn18 : ¬ k.toInt = 18 := lv_neT h18 rfl
  have hn19 : ¬ k.toInt = 19 := lv_neT h19 rfl
  have hn20 : ¬ k.toInt = 20 := lv_neT h20 rfl
  have hn21 : ¬ k.toInt = 21 := lv_neT h21 rfl
  have hn22 : ¬ k.toInt = 22 := lv_neT h22 rfl
  have hn23 : ¬ k.toInt = 23 := lv_neT h23 rfl
  have hn24 : ¬ k.toInt = 24 := lv_neT h24 rfl
  have hn25 : ¬ k.toInt = 25 := lv_neT h25 rfl
  have hn26 : ¬ k.toInt = 26 := lv_neT h26 rfl
  have hn27 : ¬ k.toInt = 27 := lv_neT h27 rfl
  have hn28 : ¬ k.toInt = 28 := lv_neT h28 rfl
  have hn29 : ¬ k.toInt = 29 := lv_neT h29 rfl
  have hn30 : ¬ k.toInt = 30 := lv_neT h30 rfl
  have hn31 : ¬ k.toInt = 31 := lv_neT h31 rfl
  have hn32 : ¬ k.toInt = 32 := lv_neT h32 rfl
  have hn33 : ¬ k.toInt = 33 := lv_neT h33 rfl
  have hn34 : ¬ k.toInt = 34 := lv_neT h34 rfl
  have hn35 : ¬ k.toInt = 35 := lv_neT h35 rfl
  have hn36 : ¬ k.toInt = 36 := lv_neT h36 rfl
  have hn37 : ¬ k.toInt = 37 := lv_neT h37 rfl
  have hn38 : ¬ k.toInt = 38 := lv_neT h38 rfl
  have hn39 : ¬ k.toInt = 39 := lv_neT h39 rfl
  have hn40 : ¬ k.toInt = 40 := lv_neT h40 rfl
  refine hz_tout (tgt := 2158) hO dL_law_40 (by omega) (by decide) ?_
  refine hz_upz hz ?_
  exact hz_nameM (hz_some_e h).2.symm kk
