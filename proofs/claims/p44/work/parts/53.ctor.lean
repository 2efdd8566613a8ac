def hz_cs (w : hz_C) (shs : List hz_S) : List va_E := shs.map (hz_cell w (fun _ => 0))
theorem hz_cal_X3_init : hz_CalI RX3 yX3_init cX3_init 1 0 := ⟨⟨tw_1_43, tw_1_2, ⟨rfl, by decide, by decide, by decide +kernel⟩, Nat.le_of_ble_eq_true rfl⟩, tw_1_42, rfl⟩
set_option maxRecDepth 100000 in
set_option maxHeartbeats 4000000 in
theorem c_X3_init (l : Launch) (w : hz_C) (L : List va_E) {b : Nat} (hb : L.length = b) : hz_CB l yX3_init cX3_init 1 1 3 128 w [.ref (hz_ad w b)] (L ++ [.inr (4, [.null, .null, .null, .int 0, .int 0, .int 0, .int 0, .int 0, .int 0, .int 0, .int 0, .int 0])]) (L ++ hz_cs w [.inl (4, [some (b + 1), some (b + 2), some (b + 3), none, none, none, none, none, none, none, none, none]), .inr (.inl (0, 16)), .inr (.inl (0, 96)), .inr (.inl (0, 16))]) := by
  subst hb
  refine hz_b_ofW (by decide) rfl rfl (Nat.le_of_ble_eq_true rfl) tw_1_43 ?_
  intro p e s m args below meth c hO hin
  show hz_B p l e 1 ((3, 128), (0, 0)) s m args below meth c w 1 _ L [.inr (4, [.null, .null, .null, .int 0, .int 0, .int 0, .int 0, .int 0, .int 0, .int 0, .int 0, .int 0])] 0 [(0, .ref (hz_ad w L.length))] []
  refine hz_b_aload_n hO dX3_init_0 rfl 0 rfl ?_
  refine hz_b_obj hO tw_1_44 (Nat.le_of_ble_eq_true rfl) (Nat.le_of_ble_eq_true rfl) dX3_init_1 ?_
  refine hz_b_aload_n hO dX3_init_4 rfl 0 rfl ?_
  refine hz_b_bipush (v := (16 : Int32)) hO dX3_init_5 (by decide) ?_
  refine hz_b_newa (ty := .int) (t := 0) (n := 16) hO rfl (by decide) rfl rfl rfl tw_1_101 (by decide) (by decide) (Nat.le_of_ble_eq_true rfl) ⟨(Nat.le_of_ble_eq_true rfl), (Nat.le_of_ble_eq_true rfl)⟩ dX3_init_7 ?_
  refine hz_b_S (S1 := [.inr (4, [.null, .null, .null, .int 0, .int 0, .int 0, .int 0, .int 0, .int 0, .int 0, .int 0, .int 0]), .inl (hz_tc w 0, 16, .inl (fun _ => 0))]) rfl ?_
  refine hz_b_st (st1 := [.ref (hz_ad w (L.length + 1)), .ref (hz_ad w L.length)]) rfl ?_
  refine hz_b_put (j := 0) (k := 0) hO hin hz_K_4 tyX3_ok nmX3 rfl (Nat.le_of_ble_eq_true rfl) tw_1_45 rfl rfl rfl rfl rfl (Nat.le_of_ble_eq_true rfl) dX3_init_9 ?_
  refine hz_b_S (S1 := [.inr (4, [.ref (hz_ad w (L.length + 1)), .null, .null, .int 0, .int 0, .int 0, .int 0, .int 0, .int 0, .int 0, .int 0, .int 0]), .inl (hz_tc w 0, 16, .inl (fun _ => 0))]) rfl ?_
  refine hz_b_aload_n hO dX3_init_12 rfl 0 rfl ?_
  refine hz_b_bipush (v := (96 : Int32)) hO dX3_init_13 (by decide) ?_
  refine hz_b_newa (ty := .int) (t := 0) (n := 96) hO rfl (by decide) rfl rfl rfl tw_1_101 (by decide) (by decide) (Nat.le_of_ble_eq_true rfl) ⟨(Nat.le_of_ble_eq_true rfl), (Nat.le_of_ble_eq_true rfl)⟩ dX3_init_15 ?_
  refine hz_b_S (S1 := [.inr (4, [.ref (hz_ad w (L.length + 1)), .null, .null, .int 0, .int 0, .int 0, .int 0, .int 0, .int 0, .int 0, .int 0, .int 0]), .inl (hz_tc w 0, 16, .inl (fun _ => 0)), .inl (hz_tc w 0, 96, .inl (fun _ => 0))]) rfl ?_
  refine hz_b_st (st1 := [.ref (hz_ad w (L.length + 2)), .ref (hz_ad w L.length)]) rfl ?_
  refine hz_b_put (j := 0) (k := 1) hO hin hz_K_4 tyX3_ok nmX3 rfl (Nat.le_of_ble_eq_true rfl) tw_1_49 rfl rfl rfl rfl rfl (Nat.le_of_ble_eq_true rfl) dX3_init_17 ?_
  refine hz_b_S (S1 := [.inr (4, [.ref (hz_ad w (L.length + 1)), .ref (hz_ad w (L.length + 2)), .null, .int 0, .int 0, .int 0, .int 0, .int 0, .int 0, .int 0, .int 0, .int 0]), .inl (hz_tc w 0, 16, .inl (fun _ => 0)), .inl (hz_tc w 0, 96, .inl (fun _ => 0))]) rfl ?_
  refine hz_b_aload_n hO dX3_init_20 rfl 0 rfl ?_
  refine hz_b_bipush (v := (16 : Int32)) hO dX3_init_21 (by decide) ?_
  refine hz_b_newa (ty := .int) (t := 0) (n := 16) hO rfl (by decide) rfl rfl rfl tw_1_101 (by decide) (by decide) (Nat.le_of_ble_eq_true rfl) ⟨(Nat.le_of_ble_eq_true rfl), (Nat.le_of_ble_eq_true rfl)⟩ dX3_init_23 ?_
  refine hz_b_S (S1 := [.inr (4, [.ref (hz_ad w (L.length + 1)), .ref (hz_ad w (L.length + 2)), .null, .int 0, .int 0, .int 0, .int 0, .int 0, .int 0, .int 0, .int 0, .int 0]), .inl (hz_tc w 0, 16, .inl (fun _ => 0)), .inl (hz_tc w 0, 96, .inl (fun _ => 0)), .inl (hz_tc w 0, 16, .inl (fun _ => 0))]) rfl ?_
  refine hz_b_st (st1 := [.ref (hz_ad w (L.length + 3)), .ref (hz_ad w L.length)]) rfl ?_
  refine hz_b_put (j := 0) (k := 2) hO hin hz_K_4 tyX3_ok nmX3 rfl (Nat.le_of_ble_eq_true rfl) tw_1_50 rfl rfl rfl rfl rfl (Nat.le_of_ble_eq_true rfl) dX3_init_25 ?_
  refine hz_b_S (S1 := [.inr (4, [.ref (hz_ad w (L.length + 1)), .ref (hz_ad w (L.length + 2)), .ref (hz_ad w (L.length + 3)), .int 0, .int 0, .int 0, .int 0, .int 0, .int 0, .int 0, .int 0, .int 0]), .inl (hz_tc w 0, 16, .inl (fun _ => 0)), .inl (hz_tc w 0, 96, .inl (fun _ => 0)), .inl (hz_tc w 0, 16, .inl (fun _ => 0))]) rfl ?_
  refine hz_b_S (S1 := hz_cs w [.inl (4, [some (L.length + 1), some (L.length + 2), some (L.length + 3), none, none, none, none, none, none, none, none, none]), .inr (.inl (0, 16)), .inr (.inl (0, 96)), .inr (.inl (0, 16))]) rfl ?_
  exact hz_b_vret hO dX3_init_28
theorem hz_cal_X8_init : hz_CalI RX8 yX8_init cX8_init 1 0 := ⟨⟨tw_1_106, tw_1_3, ⟨rfl, by decide, by decide, by decide +kernel⟩, Nat.le_of_ble_eq_true rfl⟩, tw_1_105, rfl⟩
set_option maxRecDepth 100000 in
set_option maxHeartbeats 4000000 in
theorem c_X8_init (l : Launch) (w : hz_C) (L : List va_E) {b : Nat} (hb : L.length = b) : hz_CB l yX8_init cX8_init 1 1 1 600 w [.ref (hz_ad w b)] (L ++ [.inr (8, [.null, .int 0, .int 0, .int 0, .int 0, .int 0, .int 0, .int 0])]) (L ++ hz_cs w [.inl (8, [some (b + 1), none, none, none, none, none, none, none]), .inr (.inl (0, 600))]) := by
  subst hb
  refine hz_b_ofW (by decide) rfl rfl (Nat.le_of_ble_eq_true rfl) tw_1_106 ?_
  intro p e s m args below meth c hO hin
  show hz_B p l e 1 ((1, 600), (0, 0)) s m args below meth c w 1 _ L [.inr (8, [.null, .int 0, .int 0, .int 0, .int 0, .int 0, .int 0, .int 0])] 0 [(0, .ref (hz_ad w L.length))] []
  refine hz_b_aload_n hO dX8_init_0 rfl 0 rfl ?_
  refine hz_b_obj hO tw_1_107 (Nat.le_of_ble_eq_true rfl) (Nat.le_of_ble_eq_true rfl) dX8_init_1 ?_
  refine hz_b_aload_n hO dX8_init_4 rfl 0 rfl ?_
  refine hz_b_sipush (v := (600 : Int32)) hO dX8_init_5 (by decide) ?_
  refine hz_b_newa (ty := .int) (t := 0) (n := 600) hO rfl (by decide) rfl rfl rfl tw_1_101 (by decide) (by decide) (Nat.le_of_ble_eq_true rfl) ⟨(Nat.le_of_ble_eq_true rfl), (Nat.le_of_ble_eq_true rfl)⟩ dX8_init_8 ?_
  refine hz_b_S (S1 := [.inr (8, [.null, .int 0, .int 0, .int 0, .int 0, .int 0, .int 0, .int 0]), .inl (hz_tc w 0, 600, .inl (fun _ => 0))]) rfl ?_
  refine hz_b_st (st1 := [.ref (hz_ad w (L.length + 1)), .ref (hz_ad w L.length)]) rfl ?_
  refine hz_b_put (j := 0) (k := 0) hO hin hz_K_8 tyX8_ok nmX8 rfl (Nat.le_of_ble_eq_true rfl) tw_1_108 rfl rfl rfl rfl rfl (Nat.le_of_ble_eq_true rfl) dX8_init_10 ?_
  refine hz_b_S (S1 := [.inr (8, [.ref (hz_ad w (L.length + 1)), .int 0, .int 0, .int 0, .int 0, .int 0, .int 0, .int 0]), .inl (hz_tc w 0, 600, .inl (fun _ => 0))]) rfl ?_
  refine hz_b_S (S1 := hz_cs w [.inl (8, [some (L.length + 1), none, none, none, none, none, none, none]), .inr (.inl (0, 600))]) rfl ?_
  exact hz_b_vret hO dX8_init_13
theorem hz_cal_X7_init : hz_CalI RX7 yX7_init cX7_init 2 1 := ⟨⟨tw_1_144, tw_1_4, ⟨rfl, by decide, by decide, by decide +kernel⟩, Nat.le_of_ble_eq_true rfl⟩, tw_1_143, rfl⟩
set_option maxRecDepth 100000 in
set_option maxHeartbeats 4000000 in
theorem c_X7_init (l : Launch) (w : hz_C) (L : List va_E) {b : Nat} (hb : L.length = b) : hz_CB l yX7_init cX7_init 2 1 13 185 w [.ref (hz_ad w b), .ref (hz_ad w 1)] (L ++ [.inr (7, [.null, .null, .null, .null, .null, .null, .null, .null, .null, .null, .null, .null, .null, .null, .int 0, .int 0, .int 0, .int 0, .int 0, .int 0])]) (L ++ hz_cs w [.inl (7, [some 1, some (b + 1), some (b + 2), some (b + 3), some (b + 4), some (b + 5), some (b + 6), some (b + 7), some (b + 8), some (b + 9), some (b + 10), some (b + 11), some (b + 12), some (b + 13), none, none, none, none, none, none]), .inr (.inl (0, 4)), .inr (.inl (0, 16)), .inr (.inl (0, 16)), .inr (.inl (0, 16)), .inr (.inl (0, 16)), .inr (.inl (0, 16)), .inr (.inl (0, 16)), .inr (.inl (0, 12)), .inr (.inl (0, 16)), .inr (.inl (0, 16)), .inr (.inl (0, 16)), .inr (.inl (0, 16)), .inr (.inl (0, 9))]) := by
  subst hb
  refine hz_b_ofW (by decide) rfl rfl (Nat.le_of_ble_eq_true rfl) tw_1_144 ?_
  intro p e s m args below meth c hO hin
  show hz_B p l e 1 ((13, 185), (0, 0)) s m args below meth c w 2 _ L [.inr (7, [.null, .null, .null, .null, .null, .null, .null, .null, .null, .null, .null, .null, .null, .null, .int 0, .int 0, .int 0, .int 0, .int 0, .int 0])] 0 [(0, .ref (hz_ad w L.length)), (1, .ref (hz_ad w 1))] []
  refine hz_b_aload_n hO dX7_init_0 rfl 0 rfl ?_
  refine hz_b_obj hO tw_1_145 (Nat.le_of_ble_eq_true rfl) (Nat.le_of_ble_eq_true rfl) dX7_init_1 ?_
  refine hz_b_aload_n hO dX7_init_4 rfl 0 rfl ?_
  refine hz_b_iconst (v := (4 : Int32)) hO dX7_init_5 (by decide) ?_
  refine hz_b_newa (ty := .int) (t := 0) (n := 4) hO rfl (by decide) rfl rfl rfl tw_1_101 (by decide) (by decide) (Nat.le_of_ble_eq_true rfl) ⟨(Nat.le_of_ble_eq_true rfl), (Nat.le_of_ble_eq_true rfl)⟩ dX7_init_6 ?_
  refine hz_b_S (S1 := [.inr (7, [.null, .null, .null, .null, .null, .null, .null, .null, .null, .null, .null, .null, .null, .null, .int 0, .int 0, .int 0, .int 0, .int 0, .int 0]), .inl (hz_tc w 0, 4, .inl (fun _ => 0))]) rfl ?_
  refine hz_b_st (st1 := [.ref (hz_ad w (L.length + 1)), .ref (hz_ad w L.length)]) rfl ?_
  refine hz_b_put (j := 0) (k := 1) hO hin hz_K_7 tyX7_ok nmX7 rfl (Nat.le_of_ble_eq_true rfl) tw_1_147 rfl rfl rfl rfl rfl (Nat.le_of_ble_eq_true rfl) dX7_init_8 ?_
  refine hz_b_S (S1 := [.inr (7, [.null, .ref (hz_ad w (L.length + 1)), .null, .null, .null, .null, .null, .null, .null, .null, .null, .null, .null, .null, .int 0, .int 0, .int 0, .int 0, .int 0, .int 0]), .inl (hz_tc w 0, 4, .inl (fun _ => 0))]) rfl ?_
  refine hz_b_aload_n hO dX7_init_11 rfl 0 rfl ?_
  refine hz_b_bipush (v := (16 : Int32)) hO dX7_init_12 (by decide) ?_
  refine hz_b_newa (ty := .int) (t := 0) (n := 16) hO rfl (by decide) rfl rfl rfl tw_1_101 (by decide) (by decide) (Nat.le_of_ble_eq_true rfl) ⟨(Nat.le_of_ble_eq_true rfl), (Nat.le_of_ble_eq_true rfl)⟩ dX7_init_14 ?_
  refine hz_b_S (S1 := [.inr (7, [.null, .ref (hz_ad w (L.length + 1)), .null, .null, .null, .null, .null, .null, .null, .null, .null, .null, .null, .null, .int 0, .int 0, .int 0, .int 0, .int 0, .int 0]), .inl (hz_tc w 0, 4, .inl (fun _ => 0)), .inl (hz_tc w 0, 16, .inl (fun _ => 0))]) rfl ?_
  refine hz_b_st (st1 := [.ref (hz_ad w (L.length + 2)), .ref (hz_ad w L.length)]) rfl ?_
  refine hz_b_put (j := 0) (k := 2) hO hin hz_K_7 tyX7_ok nmX7 rfl (Nat.le_of_ble_eq_true rfl) tw_1_150 rfl rfl rfl rfl rfl (Nat.le_of_ble_eq_true rfl) dX7_init_16 ?_
  refine hz_b_S (S1 := [.inr (7, [.null, .ref (hz_ad w (L.length + 1)), .ref (hz_ad w (L.length + 2)), .null, .null, .null, .null, .null, .null, .null, .null, .null, .null, .null, .int 0, .int 0, .int 0, .int 0, .int 0, .int 0]), .inl (hz_tc w 0, 4, .inl (fun _ => 0)), .inl (hz_tc w 0, 16, .inl (fun _ => 0))]) rfl ?_
  refine hz_b_aload_n hO dX7_init_19 rfl 0 rfl ?_
  refine hz_b_bipush (v := (16 : Int32)) hO dX7_init_20 (by decide) ?_
  refine hz_b_newa (ty := .int) (t := 0) (n := 16) hO rfl (by decide) rfl rfl rfl tw_1_101 (by decide) (by decide) (Nat.le_of_ble_eq_true rfl) ⟨(Nat.le_of_ble_eq_true rfl), (Nat.le_of_ble_eq_true rfl)⟩ dX7_init_22 ?_
  refine hz_b_S (S1 := [.inr (7, [.null, .ref (hz_ad w (L.length + 1)), .ref (hz_ad w (L.length + 2)), .null, .null, .null, .null, .null, .null, .null, .null, .null, .null, .null, .int 0, .int 0, .int 0, .int 0, .int 0, .int 0]), .inl (hz_tc w 0, 4, .inl (fun _ => 0)), .inl (hz_tc w 0, 16, .inl (fun _ => 0)), .inl (hz_tc w 0, 16, .inl (fun _ => 0))]) rfl ?_
  refine hz_b_st (st1 := [.ref (hz_ad w (L.length + 3)), .ref (hz_ad w L.length)]) rfl ?_
  refine hz_b_put (j := 0) (k := 3) hO hin hz_K_7 tyX7_ok nmX7 rfl (Nat.le_of_ble_eq_true rfl) tw_1_154 rfl rfl rfl rfl rfl (Nat.le_of_ble_eq_true rfl) dX7_init_24 ?_
  refine hz_b_S (S1 := [.inr (7, [.null, .ref (hz_ad w (L.length + 1)), .ref (hz_ad w (L.length + 2)), .ref (hz_ad w (L.length + 3)), .null, .null, .null, .null, .null, .null, .null, .null, .null, .null, .int 0, .int 0, .int 0, .int 0, .int 0, .int 0]), .inl (hz_tc w 0, 4, .inl (fun _ => 0)), .inl (hz_tc w 0, 16, .inl (fun _ => 0)), .inl (hz_tc w 0, 16, .inl (fun _ => 0))]) rfl ?_
  refine hz_b_aload_n hO dX7_init_27 rfl 0 rfl ?_
  refine hz_b_bipush (v := (16 : Int32)) hO dX7_init_28 (by decide) ?_
  refine hz_b_newa (ty := .int) (t := 0) (n := 16) hO rfl (by decide) rfl rfl rfl tw_1_101 (by decide) (by decide) (Nat.le_of_ble_eq_true rfl) ⟨(Nat.le_of_ble_eq_true rfl), (Nat.le_of_ble_eq_true rfl)⟩ dX7_init_30 ?_
  refine hz_b_S (S1 := [.inr (7, [.null, .ref (hz_ad w (L.length + 1)), .ref (hz_ad w (L.length + 2)), .ref (hz_ad w (L.length + 3)), .null, .null, .null, .null, .null, .null, .null, .null, .null, .null, .int 0, .int 0, .int 0, .int 0, .int 0, .int 0]), .inl (hz_tc w 0, 4, .inl (fun _ => 0)), .inl (hz_tc w 0, 16, .inl (fun _ => 0)), .inl (hz_tc w 0, 16, .inl (fun _ => 0)), .inl (hz_tc w 0, 16, .inl (fun _ => 0))]) rfl ?_
  refine hz_b_st (st1 := [.ref (hz_ad w (L.length + 4)), .ref (hz_ad w L.length)]) rfl ?_
  refine hz_b_put (j := 0) (k := 4) hO hin hz_K_7 tyX7_ok nmX7 rfl (Nat.le_of_ble_eq_true rfl) tw_1_157 rfl rfl rfl rfl rfl (Nat.le_of_ble_eq_true rfl) dX7_init_32 ?_
  refine hz_b_S (S1 := [.inr (7, [.null, .ref (hz_ad w (L.length + 1)), .ref (hz_ad w (L.length + 2)), .ref (hz_ad w (L.length + 3)), .ref (hz_ad w (L.length + 4)), .null, .null, .null, .null, .null, .null, .null, .null, .null, .int 0, .int 0, .int 0, .int 0, .int 0, .int 0]), .inl (hz_tc w 0, 4, .inl (fun _ => 0)), .inl (hz_tc w 0, 16, .inl (fun _ => 0)), .inl (hz_tc w 0, 16, .inl (fun _ => 0)), .inl (hz_tc w 0, 16, .inl (fun _ => 0))]) rfl ?_
  refine hz_b_aload_n hO dX7_init_35 rfl 0 rfl ?_
  refine hz_b_bipush (v := (16 : Int32)) hO dX7_init_36 (by decide) ?_
  refine hz_b_newa (ty := .int) (t := 0) (n := 16) hO rfl (by decide) rfl rfl rfl tw_1_101 (by decide) (by decide) (Nat.le_of_ble_eq_true rfl) ⟨(Nat.le_of_ble_eq_true rfl), (Nat.le_of_ble_eq_true rfl)⟩ dX7_init_38 ?_
  refine hz_b_S (S1 := [.inr (7, [.null, .ref (hz_ad w (L.length + 1)), .ref (hz_ad w (L.length + 2)), .ref (hz_ad w (L.length + 3)), .ref (hz_ad w (L.length + 4)), .null, .null, .null, .null, .null, .null, .null, .null, .null, .int 0, .int 0, .int 0, .int 0, .int 0, .int 0]), .inl (hz_tc w 0, 4, .inl (fun _ => 0)), .inl (hz_tc w 0, 16, .inl (fun _ => 0)), .inl (hz_tc w 0, 16, .inl (fun _ => 0)), .inl (hz_tc w 0, 16, .inl (fun _ => 0)), .inl (hz_tc w 0, 16, .inl (fun _ => 0))]) rfl ?_
  refine hz_b_st (st1 := [.ref (hz_ad w (L.length + 5)), .ref (hz_ad w L.length)]) rfl ?_
  refine hz_b_put (j := 0) (k := 5) hO hin hz_K_7 tyX7_ok nmX7 rfl (Nat.le_of_ble_eq_true rfl) tw_1_161 rfl rfl rfl rfl rfl (Nat.le_of_ble_eq_true rfl) dX7_init_40 ?_
  refine hz_b_S (S1 := [.inr (7, [.null, .ref (hz_ad w (L.length + 1)), .ref (hz_ad w (L.length + 2)), .ref (hz_ad w (L.length + 3)), .ref (hz_ad w (L.length + 4)), .ref (hz_ad w (L.length + 5)), .null, .null, .null, .null, .null, .null, .null, .null, .int 0, .int 0, .int 0, .int 0, .int 0, .int 0]), .inl (hz_tc w 0, 4, .inl (fun _ => 0)), .inl (hz_tc w 0, 16, .inl (fun _ => 0)), .inl (hz_tc w 0, 16, .inl (fun _ => 0)), .inl (hz_tc w 0, 16, .inl (fun _ => 0)), .inl (hz_tc w 0, 16, .inl (fun _ => 0))]) rfl ?_
  refine hz_b_aload_n hO dX7_init_43 rfl 0 rfl ?_
  refine hz_b_bipush (v := (16 : Int32)) hO dX7_init_44 (by decide) ?_
  refine hz_b_newa (ty := .int) (t := 0) (n := 16) hO rfl (by decide) rfl rfl rfl tw_1_101 (by decide) (by decide) (Nat.le_of_ble_eq_true rfl) ⟨(Nat.le_of_ble_eq_true rfl), (Nat.le_of_ble_eq_true rfl)⟩ dX7_init_46 ?_
  refine hz_b_S (S1 := [.inr (7, [.null, .ref (hz_ad w (L.length + 1)), .ref (hz_ad w (L.length + 2)), .ref (hz_ad w (L.length + 3)), .ref (hz_ad w (L.length + 4)), .ref (hz_ad w (L.length + 5)), .null, .null, .null, .null, .null, .null, .null, .null, .int 0, .int 0, .int 0, .int 0, .int 0, .int 0]), .inl (hz_tc w 0, 4, .inl (fun _ => 0)), .inl (hz_tc w 0, 16, .inl (fun _ => 0)), .inl (hz_tc w 0, 16, .inl (fun _ => 0)), .inl (hz_tc w 0, 16, .inl (fun _ => 0)), .inl (hz_tc w 0, 16, .inl (fun _ => 0)), .inl (hz_tc w 0, 16, .inl (fun _ => 0))]) rfl ?_
  refine hz_b_st (st1 := [.ref (hz_ad w (L.length + 6)), .ref (hz_ad w L.length)]) rfl ?_
  refine hz_b_put (j := 0) (k := 6) hO hin hz_K_7 tyX7_ok nmX7 rfl (Nat.le_of_ble_eq_true rfl) tw_1_164 rfl rfl rfl rfl rfl (Nat.le_of_ble_eq_true rfl) dX7_init_48 ?_
  refine hz_b_S (S1 := [.inr (7, [.null, .ref (hz_ad w (L.length + 1)), .ref (hz_ad w (L.length + 2)), .ref (hz_ad w (L.length + 3)), .ref (hz_ad w (L.length + 4)), .ref (hz_ad w (L.length + 5)), .ref (hz_ad w (L.length + 6)), .null, .null, .null, .null, .null, .null, .null, .int 0, .int 0, .int 0, .int 0, .int 0, .int 0]), .inl (hz_tc w 0, 4, .inl (fun _ => 0)), .inl (hz_tc w 0, 16, .inl (fun _ => 0)), .inl (hz_tc w 0, 16, .inl (fun _ => 0)), .inl (hz_tc w 0, 16, .inl (fun _ => 0)), .inl (hz_tc w 0, 16, .inl (fun _ => 0)), .inl (hz_tc w 0, 16, .inl (fun _ => 0))]) rfl ?_
  refine hz_b_aload_n hO dX7_init_51 rfl 0 rfl ?_
  refine hz_b_bipush (v := (16 : Int32)) hO dX7_init_52 (by decide) ?_
  refine hz_b_newa (ty := .int) (t := 0) (n := 16) hO rfl (by decide) rfl rfl rfl tw_1_101 (by decide) (by decide) (Nat.le_of_ble_eq_true rfl) ⟨(Nat.le_of_ble_eq_true rfl), (Nat.le_of_ble_eq_true rfl)⟩ dX7_init_54 ?_
  refine hz_b_S (S1 := [.inr (7, [.null, .ref (hz_ad w (L.length + 1)), .ref (hz_ad w (L.length + 2)), .ref (hz_ad w (L.length + 3)), .ref (hz_ad w (L.length + 4)), .ref (hz_ad w (L.length + 5)), .ref (hz_ad w (L.length + 6)), .null, .null, .null, .null, .null, .null, .null, .int 0, .int 0, .int 0, .int 0, .int 0, .int 0]), .inl (hz_tc w 0, 4, .inl (fun _ => 0)), .inl (hz_tc w 0, 16, .inl (fun _ => 0)), .inl (hz_tc w 0, 16, .inl (fun _ => 0)), .inl (hz_tc w 0, 16, .inl (fun _ => 0)), .inl (hz_tc w 0, 16, .inl (fun _ => 0)), .inl (hz_tc w 0, 16, .inl (fun _ => 0)), .inl (hz_tc w 0, 16, .inl (fun _ => 0))]) rfl ?_
  refine hz_b_st (st1 := [.ref (hz_ad w (L.length + 7)), .ref (hz_ad w L.length)]) rfl ?_
  refine hz_b_put (j := 0) (k := 7) hO hin hz_K_7 tyX7_ok nmX7 rfl (Nat.le_of_ble_eq_true rfl) tw_1_167 rfl rfl rfl rfl rfl (Nat.le_of_ble_eq_true rfl) dX7_init_56 ?_
  refine hz_b_S (S1 := [.inr (7, [.null, .ref (hz_ad w (L.length + 1)), .ref (hz_ad w (L.length + 2)), .ref (hz_ad w (L.length + 3)), .ref (hz_ad w (L.length + 4)), .ref (hz_ad w (L.length + 5)), .ref (hz_ad w (L.length + 6)), .ref (hz_ad w (L.length + 7)), .null, .null, .null, .null, .null, .null, .int 0, .int 0, .int 0, .int 0, .int 0, .int 0]), .inl (hz_tc w 0, 4, .inl (fun _ => 0)), .inl (hz_tc w 0, 16, .inl (fun _ => 0)), .inl (hz_tc w 0, 16, .inl (fun _ => 0)), .inl (hz_tc w 0, 16, .inl (fun _ => 0)), .inl (hz_tc w 0, 16, .inl (fun _ => 0)), .inl (hz_tc w 0, 16, .inl (fun _ => 0)), .inl (hz_tc w 0, 16, .inl (fun _ => 0))]) rfl ?_
  refine hz_b_aload_n hO dX7_init_59 rfl 0 rfl ?_
  refine hz_b_bipush (v := (12 : Int32)) hO dX7_init_60 (by decide) ?_
  refine hz_b_newa (ty := .int) (t := 0) (n := 12) hO rfl (by decide) rfl rfl rfl tw_1_101 (by decide) (by decide) (Nat.le_of_ble_eq_true rfl) ⟨(Nat.le_of_ble_eq_true rfl), (Nat.le_of_ble_eq_true rfl)⟩ dX7_init_62 ?_
  refine hz_b_S (S1 := [.inr (7, [.null, .ref (hz_ad w (L.length + 1)), .ref (hz_ad w (L.length + 2)), .ref (hz_ad w (L.length + 3)), .ref (hz_ad w (L.length + 4)), .ref (hz_ad w (L.length + 5)), .ref (hz_ad w (L.length + 6)), .ref (hz_ad w (L.length + 7)), .null, .null, .null, .null, .null, .null, .int 0, .int 0, .int 0, .int 0, .int 0, .int 0]), .inl (hz_tc w 0, 4, .inl (fun _ => 0)), .inl (hz_tc w 0, 16, .inl (fun _ => 0)), .inl (hz_tc w 0, 16, .inl (fun _ => 0)), .inl (hz_tc w 0, 16, .inl (fun _ => 0)), .inl (hz_tc w 0, 16, .inl (fun _ => 0)), .inl (hz_tc w 0, 16, .inl (fun _ => 0)), .inl (hz_tc w 0, 16, .inl (fun _ => 0)), .inl (hz_tc w 0, 12, .inl (fun _ => 0))]) rfl ?_
  refine hz_b_st (st1 := [.ref (hz_ad w (L.length + 8)), .ref (hz_ad w L.length)]) rfl ?_
  refine hz_b_put (j := 0) (k := 8) hO hin hz_K_7 tyX7_ok nmX7 rfl (Nat.le_of_ble_eq_true rfl) tw_1_171 rfl rfl rfl rfl rfl (Nat.le_of_ble_eq_true rfl) dX7_init_64 ?_
  refine hz_b_S (S1 := [.inr (7, [.null, .ref (hz_ad w (L.length + 1)), .ref (hz_ad w (L.length + 2)), .ref (hz_ad w (L.length + 3)), .ref (hz_ad w (L.length + 4)), .ref (hz_ad w (L.length + 5)), .ref (hz_ad w (L.length + 6)), .ref (hz_ad w (L.length + 7)), .ref (hz_ad w (L.length + 8)), .null, .null, .null, .null, .null, .int 0, .int 0, .int 0, .int 0, .int 0, .int 0]), .inl (hz_tc w 0, 4, .inl (fun _ => 0)), .inl (hz_tc w 0, 16, .inl (fun _ => 0)), .inl (hz_tc w 0, 16, .inl (fun _ => 0)), .inl (hz_tc w 0, 16, .inl (fun _ => 0)), .inl (hz_tc w 0, 16, .inl (fun _ => 0)), .inl (hz_tc w 0, 16, .inl (fun _ => 0)), .inl (hz_tc w 0, 16, .inl (fun _ => 0)), .inl (hz_tc w 0, 12, .inl (fun _ => 0))]) rfl ?_
  refine hz_b_aload_n hO dX7_init_67 rfl 0 rfl ?_
  refine hz_b_bipush (v := (16 : Int32)) hO dX7_init_68 (by decide) ?_
  refine hz_b_newa (ty := .int) (t := 0) (n := 16) hO rfl (by decide) rfl rfl rfl tw_1_101 (by decide) (by decide) (Nat.le_of_ble_eq_true rfl) ⟨(Nat.le_of_ble_eq_true rfl), (Nat.le_of_ble_eq_true rfl)⟩ dX7_init_70 ?_
  refine hz_b_S (S1 := [.inr (7, [.null, .ref (hz_ad w (L.length + 1)), .ref (hz_ad w (L.length + 2)), .ref (hz_ad w (L.length + 3)), .ref (hz_ad w (L.length + 4)), .ref (hz_ad w (L.length + 5)), .ref (hz_ad w (L.length + 6)), .ref (hz_ad w (L.length + 7)), .ref (hz_ad w (L.length + 8)), .null, .null, .null, .null, .null, .int 0, .int 0, .int 0, .int 0, .int 0, .int 0]), .inl (hz_tc w 0, 4, .inl (fun _ => 0)), .inl (hz_tc w 0, 16, .inl (fun _ => 0)), .inl (hz_tc w 0, 16, .inl (fun _ => 0)), .inl (hz_tc w 0, 16, .inl (fun _ => 0)), .inl (hz_tc w 0, 16, .inl (fun _ => 0)), .inl (hz_tc w 0, 16, .inl (fun _ => 0)), .inl (hz_tc w 0, 16, .inl (fun _ => 0)), .inl (hz_tc w 0, 12, .inl (fun _ => 0)), .inl (hz_tc w 0, 16, .inl (fun _ => 0))]) rfl ?_
  refine hz_b_st (st1 := [.ref (hz_ad w (L.length + 9)), .ref (hz_ad w L.length)]) rfl ?_
  refine hz_b_put (j := 0) (k := 9) hO hin hz_K_7 tyX7_ok nmX7 rfl (Nat.le_of_ble_eq_true rfl) tw_1_174 rfl rfl rfl rfl rfl (Nat.le_of_ble_eq_true rfl) dX7_init_72 ?_
  refine hz_b_S (S1 := [.inr (7, [.null, .ref (hz_ad w (L.length + 1)), .ref (hz_ad w (L.length + 2)), .ref (hz_ad w (L.length + 3)), .ref (hz_ad w (L.length + 4)), .ref (hz_ad w (L.length + 5)), .ref (hz_ad w (L.length + 6)), .ref (hz_ad w (L.length + 7)), .ref (hz_ad w (L.length + 8)), .ref (hz_ad w (L.length + 9)), .null, .null, .null, .null, .int 0, .int 0, .int 0, .int 0, .int 0, .int 0]), .inl (hz_tc w 0, 4, .inl (fun _ => 0)), .inl (hz_tc w 0, 16, .inl (fun _ => 0)), .inl (hz_tc w 0, 16, .inl (fun _ => 0)), .inl (hz_tc w 0, 16, .inl (fun _ => 0)), .inl (hz_tc w 0, 16, .inl (fun _ => 0)), .inl (hz_tc w 0, 16, .inl (fun _ => 0)), .inl (hz_tc w 0, 16, .inl (fun _ => 0)), .inl (hz_tc w 0, 12, .inl (fun _ => 0)), .inl (hz_tc w 0, 16, .inl (fun _ => 0))]) rfl ?_
  refine hz_b_aload_n hO dX7_init_75 rfl 0 rfl ?_
  refine hz_b_bipush (v := (16 : Int32)) hO dX7_init_76 (by decide) ?_
  refine hz_b_newa (ty := .int) (t := 0) (n := 16) hO rfl (by decide) rfl rfl rfl tw_1_101 (by decide) (by decide) (Nat.le_of_ble_eq_true rfl) ⟨(Nat.le_of_ble_eq_true rfl), (Nat.le_of_ble_eq_true rfl)⟩ dX7_init_78 ?_
  refine hz_b_S (S1 := [.inr (7, [.null, .ref (hz_ad w (L.length + 1)), .ref (hz_ad w (L.length + 2)), .ref (hz_ad w (L.length + 3)), .ref (hz_ad w (L.length + 4)), .ref (hz_ad w (L.length + 5)), .ref (hz_ad w (L.length + 6)), .ref (hz_ad w (L.length + 7)), .ref (hz_ad w (L.length + 8)), .ref (hz_ad w (L.length + 9)), .null, .null, .null, .null, .int 0, .int 0, .int 0, .int 0, .int 0, .int 0]), .inl (hz_tc w 0, 4, .inl (fun _ => 0)), .inl (hz_tc w 0, 16, .inl (fun _ => 0)), .inl (hz_tc w 0, 16, .inl (fun _ => 0)), .inl (hz_tc w 0, 16, .inl (fun _ => 0)), .inl (hz_tc w 0, 16, .inl (fun _ => 0)), .inl (hz_tc w 0, 16, .inl (fun _ => 0)), .inl (hz_tc w 0, 16, .inl (fun _ => 0)), .inl (hz_tc w 0, 12, .inl (fun _ => 0)), .inl (hz_tc w 0, 16, .inl (fun _ => 0)), .inl (hz_tc w 0, 16, .inl (fun _ => 0))]) rfl ?_
  refine hz_b_st (st1 := [.ref (hz_ad w (L.length + 10)), .ref (hz_ad w L.length)]) rfl ?_
  refine hz_b_put (j := 0) (k := 10) hO hin hz_K_7 tyX7_ok nmX7 rfl (Nat.le_of_ble_eq_true rfl) tw_1_177 rfl rfl rfl rfl rfl (Nat.le_of_ble_eq_true rfl) dX7_init_80 ?_
  refine hz_b_S (S1 := [.inr (7, [.null, .ref (hz_ad w (L.length + 1)), .ref (hz_ad w (L.length + 2)), .ref (hz_ad w (L.length + 3)), .ref (hz_ad w (L.length + 4)), .ref (hz_ad w (L.length + 5)), .ref (hz_ad w (L.length + 6)), .ref (hz_ad w (L.length + 7)), .ref (hz_ad w (L.length + 8)), .ref (hz_ad w (L.length + 9)), .ref (hz_ad w (L.length + 10)), .null, .null, .null, .int 0, .int 0, .int 0, .int 0, .int 0, .int 0]), .inl (hz_tc w 0, 4, .inl (fun _ => 0)), .inl (hz_tc w 0, 16, .inl (fun _ => 0)), .inl (hz_tc w 0, 16, .inl (fun _ => 0)), .inl (hz_tc w 0, 16, .inl (fun _ => 0)), .inl (hz_tc w 0, 16, .inl (fun _ => 0)), .inl (hz_tc w 0, 16, .inl (fun _ => 0)), .inl (hz_tc w 0, 16, .inl (fun _ => 0)), .inl (hz_tc w 0, 12, .inl (fun _ => 0)), .inl (hz_tc w 0, 16, .inl (fun _ => 0)), .inl (hz_tc w 0, 16, .inl (fun _ => 0))]) rfl ?_
  refine hz_b_aload_n hO dX7_init_83 rfl 0 rfl ?_
  refine hz_b_bipush (v := (16 : Int32)) hO dX7_init_84 (by decide) ?_
  refine hz_b_newa (ty := .int) (t := 0) (n := 16) hO rfl (by decide) rfl rfl rfl tw_1_101 (by decide) (by decide) (Nat.le_of_ble_eq_true rfl) ⟨(Nat.le_of_ble_eq_true rfl), (Nat.le_of_ble_eq_true rfl)⟩ dX7_init_86 ?_
  refine hz_b_S (S1 := [.inr (7, [.null, .ref (hz_ad w (L.length + 1)), .ref (hz_ad w (L.length + 2)), .ref (hz_ad w (L.length + 3)), .ref (hz_ad w (L.length + 4)), .ref (hz_ad w (L.length + 5)), .ref (hz_ad w (L.length + 6)), .ref (hz_ad w (L.length + 7)), .ref (hz_ad w (L.length + 8)), .ref (hz_ad w (L.length + 9)), .ref (hz_ad w (L.length + 10)), .null, .null, .null, .int 0, .int 0, .int 0, .int 0, .int 0, .int 0]), .inl (hz_tc w 0, 4, .inl (fun _ => 0)), .inl (hz_tc w 0, 16, .inl (fun _ => 0)), .inl (hz_tc w 0, 16, .inl (fun _ => 0)), .inl (hz_tc w 0, 16, .inl (fun _ => 0)), .inl (hz_tc w 0, 16, .inl (fun _ => 0)), .inl (hz_tc w 0, 16, .inl (fun _ => 0)), .inl (hz_tc w 0, 16, .inl (fun _ => 0)), .inl (hz_tc w 0, 12, .inl (fun _ => 0)), .inl (hz_tc w 0, 16, .inl (fun _ => 0)), .inl (hz_tc w 0, 16, .inl (fun _ => 0)), .inl (hz_tc w 0, 16, .inl (fun _ => 0))]) rfl ?_
  refine hz_b_st (st1 := [.ref (hz_ad w (L.length + 11)), .ref (hz_ad w L.length)]) rfl ?_
  refine hz_b_put (j := 0) (k := 11) hO hin hz_K_7 tyX7_ok nmX7 rfl (Nat.le_of_ble_eq_true rfl) tw_1_179 rfl rfl rfl rfl rfl (Nat.le_of_ble_eq_true rfl) dX7_init_88 ?_
  refine hz_b_S (S1 := [.inr (7, [.null, .ref (hz_ad w (L.length + 1)), .ref (hz_ad w (L.length + 2)), .ref (hz_ad w (L.length + 3)), .ref (hz_ad w (L.length + 4)), .ref (hz_ad w (L.length + 5)), .ref (hz_ad w (L.length + 6)), .ref (hz_ad w (L.length + 7)), .ref (hz_ad w (L.length + 8)), .ref (hz_ad w (L.length + 9)), .ref (hz_ad w (L.length + 10)), .ref (hz_ad w (L.length + 11)), .null, .null, .int 0, .int 0, .int 0, .int 0, .int 0, .int 0]), .inl (hz_tc w 0, 4, .inl (fun _ => 0)), .inl (hz_tc w 0, 16, .inl (fun _ => 0)), .inl (hz_tc w 0, 16, .inl (fun _ => 0)), .inl (hz_tc w 0, 16, .inl (fun _ => 0)), .inl (hz_tc w 0, 16, .inl (fun _ => 0)), .inl (hz_tc w 0, 16, .inl (fun _ => 0)), .inl (hz_tc w 0, 16, .inl (fun _ => 0)), .inl (hz_tc w 0, 12, .inl (fun _ => 0)), .inl (hz_tc w 0, 16, .inl (fun _ => 0)), .inl (hz_tc w 0, 16, .inl (fun _ => 0)), .inl (hz_tc w 0, 16, .inl (fun _ => 0))]) rfl ?_
  refine hz_b_aload_n hO dX7_init_91 rfl 0 rfl ?_
  refine hz_b_bipush (v := (16 : Int32)) hO dX7_init_92 (by decide) ?_
  refine hz_b_newa (ty := .int) (t := 0) (n := 16) hO rfl (by decide) rfl rfl rfl tw_1_101 (by decide) (by decide) (Nat.le_of_ble_eq_true rfl) ⟨(Nat.le_of_ble_eq_true rfl), (Nat.le_of_ble_eq_true rfl)⟩ dX7_init_94 ?_
  refine hz_b_S (S1 := [.inr (7, [.null, .ref (hz_ad w (L.length + 1)), .ref (hz_ad w (L.length + 2)), .ref (hz_ad w (L.length + 3)), .ref (hz_ad w (L.length + 4)), .ref (hz_ad w (L.length + 5)), .ref (hz_ad w (L.length + 6)), .ref (hz_ad w (L.length + 7)), .ref (hz_ad w (L.length + 8)), .ref (hz_ad w (L.length + 9)), .ref (hz_ad w (L.length + 10)), .ref (hz_ad w (L.length + 11)), .null, .null, .int 0, .int 0, .int 0, .int 0, .int 0, .int 0]), .inl (hz_tc w 0, 4, .inl (fun _ => 0)), .inl (hz_tc w 0, 16, .inl (fun _ => 0)), .inl (hz_tc w 0, 16, .inl (fun _ => 0)), .inl (hz_tc w 0, 16, .inl (fun _ => 0)), .inl (hz_tc w 0, 16, .inl (fun _ => 0)), .inl (hz_tc w 0, 16, .inl (fun _ => 0)), .inl (hz_tc w 0, 16, .inl (fun _ => 0)), .inl (hz_tc w 0, 12, .inl (fun _ => 0)), .inl (hz_tc w 0, 16, .inl (fun _ => 0)), .inl (hz_tc w 0, 16, .inl (fun _ => 0)), .inl (hz_tc w 0, 16, .inl (fun _ => 0)), .inl (hz_tc w 0, 16, .inl (fun _ => 0))]) rfl ?_
  refine hz_b_st (st1 := [.ref (hz_ad w (L.length + 12)), .ref (hz_ad w L.length)]) rfl ?_
  refine hz_b_put (j := 0) (k := 12) hO hin hz_K_7 tyX7_ok nmX7 rfl (Nat.le_of_ble_eq_true rfl) tw_1_182 rfl rfl rfl rfl rfl (Nat.le_of_ble_eq_true rfl) dX7_init_96 ?_
  refine hz_b_S (S1 := [.inr (7, [.null, .ref (hz_ad w (L.length + 1)), .ref (hz_ad w (L.length + 2)), .ref (hz_ad w (L.length + 3)), .ref (hz_ad w (L.length + 4)), .ref (hz_ad w (L.length + 5)), .ref (hz_ad w (L.length + 6)), .ref (hz_ad w (L.length + 7)), .ref (hz_ad w (L.length + 8)), .ref (hz_ad w (L.length + 9)), .ref (hz_ad w (L.length + 10)), .ref (hz_ad w (L.length + 11)), .ref (hz_ad w (L.length + 12)), .null, .int 0, .int 0, .int 0, .int 0, .int 0, .int 0]), .inl (hz_tc w 0, 4, .inl (fun _ => 0)), .inl (hz_tc w 0, 16, .inl (fun _ => 0)), .inl (hz_tc w 0, 16, .inl (fun _ => 0)), .inl (hz_tc w 0, 16, .inl (fun _ => 0)), .inl (hz_tc w 0, 16, .inl (fun _ => 0)), .inl (hz_tc w 0, 16, .inl (fun _ => 0)), .inl (hz_tc w 0, 16, .inl (fun _ => 0)), .inl (hz_tc w 0, 12, .inl (fun _ => 0)), .inl (hz_tc w 0, 16, .inl (fun _ => 0)), .inl (hz_tc w 0, 16, .inl (fun _ => 0)), .inl (hz_tc w 0, 16, .inl (fun _ => 0)), .inl (hz_tc w 0, 16, .inl (fun _ => 0))]) rfl ?_
  refine hz_b_aload_n hO dX7_init_99 rfl 0 rfl ?_
  refine hz_b_bipush (v := (9 : Int32)) hO dX7_init_100 (by decide) ?_
  refine hz_b_newa (ty := .int) (t := 0) (n := 9) hO rfl (by decide) rfl rfl rfl tw_1_101 (by decide) (by decide) (Nat.le_of_ble_eq_true rfl) ⟨(Nat.le_of_ble_eq_true rfl), (Nat.le_of_ble_eq_true rfl)⟩ dX7_init_102 ?_
  refine hz_b_S (S1 := [.inr (7, [.null, .ref (hz_ad w (L.length + 1)), .ref (hz_ad w (L.length + 2)), .ref (hz_ad w (L.length + 3)), .ref (hz_ad w (L.length + 4)), .ref (hz_ad w (L.length + 5)), .ref (hz_ad w (L.length + 6)), .ref (hz_ad w (L.length + 7)), .ref (hz_ad w (L.length + 8)), .ref (hz_ad w (L.length + 9)), .ref (hz_ad w (L.length + 10)), .ref (hz_ad w (L.length + 11)), .ref (hz_ad w (L.length + 12)), .null, .int 0, .int 0, .int 0, .int 0, .int 0, .int 0]), .inl (hz_tc w 0, 4, .inl (fun _ => 0)), .inl (hz_tc w 0, 16, .inl (fun _ => 0)), .inl (hz_tc w 0, 16, .inl (fun _ => 0)), .inl (hz_tc w 0, 16, .inl (fun _ => 0)), .inl (hz_tc w 0, 16, .inl (fun _ => 0)), .inl (hz_tc w 0, 16, .inl (fun _ => 0)), .inl (hz_tc w 0, 16, .inl (fun _ => 0)), .inl (hz_tc w 0, 12, .inl (fun _ => 0)), .inl (hz_tc w 0, 16, .inl (fun _ => 0)), .inl (hz_tc w 0, 16, .inl (fun _ => 0)), .inl (hz_tc w 0, 16, .inl (fun _ => 0)), .inl (hz_tc w 0, 16, .inl (fun _ => 0)), .inl (hz_tc w 0, 9, .inl (fun _ => 0))]) rfl ?_
  refine hz_b_st (st1 := [.ref (hz_ad w (L.length + 13)), .ref (hz_ad w L.length)]) rfl ?_
  refine hz_b_put (j := 0) (k := 13) hO hin hz_K_7 tyX7_ok nmX7 rfl (Nat.le_of_ble_eq_true rfl) tw_1_186 rfl rfl rfl rfl rfl (Nat.le_of_ble_eq_true rfl) dX7_init_104 ?_
  refine hz_b_S (S1 := [.inr (7, [.null, .ref (hz_ad w (L.length + 1)), .ref (hz_ad w (L.length + 2)), .ref (hz_ad w (L.length + 3)), .ref (hz_ad w (L.length + 4)), .ref (hz_ad w (L.length + 5)), .ref (hz_ad w (L.length + 6)), .ref (hz_ad w (L.length + 7)), .ref (hz_ad w (L.length + 8)), .ref (hz_ad w (L.length + 9)), .ref (hz_ad w (L.length + 10)), .ref (hz_ad w (L.length + 11)), .ref (hz_ad w (L.length + 12)), .ref (hz_ad w (L.length + 13)), .int 0, .int 0, .int 0, .int 0, .int 0, .int 0]), .inl (hz_tc w 0, 4, .inl (fun _ => 0)), .inl (hz_tc w 0, 16, .inl (fun _ => 0)), .inl (hz_tc w 0, 16, .inl (fun _ => 0)), .inl (hz_tc w 0, 16, .inl (fun _ => 0)), .inl (hz_tc w 0, 16, .inl (fun _ => 0)), .inl (hz_tc w 0, 16, .inl (fun _ => 0)), .inl (hz_tc w 0, 16, .inl (fun _ => 0)), .inl (hz_tc w 0, 12, .inl (fun _ => 0)), .inl (hz_tc w 0, 16, .inl (fun _ => 0)), .inl (hz_tc w 0, 16, .inl (fun _ => 0)), .inl (hz_tc w 0, 16, .inl (fun _ => 0)), .inl (hz_tc w 0, 16, .inl (fun _ => 0)), .inl (hz_tc w 0, 9, .inl (fun _ => 0))]) rfl ?_
  refine hz_b_aload_n hO dX7_init_107 rfl 0 rfl ?_
  refine hz_b_aload_n hO dX7_init_108 rfl 1 rfl ?_
  refine hz_b_put (j := 0) (k := 0) hO hin hz_K_7 tyX7_ok nmX7 rfl (Nat.le_of_ble_eq_true rfl) tw_1_146 rfl rfl rfl rfl rfl (Nat.le_of_ble_eq_true rfl) dX7_init_109 ?_
  refine hz_b_S (S1 := [.inr (7, [.ref (hz_ad w 1), .ref (hz_ad w (L.length + 1)), .ref (hz_ad w (L.length + 2)), .ref (hz_ad w (L.length + 3)), .ref (hz_ad w (L.length + 4)), .ref (hz_ad w (L.length + 5)), .ref (hz_ad w (L.length + 6)), .ref (hz_ad w (L.length + 7)), .ref (hz_ad w (L.length + 8)), .ref (hz_ad w (L.length + 9)), .ref (hz_ad w (L.length + 10)), .ref (hz_ad w (L.length + 11)), .ref (hz_ad w (L.length + 12)), .ref (hz_ad w (L.length + 13)), .int 0, .int 0, .int 0, .int 0, .int 0, .int 0]), .inl (hz_tc w 0, 4, .inl (fun _ => 0)), .inl (hz_tc w 0, 16, .inl (fun _ => 0)), .inl (hz_tc w 0, 16, .inl (fun _ => 0)), .inl (hz_tc w 0, 16, .inl (fun _ => 0)), .inl (hz_tc w 0, 16, .inl (fun _ => 0)), .inl (hz_tc w 0, 16, .inl (fun _ => 0)), .inl (hz_tc w 0, 16, .inl (fun _ => 0)), .inl (hz_tc w 0, 12, .inl (fun _ => 0)), .inl (hz_tc w 0, 16, .inl (fun _ => 0)), .inl (hz_tc w 0, 16, .inl (fun _ => 0)), .inl (hz_tc w 0, 16, .inl (fun _ => 0)), .inl (hz_tc w 0, 16, .inl (fun _ => 0)), .inl (hz_tc w 0, 9, .inl (fun _ => 0))]) rfl ?_
  refine hz_b_S (S1 := hz_cs w [.inl (7, [some 1, some (L.length + 1), some (L.length + 2), some (L.length + 3), some (L.length + 4), some (L.length + 5), some (L.length + 6), some (L.length + 7), some (L.length + 8), some (L.length + 9), some (L.length + 10), some (L.length + 11), some (L.length + 12), some (L.length + 13), none, none, none, none, none, none]), .inr (.inl (0, 4)), .inr (.inl (0, 16)), .inr (.inl (0, 16)), .inr (.inl (0, 16)), .inr (.inl (0, 16)), .inr (.inl (0, 16)), .inr (.inl (0, 16)), .inr (.inl (0, 12)), .inr (.inl (0, 16)), .inr (.inl (0, 16)), .inr (.inl (0, 16)), .inr (.inl (0, 16)), .inr (.inl (0, 9))]) rfl ?_
  exact hz_b_vret hO dX7_init_112
theorem hz_cal_X9_init : hz_CalI RX9 yX9_init cX9_init 3 2 := ⟨⟨tw_2_7, tw_1_5, ⟨rfl, by decide, by decide, by decide +kernel⟩, Nat.le_of_ble_eq_true rfl⟩, tw_2_6, rfl⟩
set_option maxRecDepth 100000 in
set_option maxHeartbeats 4000000 in
theorem c_X9_init (l : Launch) (w : hz_C) (L : List va_E) {b : Nat} (hb : L.length = b) : hz_CB l yX9_init cX9_init 3 1 0 0 w [.ref (hz_ad w b), .ref (hz_ad w 1), .ref (hz_ad w 11)] (L ++ [.inr (9, [.null, .null])]) (L ++ hz_cs w [.inl (9, [some 1, some 11])]) := by
  subst hb
  refine hz_b_ofW (by decide) rfl rfl (Nat.le_of_ble_eq_true rfl) tw_2_7 ?_
  intro p e s m args below meth c hO hin
  show hz_B p l e 1 ((0, 0), (0, 0)) s m args below meth c w 3 _ L [.inr (9, [.null, .null])] 0 [(0, .ref (hz_ad w L.length)), (1, .ref (hz_ad w 1)), (2, .ref (hz_ad w 11))] []
  refine hz_b_aload_n hO dX9_init_0 rfl 0 rfl ?_
  refine hz_b_obj hO tw_2_8 (Nat.le_of_ble_eq_true rfl) (Nat.le_of_ble_eq_true rfl) dX9_init_1 ?_
  refine hz_b_aload_n hO dX9_init_4 rfl 0 rfl ?_
  refine hz_b_aload_n hO dX9_init_5 rfl 1 rfl ?_
  refine hz_b_put (j := 0) (k := 0) hO hin hz_K_9 tyX9_ok nmX9 rfl (Nat.le_of_ble_eq_true rfl) tw_2_9 rfl rfl rfl rfl rfl (Nat.le_of_ble_eq_true rfl) dX9_init_6 ?_
  refine hz_b_S (S1 := [.inr (9, [.ref (hz_ad w 1), .null])]) rfl ?_
  refine hz_b_aload_n hO dX9_init_9 rfl 0 rfl ?_
  refine hz_b_aload_n hO dX9_init_10 rfl 2 rfl ?_
  refine hz_b_put (j := 0) (k := 1) hO hin hz_K_9 tyX9_ok nmX9 rfl (Nat.le_of_ble_eq_true rfl) tw_2_10 rfl rfl rfl rfl rfl (Nat.le_of_ble_eq_true rfl) dX9_init_11 ?_
  refine hz_b_S (S1 := [.inr (9, [.ref (hz_ad w 1), .ref (hz_ad w 11)])]) rfl ?_
  refine hz_b_S (S1 := hz_cs w [.inl (9, [some 1, some 11])]) rfl ?_
  exact hz_b_vret hO dX9_init_14
theorem hz_cal_X1_init : hz_CalI RX1 yX1_init cX1_init 4 3 := ⟨⟨tw_2_20, tw_1_6, ⟨rfl, by decide, by decide, by decide +kernel⟩, Nat.le_of_ble_eq_true rfl⟩, tw_2_19, rfl⟩
set_option maxRecDepth 100000 in
set_option maxHeartbeats 4000000 in
theorem c_X1_init (l : Launch) (w : hz_C) (L : List va_E) {b : Nat} (hb : L.length = b) : hz_CB l yX1_init cX1_init 4 1 0 0 w [.ref (hz_ad w b), .ref (hz_ad w 1), .ref (hz_ad w 11), .ref (hz_ad w 25)] (L ++ [.inr (2, [.null, .null, .null, .int 0])]) (L ++ hz_cs w [.inl (2, [some 1, some 11, some 25, none])]) := by
  subst hb
  refine hz_b_ofW (by decide) rfl rfl (Nat.le_of_ble_eq_true rfl) tw_2_20 ?_
  intro p e s m args below meth c hO hin
  show hz_B p l e 1 ((0, 0), (0, 0)) s m args below meth c w 4 _ L [.inr (2, [.null, .null, .null, .int 0])] 0 [(0, .ref (hz_ad w L.length)), (1, .ref (hz_ad w 1)), (2, .ref (hz_ad w 11)), (3, .ref (hz_ad w 25))] []
  refine hz_b_aload_n hO dX1_init_0 rfl 0 rfl ?_
  refine hz_b_obj hO tw_2_21 (Nat.le_of_ble_eq_true rfl) (Nat.le_of_ble_eq_true rfl) dX1_init_1 ?_
  refine hz_b_aload_n hO dX1_init_4 rfl 0 rfl ?_
  refine hz_b_aload_n hO dX1_init_5 rfl 1 rfl ?_
  refine hz_b_put (j := 0) (k := 0) hO hin hz_K_2 tyX1_ok nmX1 rfl (Nat.le_of_ble_eq_true rfl) tw_2_22 rfl rfl rfl rfl rfl (Nat.le_of_ble_eq_true rfl) dX1_init_6 ?_
  refine hz_b_S (S1 := [.inr (2, [.ref (hz_ad w 1), .null, .null, .int 0])]) rfl ?_
  refine hz_b_aload_n hO dX1_init_9 rfl 0 rfl ?_
  refine hz_b_aload_n hO dX1_init_10 rfl 2 rfl ?_
  refine hz_b_put (j := 0) (k := 1) hO hin hz_K_2 tyX1_ok nmX1 rfl (Nat.le_of_ble_eq_true rfl) tw_2_23 rfl rfl rfl rfl rfl (Nat.le_of_ble_eq_true rfl) dX1_init_11 ?_
  refine hz_b_S (S1 := [.inr (2, [.ref (hz_ad w 1), .ref (hz_ad w 11), .null, .int 0])]) rfl ?_
  refine hz_b_aload_n hO dX1_init_14 rfl 0 rfl ?_
  refine hz_b_aload_n hO dX1_init_15 rfl 3 rfl ?_
  refine hz_b_put (j := 0) (k := 2) hO hin hz_K_2 tyX1_ok nmX1 rfl (Nat.le_of_ble_eq_true rfl) tw_2_24 rfl rfl rfl rfl rfl (Nat.le_of_ble_eq_true rfl) dX1_init_16 ?_
  refine hz_b_S (S1 := [.inr (2, [.ref (hz_ad w 1), .ref (hz_ad w 11), .ref (hz_ad w 25), .int 0])]) rfl ?_
  refine hz_b_S (S1 := hz_cs w [.inl (2, [some 1, some 11, some 25, none])]) rfl ?_
  exact hz_b_vret hO dX1_init_19
theorem hz_cal_X6_init : hz_CalI RX6 yX6_init cX6_init 3 2 := ⟨⟨tw_2_39, tw_1_7, ⟨rfl, by decide, by decide, by decide +kernel⟩, Nat.le_of_ble_eq_true rfl⟩, tw_2_38, rfl⟩
set_option maxRecDepth 100000 in
set_option maxHeartbeats 4000000 in
theorem c_X6_init (l : Launch) (w : hz_C) (L : List va_E) {b : Nat} (hb : L.length = b) : hz_CB l yX6_init cX6_init 3 1 4 120 w [.ref (hz_ad w b), .ref (hz_ad w 1), .ref (hz_ad w 26)] (L ++ [.inr (6, [.null, .null, .null, .null, .null, .null, .int 0, .int 0, .int 0])]) (L ++ hz_cs w [.inl (6, [some 1, some 26, some (b + 1), some (b + 2), some (b + 3), some (b + 4), none, none, none]), .inr (.inr (.inr (.inl 30))), .inr (.inl (0, 30)), .inr (.inl (0, 30)), .inr (.inl (0, 30))]) := by
  subst hb
  refine hz_b_ofW (by decide) rfl rfl (Nat.le_of_ble_eq_true rfl) tw_2_39 ?_
  intro p e s m args below meth c hO hin
  show hz_B p l e 1 ((4, 120), (0, 0)) s m args below meth c w 3 _ L [.inr (6, [.null, .null, .null, .null, .null, .null, .int 0, .int 0, .int 0])] 0 [(0, .ref (hz_ad w L.length)), (1, .ref (hz_ad w 1)), (2, .ref (hz_ad w 26))] []
  refine hz_b_aload_n hO dX6_init_0 rfl 0 rfl ?_
  refine hz_b_obj hO tw_2_40 (Nat.le_of_ble_eq_true rfl) (Nat.le_of_ble_eq_true rfl) dX6_init_1 ?_
  refine hz_b_aload_n hO dX6_init_4 rfl 0 rfl ?_
  refine hz_b_bipush (v := (30 : Int32)) hO dX6_init_5 (by decide) ?_
  refine hz_b_newq (C := "HotSteps$Order") (t := 3) (n := 30) hO (by decide) rfl hO.2.2.2.1.2.2.2.2.2.2.2.2.2.2.2.1 tw_2_41 (by decide) (by decide) (Nat.le_of_ble_eq_true rfl) ⟨(Nat.le_of_ble_eq_true rfl), (Nat.le_of_ble_eq_true rfl)⟩ dX6_init_7 ?_
  refine hz_b_S (S1 := [.inr (6, [.null, .null, .null, .null, .null, .null, .int 0, .int 0, .int 0]), .inl (hz_tc w 3, 30, .inr (.inr (.inr (.inr (fun _ => none)))))]) rfl ?_
  refine hz_b_st (st1 := [.ref (hz_ad w (L.length + 1)), .ref (hz_ad w L.length)]) rfl ?_
  refine hz_b_put (j := 0) (k := 2) hO hin hz_K_6 tyX6_ok nmX6 rfl (Nat.le_of_ble_eq_true rfl) tw_2_45 rfl rfl rfl rfl rfl (Nat.le_of_ble_eq_true rfl) dX6_init_10 ?_
  refine hz_b_S (S1 := [.inr (6, [.null, .null, .ref (hz_ad w (L.length + 1)), .null, .null, .null, .int 0, .int 0, .int 0]), .inl (hz_tc w 3, 30, .inr (.inr (.inr (.inr (fun _ => none)))))]) rfl ?_
  refine hz_b_aload_n hO dX6_init_13 rfl 0 rfl ?_
  refine hz_b_bipush (v := (30 : Int32)) hO dX6_init_14 (by decide) ?_
  refine hz_b_newa (ty := .int) (t := 0) (n := 30) hO rfl (by decide) rfl rfl rfl tw_1_101 (by decide) (by decide) (Nat.le_of_ble_eq_true rfl) ⟨(Nat.le_of_ble_eq_true rfl), (Nat.le_of_ble_eq_true rfl)⟩ dX6_init_16 ?_
  refine hz_b_S (S1 := [.inr (6, [.null, .null, .ref (hz_ad w (L.length + 1)), .null, .null, .null, .int 0, .int 0, .int 0]), .inl (hz_tc w 3, 30, .inr (.inr (.inr (.inr (fun _ => none))))), .inl (hz_tc w 0, 30, .inl (fun _ => 0))]) rfl ?_
  refine hz_b_st (st1 := [.ref (hz_ad w (L.length + 2)), .ref (hz_ad w L.length)]) rfl ?_
  refine hz_b_put (j := 0) (k := 3) hO hin hz_K_6 tyX6_ok nmX6 rfl (Nat.le_of_ble_eq_true rfl) tw_2_46 rfl rfl rfl rfl rfl (Nat.le_of_ble_eq_true rfl) dX6_init_18 ?_
  refine hz_b_S (S1 := [.inr (6, [.null, .null, .ref (hz_ad w (L.length + 1)), .ref (hz_ad w (L.length + 2)), .null, .null, .int 0, .int 0, .int 0]), .inl (hz_tc w 3, 30, .inr (.inr (.inr (.inr (fun _ => none))))), .inl (hz_tc w 0, 30, .inl (fun _ => 0))]) rfl ?_
  refine hz_b_aload_n hO dX6_init_21 rfl 0 rfl ?_
  refine hz_b_bipush (v := (30 : Int32)) hO dX6_init_22 (by decide) ?_
  refine hz_b_newa (ty := .int) (t := 0) (n := 30) hO rfl (by decide) rfl rfl rfl tw_1_101 (by decide) (by decide) (Nat.le_of_ble_eq_true rfl) ⟨(Nat.le_of_ble_eq_true rfl), (Nat.le_of_ble_eq_true rfl)⟩ dX6_init_24 ?_
  refine hz_b_S (S1 := [.inr (6, [.null, .null, .ref (hz_ad w (L.length + 1)), .ref (hz_ad w (L.length + 2)), .null, .null, .int 0, .int 0, .int 0]), .inl (hz_tc w 3, 30, .inr (.inr (.inr (.inr (fun _ => none))))), .inl (hz_tc w 0, 30, .inl (fun _ => 0)), .inl (hz_tc w 0, 30, .inl (fun _ => 0))]) rfl ?_
  refine hz_b_st (st1 := [.ref (hz_ad w (L.length + 3)), .ref (hz_ad w L.length)]) rfl ?_
  refine hz_b_put (j := 0) (k := 4) hO hin hz_K_6 tyX6_ok nmX6 rfl (Nat.le_of_ble_eq_true rfl) tw_2_47 rfl rfl rfl rfl rfl (Nat.le_of_ble_eq_true rfl) dX6_init_26 ?_
  refine hz_b_S (S1 := [.inr (6, [.null, .null, .ref (hz_ad w (L.length + 1)), .ref (hz_ad w (L.length + 2)), .ref (hz_ad w (L.length + 3)), .null, .int 0, .int 0, .int 0]), .inl (hz_tc w 3, 30, .inr (.inr (.inr (.inr (fun _ => none))))), .inl (hz_tc w 0, 30, .inl (fun _ => 0)), .inl (hz_tc w 0, 30, .inl (fun _ => 0))]) rfl ?_
  refine hz_b_aload_n hO dX6_init_29 rfl 0 rfl ?_
  refine hz_b_bipush (v := (30 : Int32)) hO dX6_init_30 (by decide) ?_
  refine hz_b_newa (ty := .int) (t := 0) (n := 30) hO rfl (by decide) rfl rfl rfl tw_1_101 (by decide) (by decide) (Nat.le_of_ble_eq_true rfl) ⟨(Nat.le_of_ble_eq_true rfl), (Nat.le_of_ble_eq_true rfl)⟩ dX6_init_32 ?_
  refine hz_b_S (S1 := [.inr (6, [.null, .null, .ref (hz_ad w (L.length + 1)), .ref (hz_ad w (L.length + 2)), .ref (hz_ad w (L.length + 3)), .null, .int 0, .int 0, .int 0]), .inl (hz_tc w 3, 30, .inr (.inr (.inr (.inr (fun _ => none))))), .inl (hz_tc w 0, 30, .inl (fun _ => 0)), .inl (hz_tc w 0, 30, .inl (fun _ => 0)), .inl (hz_tc w 0, 30, .inl (fun _ => 0))]) rfl ?_
  refine hz_b_st (st1 := [.ref (hz_ad w (L.length + 4)), .ref (hz_ad w L.length)]) rfl ?_
  refine hz_b_put (j := 0) (k := 5) hO hin hz_K_6 tyX6_ok nmX6 rfl (Nat.le_of_ble_eq_true rfl) tw_2_48 rfl rfl rfl rfl rfl (Nat.le_of_ble_eq_true rfl) dX6_init_34 ?_
  refine hz_b_S (S1 := [.inr (6, [.null, .null, .ref (hz_ad w (L.length + 1)), .ref (hz_ad w (L.length + 2)), .ref (hz_ad w (L.length + 3)), .ref (hz_ad w (L.length + 4)), .int 0, .int 0, .int 0]), .inl (hz_tc w 3, 30, .inr (.inr (.inr (.inr (fun _ => none))))), .inl (hz_tc w 0, 30, .inl (fun _ => 0)), .inl (hz_tc w 0, 30, .inl (fun _ => 0)), .inl (hz_tc w 0, 30, .inl (fun _ => 0))]) rfl ?_
  refine hz_b_aload_n hO dX6_init_37 rfl 0 rfl ?_
  refine hz_b_aload_n hO dX6_init_38 rfl 1 rfl ?_
  refine hz_b_put (j := 0) (k := 0) hO hin hz_K_6 tyX6_ok nmX6 rfl (Nat.le_of_ble_eq_true rfl) tw_2_43 rfl rfl rfl rfl rfl (Nat.le_of_ble_eq_true rfl) dX6_init_39 ?_
  refine hz_b_S (S1 := [.inr (6, [.ref (hz_ad w 1), .null, .ref (hz_ad w (L.length + 1)), .ref (hz_ad w (L.length + 2)), .ref (hz_ad w (L.length + 3)), .ref (hz_ad w (L.length + 4)), .int 0, .int 0, .int 0]), .inl (hz_tc w 3, 30, .inr (.inr (.inr (.inr (fun _ => none))))), .inl (hz_tc w 0, 30, .inl (fun _ => 0)), .inl (hz_tc w 0, 30, .inl (fun _ => 0)), .inl (hz_tc w 0, 30, .inl (fun _ => 0))]) rfl ?_
  refine hz_b_aload_n hO dX6_init_42 rfl 0 rfl ?_
  refine hz_b_aload_n hO dX6_init_43 rfl 2 rfl ?_
  refine hz_b_put (j := 0) (k := 1) hO hin hz_K_6 tyX6_ok nmX6 rfl (Nat.le_of_ble_eq_true rfl) tw_2_44 rfl rfl rfl rfl rfl (Nat.le_of_ble_eq_true rfl) dX6_init_44 ?_
  refine hz_b_S (S1 := [.inr (6, [.ref (hz_ad w 1), .ref (hz_ad w 26), .ref (hz_ad w (L.length + 1)), .ref (hz_ad w (L.length + 2)), .ref (hz_ad w (L.length + 3)), .ref (hz_ad w (L.length + 4)), .int 0, .int 0, .int 0]), .inl (hz_tc w 3, 30, .inr (.inr (.inr (.inr (fun _ => none))))), .inl (hz_tc w 0, 30, .inl (fun _ => 0)), .inl (hz_tc w 0, 30, .inl (fun _ => 0)), .inl (hz_tc w 0, 30, .inl (fun _ => 0))]) rfl ?_
  refine hz_b_S (S1 := hz_cs w [.inl (6, [some 1, some 26, some (L.length + 1), some (L.length + 2), some (L.length + 3), some (L.length + 4), none, none, none]), .inr (.inr (.inr (.inl 30))), .inr (.inl (0, 30)), .inr (.inl (0, 30)), .inr (.inl (0, 30))]) rfl ?_
  exact hz_b_vret hO dX6_init_47
theorem hz_cal_X5_init : hz_CalI RX5 yX5_init cX5_init 2 1 := ⟨⟨tw_2_99, tw_1_9, ⟨rfl, by decide, by decide, by decide +kernel⟩, Nat.le_of_ble_eq_true rfl⟩, tw_2_98, rfl⟩
set_option maxRecDepth 100000 in
set_option maxHeartbeats 4000000 in
theorem c_X5_init (l : Launch) (w : hz_C) (L : List va_E) {b : Nat} (hb : L.length = b) : hz_CB l yX5_init cX5_init 2 1 1 256 w [.ref (hz_ad w b), .ref (hz_ad w 1)] (L ++ [.inr (5, [.null, .null, .int 0])]) (L ++ hz_cs w [.inl (5, [some 1, some (b + 1), none]), .inr (.inl (0, 256))]) := by
  subst hb
  refine hz_b_ofW (by decide) rfl rfl (Nat.le_of_ble_eq_true rfl) tw_2_99 ?_
  intro p e s m args below meth c hO hin
  show hz_B p l e 1 ((1, 256), (0, 0)) s m args below meth c w 2 _ L [.inr (5, [.null, .null, .int 0])] 0 [(0, .ref (hz_ad w L.length)), (1, .ref (hz_ad w 1))] []
  refine hz_b_aload_n hO dX5_init_0 rfl 0 rfl ?_
  refine hz_b_obj hO tw_2_100 (Nat.le_of_ble_eq_true rfl) (Nat.le_of_ble_eq_true rfl) dX5_init_1 ?_
  refine hz_b_aload_n hO dX5_init_4 rfl 0 rfl ?_
  refine hz_b_sipush (v := (256 : Int32)) hO dX5_init_5 (by decide) ?_
  refine hz_b_newa (ty := .int) (t := 0) (n := 256) hO rfl (by decide) rfl rfl rfl tw_1_101 (by decide) (by decide) (Nat.le_of_ble_eq_true rfl) ⟨(Nat.le_of_ble_eq_true rfl), (Nat.le_of_ble_eq_true rfl)⟩ dX5_init_8 ?_
  refine hz_b_S (S1 := [.inr (5, [.null, .null, .int 0]), .inl (hz_tc w 0, 256, .inl (fun _ => 0))]) rfl ?_
  refine hz_b_st (st1 := [.ref (hz_ad w (L.length + 1)), .ref (hz_ad w L.length)]) rfl ?_
  refine hz_b_put (j := 0) (k := 1) hO hin hz_K_5 tyX5_ok nmX5 rfl (Nat.le_of_ble_eq_true rfl) tw_2_102 rfl rfl rfl rfl rfl (Nat.le_of_ble_eq_true rfl) dX5_init_10 ?_
  refine hz_b_S (S1 := [.inr (5, [.null, .ref (hz_ad w (L.length + 1)), .int 0]), .inl (hz_tc w 0, 256, .inl (fun _ => 0))]) rfl ?_
  refine hz_b_aload_n hO dX5_init_13 rfl 0 rfl ?_
  refine hz_b_aload_n hO dX5_init_14 rfl 1 rfl ?_
  refine hz_b_put (j := 0) (k := 0) hO hin hz_K_5 tyX5_ok nmX5 rfl (Nat.le_of_ble_eq_true rfl) tw_2_101 rfl rfl rfl rfl rfl (Nat.le_of_ble_eq_true rfl) dX5_init_15 ?_
  refine hz_b_S (S1 := [.inr (5, [.ref (hz_ad w 1), .ref (hz_ad w (L.length + 1)), .int 0]), .inl (hz_tc w 0, 256, .inl (fun _ => 0))]) rfl ?_
  refine hz_b_S (S1 := hz_cs w [.inl (5, [some 1, some (L.length + 1), none]), .inr (.inl (0, 256))]) rfl ?_
  exact hz_b_vret hO dX5_init_18
