def hz_cq (w : hz_C) (k : Nat) : List va_E := hz_cs w ((hz_SH.drop 36).take (14 * k))
def hz_pf (w : hz_C) (b k : Nat) : Nat → Option Nat := fun j => if j < k then some (hz_ad w (b + 14 * j)) else none
theorem hz_pf_0 {w : hz_C} {b : Nat} : hz_pf w b 0 = fun _ => none := by
  funext j
  simp [hz_pf]
theorem hz_pf_s {w : hz_C} {b k a : Nat} {x : Int32} (hx : x.toNatClampNeg = k) (hr : a = b + 14 * k) : va_up (hz_pf w b k) x.toNatClampNeg (some (hz_ad w a)) = hz_pf w b (k + 1) := by
  subst hr
  rw [hx]
  funext j
  by_cases hj : j = k
  · subst hj
    simp [va_up, hz_pf]
  · simp only [va_up, hz_pf, if_neg hj]
    by_cases hlt : j < k
    · rw [if_pos hlt, if_pos (by omega)]
    · rw [if_neg hlt, if_neg (by omega)]
theorem hz_cs_app {w : hz_C} {a b c : List hz_S} (h : a ++ b = c) : hz_cs w a ++ hz_cs w b = hz_cs w c := by
  rw [← h]
  exact (List.map_append ..).symm
theorem hz_cq_app {w : hz_C} (k : Nat) {blk : List hz_S} (h : (hz_SH.drop 36).take (14 * k) ++ blk = (hz_SH.drop 36).take (14 * (k + 1))) : hz_cq w k ++ hz_cs w blk = hz_cq w (k + 1) := hz_cs_app h
theorem hz_CBto {l : Launch} {y : MethodName} {b : ByteArray} {nL h mc ms : Nat} {w : hz_C} {as : List Value} {L L1 L2 L3 : List va_E} (hC : hz_CB l y b nL h mc ms w as L L1) (e : L = L2) (e1 : L1 = L3) : hz_CB l y b nL h mc ms w as L2 L3 := e ▸ e1 ▸ hC
theorem hz_pf_e {w : hz_C} {b : Nat} {r : List Nat} (h : ∀ j, r[j]? = if j < r.length then some (b + 14 * j) else none) : hz_pf w b r.length = fun j => r[j]?.map (hz_ad w) := by
  funext j
  rw [h j]
  by_cases hj : j < r.length <;> simp [hz_pf, hj]
theorem hz_pf_8 {w : hz_C} : hz_pf w 36 8 = fun j => ([36, 50, 64, 78, 92, 106, 120, 134] : List Nat)[j]?.map (hz_ad w) := hz_pf_e (b := 36) (r := [36, 50, 64, 78, 92, 106, 120, 134]) (fun j => by
  match j with
  | 0 => rfl
  | 1 => rfl
  | 2 => rfl
  | 3 => rfl
  | 4 => rfl
  | 5 => rfl
  | 6 => rfl
  | 7 => rfl
  | k + 8 => rw [if_neg (by show ¬ k + 8 < 8; omega)]; rfl)
theorem hz_pf_2 {w : hz_C} : hz_pf w 148 2 = fun j => ([148, 162] : List Nat)[j]?.map (hz_ad w) := hz_pf_e (b := 148) (r := [148, 162]) (fun j => by
  match j with
  | 0 => rfl
  | 1 => rfl
  | k + 2 => rw [if_neg (by show ¬ k + 2 < 2; omega)]; rfl)
theorem hz_hist_end (w : hz_C) : (.inr (3, [.ref (hz_ad w (32 + 1)), .ref (hz_ad w (32 + 2)), .ref (hz_ad w (32 + 3)), .int 0, .int 0]) :: .inl (hz_tc w 2, 8, .inr (.inr (.inr (.inr (hz_pf w (32 + 4) 8))))) :: .inl (hz_tc w 2, 2, .inr (.inr (.inr (.inr (hz_pf w (32 + 116) 2))))) :: .inl (hz_tc w 1, 2, .inl (fun _ => 0)) :: hz_cq w 10 : List va_E) = hz_cs w ((hz_SH.drop 32).take 144) := by
  rw [hz_pf_8, hz_pf_2]
  rfl
theorem hz_cal_X2_init : hz_CalI RX2 yX2_init cX2_init 3 1 := ⟨⟨tw_2_72, tw_1_8, ⟨rfl, by decide, by decide, by decide +kernel⟩, Nat.le_of_ble_eq_true rfl⟩, tw_2_71, rfl⟩
set_option maxRecDepth 100000 in
set_option maxHeartbeats 8000000 in
theorem c_X2_init (l : Launch) (w : hz_C) (L : List va_E) (hb : L.length = 32) : hz_CB l yX2_init cX2_init 3 2 143 2062 w [.ref (hz_ad w L.length), .ref (hz_ad w 1)] (L ++ [.inr (3, [.null, .null, .null, .int 0, .int 0])]) (L ++ hz_cs w ((hz_SH.drop 32).take 144)) := by
  refine hz_b_ofW (by decide) rfl rfl (Nat.le_of_ble_eq_true rfl) tw_2_72 ?_
  intro p e s m args below meth c hO hin
  show hz_B p l e 2 ((143, 2062), (0, 0)) s m args below meth c w 3 _ L [.inr (3, [.null, .null, .null, .int 0, .int 0])] 0 [(0, .ref (hz_ad w L.length)), (1, .ref (hz_ad w 1))] []
  refine hz_b_aload_n hO dX2_init_0 rfl 0 rfl ?_
  refine hz_b_obj hO tw_2_73 (Nat.le_of_ble_eq_true rfl) (Nat.le_of_ble_eq_true rfl) dX2_init_1 ?_
  refine hz_b_aload_n hO dX2_init_4 rfl 0 rfl ?_
  refine hz_b_bipush (v := (8 : Int32)) hO dX2_init_5 (by decide) ?_
  refine hz_b_newq (C := "HotSteps$State") (t := 2) (n := 8) hO (by decide) rfl hO.2.2.2.1.2.2.2.2.2.2.2.2.2.2.1 tw_2_74 (by decide) (by decide) (Nat.le_of_ble_eq_true rfl) ⟨(Nat.le_of_ble_eq_true rfl), (Nat.le_of_ble_eq_true rfl)⟩ dX2_init_7 ?_
  refine hz_b_S (S1 := [.inr (3, [.null, .null, .null, .int 0, .int 0]), .inl (hz_tc w 2, 8, .inr (.inr (.inr (.inr (fun _ => none)))))]) rfl ?_
  refine hz_b_st (st1 := [.ref (hz_ad w (L.length + 1)), .ref (hz_ad w L.length)]) rfl ?_
  refine hz_b_put (j := 0) (k := 0) hO hin hz_K_3 tyX2_ok nmX2 rfl (Nat.le_of_ble_eq_true rfl) tw_2_77 rfl rfl rfl rfl rfl (Nat.le_of_ble_eq_true rfl) dX2_init_10 ?_
  refine hz_b_S (S1 := [.inr (3, [.ref (hz_ad w (L.length + 1)), .null, .null, .int 0, .int 0]), .inl (hz_tc w 2, 8, .inr (.inr (.inr (.inr (fun _ => none)))))]) rfl ?_
  refine hz_b_aload_n hO dX2_init_13 rfl 0 rfl ?_
  refine hz_b_iconst (v := (2 : Int32)) hO dX2_init_14 (by decide) ?_
  refine hz_b_newq (C := "HotSteps$State") (t := 2) (n := 2) hO (by decide) rfl hO.2.2.2.1.2.2.2.2.2.2.2.2.2.2.1 tw_2_74 (by decide) (by decide) (Nat.le_of_ble_eq_true rfl) ⟨(Nat.le_of_ble_eq_true rfl), (Nat.le_of_ble_eq_true rfl)⟩ dX2_init_15 ?_
  refine hz_b_S (S1 := [.inr (3, [.ref (hz_ad w (L.length + 1)), .null, .null, .int 0, .int 0]), .inl (hz_tc w 2, 8, .inr (.inr (.inr (.inr (fun _ => none))))), .inl (hz_tc w 2, 2, .inr (.inr (.inr (.inr (fun _ => none)))))]) rfl ?_
  refine hz_b_st (st1 := [.ref (hz_ad w (L.length + 2)), .ref (hz_ad w L.length)]) rfl ?_
  refine hz_b_put (j := 0) (k := 1) hO hin hz_K_3 tyX2_ok nmX2 rfl (Nat.le_of_ble_eq_true rfl) tw_2_78 rfl rfl rfl rfl rfl (Nat.le_of_ble_eq_true rfl) dX2_init_18 ?_
  refine hz_b_S (S1 := [.inr (3, [.ref (hz_ad w (L.length + 1)), .ref (hz_ad w (L.length + 2)), .null, .int 0, .int 0]), .inl (hz_tc w 2, 8, .inr (.inr (.inr (.inr (fun _ => none))))), .inl (hz_tc w 2, 2, .inr (.inr (.inr (.inr (fun _ => none)))))]) rfl ?_
  refine hz_b_aload_n hO dX2_init_21 rfl 0 rfl ?_
  refine hz_b_iconst (v := (2 : Int32)) hO dX2_init_22 (by decide) ?_
  refine hz_b_newa (ty := .boolean) (t := 1) (n := 2) hO rfl (by decide) rfl rfl rfl tw_2_94 (by decide) (by decide) (Nat.le_of_ble_eq_true rfl) ⟨(Nat.le_of_ble_eq_true rfl), (Nat.le_of_ble_eq_true rfl)⟩ dX2_init_23 ?_
  refine hz_b_S (S1 := [.inr (3, [.ref (hz_ad w (L.length + 1)), .ref (hz_ad w (L.length + 2)), .null, .int 0, .int 0]), .inl (hz_tc w 2, 8, .inr (.inr (.inr (.inr (fun _ => none))))), .inl (hz_tc w 2, 2, .inr (.inr (.inr (.inr (fun _ => none))))), .inl (hz_tc w 1, 2, .inl (fun _ => 0))]) rfl ?_
  refine hz_b_st (st1 := [.ref (hz_ad w (L.length + 3)), .ref (hz_ad w L.length)]) rfl ?_
  refine hz_b_put (j := 0) (k := 2) hO hin hz_K_3 tyX2_ok nmX2 rfl (Nat.le_of_ble_eq_true rfl) tw_2_79 rfl rfl rfl rfl rfl (Nat.le_of_ble_eq_true rfl) dX2_init_25 ?_
  refine hz_b_S (S1 := [.inr (3, [.ref (hz_ad w (L.length + 1)), .ref (hz_ad w (L.length + 2)), .ref (hz_ad w (L.length + 3)), .int 0, .int 0]), .inl (hz_tc w 2, 8, .inr (.inr (.inr (.inr (fun _ => none))))), .inl (hz_tc w 2, 2, .inr (.inr (.inr (.inr (fun _ => none))))), .inl (hz_tc w 1, 2, .inl (fun _ => 0))]) rfl ?_
  refine hz_b_S (S1 := .inr (3, [.ref (hz_ad w (L.length + 1)), .ref (hz_ad w (L.length + 2)), .ref (hz_ad w (L.length + 3)), .int 0, .int 0]) :: .inl (hz_tc w 2, 8, .inr (.inr (.inr (.inr (hz_pf w (L.length + 4) 0))))) :: .inl (hz_tc w 2, 2, .inr (.inr (.inr (.inr (hz_pf w (L.length + 116) 0))))) :: .inl (hz_tc w 1, 2, .inl (fun _ => 0)) :: hz_cq w 0) (by rw [hz_pf_0, hz_pf_0]; rfl) ?_
  refine hz_b_iconst (v := (0 : Int32)) hO dX2_init_28 (by decide) ?_
  refine hz_b_istore_n (ls1 := [(2, .int (0 : Int32)), (0, .ref (hz_ad w L.length)), (1, .ref (hz_ad w 1))]) hO dX2_init_29 rfl (Nat.le_of_ble_eq_true rfl) rfl ?_
  refine hz_b_iload_n hO dX2_init_30 rfl 0 rfl ?_
  refine hz_b_bipush (v := (8 : Int32)) hO dX2_init_31 (by decide) ?_
  refine hz_b_icmp_ge (tgt := 56) hO dX2_init_33 (by decide) (fun hc => absurd hc (by decide)) (fun _ => ?_)
  refine hz_b_aload_n hO dX2_init_36 rfl 1 rfl ?_
  refine hz_b_get (j := 0) (k := 0) hO hz_K_3 rfl rfl (Nat.le_of_ble_eq_true rfl) tw_2_77 rfl dX2_init_37 ?_
  refine hz_b_iload_n hO dX2_init_40 rfl 0 rfl ?_
  refine hz_b_new hO hz_K_7 tyX7 tyX7_ok tw_2_74 tw_1_141 tw_1_4 (fs := [.null, .null, .null, .null, .null, .null, .null, .null, .null, .null, .null, .null, .null, .null, .int 0, .int 0, .int 0, .int 0, .int 0, .int 0]) (by decide) ⟨(Nat.le_of_ble_eq_true rfl), (Nat.le_of_ble_eq_true rfl)⟩ dX2_init_41 ?_
  refine hz_b_S (S1 := .inr (3, [.ref (hz_ad w (L.length + 1)), .ref (hz_ad w (L.length + 2)), .ref (hz_ad w (L.length + 3)), .int 0, .int 0]) :: .inl (hz_tc w 2, 8, .inr (.inr (.inr (.inr (hz_pf w (L.length + 4) 0))))) :: .inl (hz_tc w 2, 2, .inr (.inr (.inr (.inr (hz_pf w (L.length + 116) 0))))) :: .inl (hz_tc w 1, 2, .inl (fun _ => 0)) :: (hz_cq w 0 ++ [.inr (7, [.null, .null, .null, .null, .null, .null, .null, .null, .null, .null, .null, .null, .null, .null, .int 0, .int 0, .int 0, .int 0, .int 0, .int 0])])) rfl ?_
  refine hz_b_st (st1 := [.ref (hz_ad w (L.length + 4)), .int (0 : Int32), .ref (hz_ad w (L.length + 1))]) rfl ?_
  refine hz_b_dup hO dX2_init_44 rfl ?_
  refine hz_b_aload_n hO dX2_init_45 rfl 2 rfl ?_
  refine hz_b_call (mc := 13) (ms := 185) (hc := 1) (x := hz_ad w (L.length + 4)) (as := [.ref (hz_ad w 1)]) (rest := [.ref (hz_ad w (L.length + 4)), .int (0 : Int32), .ref (hz_ad w (L.length + 1))]) (S1 := .inr (3, [.ref (hz_ad w (L.length + 1)), .ref (hz_ad w (L.length + 2)), .ref (hz_ad w (L.length + 3)), .int 0, .int 0]) :: .inl (hz_tc w 2, 8, .inr (.inr (.inr (.inr (hz_pf w (L.length + 4) 0))))) :: .inl (hz_tc w 2, 2, .inr (.inr (.inr (.inr (hz_pf w (L.length + 116) 0))))) :: .inl (hz_tc w 1, 2, .inl (fun _ => 0)) :: hz_cq w 1) hO ?_ hz_cal_X7_init tw_2_76 (Nat.le_of_ble_eq_true rfl) rfl rfl (Nat.le_of_ble_eq_true rfl) ⟨(Nat.le_of_ble_eq_true rfl), (Nat.le_of_ble_eq_true rfl)⟩ rfl dX2_init_46 ?_
  · have hC := c_X7_init l w (L ++ (.inr (3, [.ref (hz_ad w (L.length + 1)), .ref (hz_ad w (L.length + 2)), .ref (hz_ad w (L.length + 3)), .int 0, .int 0]) :: .inl (hz_tc w 2, 8, .inr (.inr (.inr (.inr (hz_pf w (L.length + 4) 0))))) :: .inl (hz_tc w 2, 2, .inr (.inr (.inr (.inr (hz_pf w (L.length + 116) 0))))) :: .inl (hz_tc w 1, 2, .inl (fun _ => 0)) :: hz_cq w 0)) (b := L.length + 4) (by rw [List.length_append]; rfl)
    rw [List.append_assoc, List.append_assoc] at hC
    exact hz_CBto hC rfl (by rw [hb]; exact congrArg (fun z => L ++ (_ :: _ :: _ :: _ :: z)) (hz_cq_app (w := w) 0 rfl))
  refine hz_b_aast (j := 1) (jk := 4) (n := 8) hO rfl rfl (hz_in_e (by decide)) dX2_init_49 ?_
  refine hz_b_S (S1 := .inr (3, [.ref (hz_ad w (L.length + 1)), .ref (hz_ad w (L.length + 2)), .ref (hz_ad w (L.length + 3)), .int 0, .int 0]) :: .inl (hz_tc w 2, 8, .inr (.inr (.inr (.inr (hz_pf w (L.length + 4) 1))))) :: .inl (hz_tc w 2, 2, .inr (.inr (.inr (.inr (hz_pf w (L.length + 116) 0))))) :: .inl (hz_tc w 1, 2, .inl (fun _ => 0)) :: hz_cq w 1) (by rw [hz_pf_s (b := L.length + 4) (k := 0) (a := L.length + 4) rfl (by omega)]; rfl) ?_
  refine hz_b_iinc (k := 0) (v := (1 : Int32)) (ls1 := [(2, .int (1 : Int32)), (0, .ref (hz_ad w L.length)), (1, .ref (hz_ad w 1))]) hO dX2_init_50 rfl (by decide) (Nat.le_of_ble_eq_true rfl) rfl ?_
  refine hz_b_goto (tgt := 30) hO dX2_init_53 (by decide) ?_
  refine hz_b_iload_n hO dX2_init_30 rfl 0 rfl ?_
  refine hz_b_bipush (v := (8 : Int32)) hO dX2_init_31 (by decide) ?_
  refine hz_b_icmp_ge (tgt := 56) hO dX2_init_33 (by decide) (fun hc => absurd hc (by decide)) (fun _ => ?_)
  refine hz_b_aload_n hO dX2_init_36 rfl 1 rfl ?_
  refine hz_b_get (j := 0) (k := 0) hO hz_K_3 rfl rfl (Nat.le_of_ble_eq_true rfl) tw_2_77 rfl dX2_init_37 ?_
  refine hz_b_iload_n hO dX2_init_40 rfl 0 rfl ?_
  refine hz_b_new hO hz_K_7 tyX7 tyX7_ok tw_2_74 tw_1_141 tw_1_4 (fs := [.null, .null, .null, .null, .null, .null, .null, .null, .null, .null, .null, .null, .null, .null, .int 0, .int 0, .int 0, .int 0, .int 0, .int 0]) (by decide) ⟨(Nat.le_of_ble_eq_true rfl), (Nat.le_of_ble_eq_true rfl)⟩ dX2_init_41 ?_
  refine hz_b_S (S1 := .inr (3, [.ref (hz_ad w (L.length + 1)), .ref (hz_ad w (L.length + 2)), .ref (hz_ad w (L.length + 3)), .int 0, .int 0]) :: .inl (hz_tc w 2, 8, .inr (.inr (.inr (.inr (hz_pf w (L.length + 4) 1))))) :: .inl (hz_tc w 2, 2, .inr (.inr (.inr (.inr (hz_pf w (L.length + 116) 0))))) :: .inl (hz_tc w 1, 2, .inl (fun _ => 0)) :: (hz_cq w 1 ++ [.inr (7, [.null, .null, .null, .null, .null, .null, .null, .null, .null, .null, .null, .null, .null, .null, .int 0, .int 0, .int 0, .int 0, .int 0, .int 0])])) rfl ?_
  refine hz_b_st (st1 := [.ref (hz_ad w (L.length + 18)), .int (1 : Int32), .ref (hz_ad w (L.length + 1))]) rfl ?_
  refine hz_b_dup hO dX2_init_44 rfl ?_
  refine hz_b_aload_n hO dX2_init_45 rfl 2 rfl ?_
  refine hz_b_call (mc := 13) (ms := 185) (hc := 1) (x := hz_ad w (L.length + 18)) (as := [.ref (hz_ad w 1)]) (rest := [.ref (hz_ad w (L.length + 18)), .int (1 : Int32), .ref (hz_ad w (L.length + 1))]) (S1 := .inr (3, [.ref (hz_ad w (L.length + 1)), .ref (hz_ad w (L.length + 2)), .ref (hz_ad w (L.length + 3)), .int 0, .int 0]) :: .inl (hz_tc w 2, 8, .inr (.inr (.inr (.inr (hz_pf w (L.length + 4) 1))))) :: .inl (hz_tc w 2, 2, .inr (.inr (.inr (.inr (hz_pf w (L.length + 116) 0))))) :: .inl (hz_tc w 1, 2, .inl (fun _ => 0)) :: hz_cq w 2) hO ?_ hz_cal_X7_init tw_2_76 (Nat.le_of_ble_eq_true rfl) rfl rfl (Nat.le_of_ble_eq_true rfl) ⟨(Nat.le_of_ble_eq_true rfl), (Nat.le_of_ble_eq_true rfl)⟩ rfl dX2_init_46 ?_
  · have hC := c_X7_init l w (L ++ (.inr (3, [.ref (hz_ad w (L.length + 1)), .ref (hz_ad w (L.length + 2)), .ref (hz_ad w (L.length + 3)), .int 0, .int 0]) :: .inl (hz_tc w 2, 8, .inr (.inr (.inr (.inr (hz_pf w (L.length + 4) 1))))) :: .inl (hz_tc w 2, 2, .inr (.inr (.inr (.inr (hz_pf w (L.length + 116) 0))))) :: .inl (hz_tc w 1, 2, .inl (fun _ => 0)) :: hz_cq w 1)) (b := L.length + 18) (by rw [List.length_append]; rfl)
    rw [List.append_assoc, List.append_assoc] at hC
    exact hz_CBto hC rfl (by rw [hb]; exact congrArg (fun z => L ++ (_ :: _ :: _ :: _ :: z)) (hz_cq_app (w := w) 1 rfl))
  refine hz_b_aast (j := 1) (jk := 18) (n := 8) hO rfl rfl (hz_in_e (by decide)) dX2_init_49 ?_
  refine hz_b_S (S1 := .inr (3, [.ref (hz_ad w (L.length + 1)), .ref (hz_ad w (L.length + 2)), .ref (hz_ad w (L.length + 3)), .int 0, .int 0]) :: .inl (hz_tc w 2, 8, .inr (.inr (.inr (.inr (hz_pf w (L.length + 4) 2))))) :: .inl (hz_tc w 2, 2, .inr (.inr (.inr (.inr (hz_pf w (L.length + 116) 0))))) :: .inl (hz_tc w 1, 2, .inl (fun _ => 0)) :: hz_cq w 2) (by rw [hz_pf_s (b := L.length + 4) (k := 1) (a := L.length + 18) rfl (by omega)]; rfl) ?_
  refine hz_b_iinc (k := 0) (v := (2 : Int32)) (ls1 := [(2, .int (2 : Int32)), (0, .ref (hz_ad w L.length)), (1, .ref (hz_ad w 1))]) hO dX2_init_50 rfl (by decide) (Nat.le_of_ble_eq_true rfl) rfl ?_
  refine hz_b_goto (tgt := 30) hO dX2_init_53 (by decide) ?_
  refine hz_b_iload_n hO dX2_init_30 rfl 0 rfl ?_
  refine hz_b_bipush (v := (8 : Int32)) hO dX2_init_31 (by decide) ?_
  refine hz_b_icmp_ge (tgt := 56) hO dX2_init_33 (by decide) (fun hc => absurd hc (by decide)) (fun _ => ?_)
  refine hz_b_aload_n hO dX2_init_36 rfl 1 rfl ?_
  refine hz_b_get (j := 0) (k := 0) hO hz_K_3 rfl rfl (Nat.le_of_ble_eq_true rfl) tw_2_77 rfl dX2_init_37 ?_
  refine hz_b_iload_n hO dX2_init_40 rfl 0 rfl ?_
  refine hz_b_new hO hz_K_7 tyX7 tyX7_ok tw_2_74 tw_1_141 tw_1_4 (fs := [.null, .null, .null, .null, .null, .null, .null, .null, .null, .null, .null, .null, .null, .null, .int 0, .int 0, .int 0, .int 0, .int 0, .int 0]) (by decide) ⟨(Nat.le_of_ble_eq_true rfl), (Nat.le_of_ble_eq_true rfl)⟩ dX2_init_41 ?_
  refine hz_b_S (S1 := .inr (3, [.ref (hz_ad w (L.length + 1)), .ref (hz_ad w (L.length + 2)), .ref (hz_ad w (L.length + 3)), .int 0, .int 0]) :: .inl (hz_tc w 2, 8, .inr (.inr (.inr (.inr (hz_pf w (L.length + 4) 2))))) :: .inl (hz_tc w 2, 2, .inr (.inr (.inr (.inr (hz_pf w (L.length + 116) 0))))) :: .inl (hz_tc w 1, 2, .inl (fun _ => 0)) :: (hz_cq w 2 ++ [.inr (7, [.null, .null, .null, .null, .null, .null, .null, .null, .null, .null, .null, .null, .null, .null, .int 0, .int 0, .int 0, .int 0, .int 0, .int 0])])) rfl ?_
  refine hz_b_st (st1 := [.ref (hz_ad w (L.length + 32)), .int (2 : Int32), .ref (hz_ad w (L.length + 1))]) rfl ?_
  refine hz_b_dup hO dX2_init_44 rfl ?_
  refine hz_b_aload_n hO dX2_init_45 rfl 2 rfl ?_
  refine hz_b_call (mc := 13) (ms := 185) (hc := 1) (x := hz_ad w (L.length + 32)) (as := [.ref (hz_ad w 1)]) (rest := [.ref (hz_ad w (L.length + 32)), .int (2 : Int32), .ref (hz_ad w (L.length + 1))]) (S1 := .inr (3, [.ref (hz_ad w (L.length + 1)), .ref (hz_ad w (L.length + 2)), .ref (hz_ad w (L.length + 3)), .int 0, .int 0]) :: .inl (hz_tc w 2, 8, .inr (.inr (.inr (.inr (hz_pf w (L.length + 4) 2))))) :: .inl (hz_tc w 2, 2, .inr (.inr (.inr (.inr (hz_pf w (L.length + 116) 0))))) :: .inl (hz_tc w 1, 2, .inl (fun _ => 0)) :: hz_cq w 3) hO ?_ hz_cal_X7_init tw_2_76 (Nat.le_of_ble_eq_true rfl) rfl rfl (Nat.le_of_ble_eq_true rfl) ⟨(Nat.le_of_ble_eq_true rfl), (Nat.le_of_ble_eq_true rfl)⟩ rfl dX2_init_46 ?_
  · have hC := c_X7_init l w (L ++ (.inr (3, [.ref (hz_ad w (L.length + 1)), .ref (hz_ad w (L.length + 2)), .ref (hz_ad w (L.length + 3)), .int 0, .int 0]) :: .inl (hz_tc w 2, 8, .inr (.inr (.inr (.inr (hz_pf w (L.length + 4) 2))))) :: .inl (hz_tc w 2, 2, .inr (.inr (.inr (.inr (hz_pf w (L.length + 116) 0))))) :: .inl (hz_tc w 1, 2, .inl (fun _ => 0)) :: hz_cq w 2)) (b := L.length + 32) (by rw [List.length_append]; rfl)
    rw [List.append_assoc, List.append_assoc] at hC
    exact hz_CBto hC rfl (by rw [hb]; exact congrArg (fun z => L ++ (_ :: _ :: _ :: _ :: z)) (hz_cq_app (w := w) 2 rfl))
  refine hz_b_aast (j := 1) (jk := 32) (n := 8) hO rfl rfl (hz_in_e (by decide)) dX2_init_49 ?_
  refine hz_b_S (S1 := .inr (3, [.ref (hz_ad w (L.length + 1)), .ref (hz_ad w (L.length + 2)), .ref (hz_ad w (L.length + 3)), .int 0, .int 0]) :: .inl (hz_tc w 2, 8, .inr (.inr (.inr (.inr (hz_pf w (L.length + 4) 3))))) :: .inl (hz_tc w 2, 2, .inr (.inr (.inr (.inr (hz_pf w (L.length + 116) 0))))) :: .inl (hz_tc w 1, 2, .inl (fun _ => 0)) :: hz_cq w 3) (by rw [hz_pf_s (b := L.length + 4) (k := 2) (a := L.length + 32) rfl (by omega)]; rfl) ?_
  refine hz_b_iinc (k := 0) (v := (3 : Int32)) (ls1 := [(2, .int (3 : Int32)), (0, .ref (hz_ad w L.length)), (1, .ref (hz_ad w 1))]) hO dX2_init_50 rfl (by decide) (Nat.le_of_ble_eq_true rfl) rfl ?_
  refine hz_b_goto (tgt := 30) hO dX2_init_53 (by decide) ?_
  refine hz_b_iload_n hO dX2_init_30 rfl 0 rfl ?_
  refine hz_b_bipush (v := (8 : Int32)) hO dX2_init_31 (by decide) ?_
  refine hz_b_icmp_ge (tgt := 56) hO dX2_init_33 (by decide) (fun hc => absurd hc (by decide)) (fun _ => ?_)
  refine hz_b_aload_n hO dX2_init_36 rfl 1 rfl ?_
  refine hz_b_get (j := 0) (k := 0) hO hz_K_3 rfl rfl (Nat.le_of_ble_eq_true rfl) tw_2_77 rfl dX2_init_37 ?_
  refine hz_b_iload_n hO dX2_init_40 rfl 0 rfl ?_
  refine hz_b_new hO hz_K_7 tyX7 tyX7_ok tw_2_74 tw_1_141 tw_1_4 (fs := [.null, .null, .null, .null, .null, .null, .null, .null, .null, .null, .null, .null, .null, .null, .int 0, .int 0, .int 0, .int 0, .int 0, .int 0]) (by decide) ⟨(Nat.le_of_ble_eq_true rfl), (Nat.le_of_ble_eq_true rfl)⟩ dX2_init_41 ?_
  refine hz_b_S (S1 := .inr (3, [.ref (hz_ad w (L.length + 1)), .ref (hz_ad w (L.length + 2)), .ref (hz_ad w (L.length + 3)), .int 0, .int 0]) :: .inl (hz_tc w 2, 8, .inr (.inr (.inr (.inr (hz_pf w (L.length + 4) 3))))) :: .inl (hz_tc w 2, 2, .inr (.inr (.inr (.inr (hz_pf w (L.length + 116) 0))))) :: .inl (hz_tc w 1, 2, .inl (fun _ => 0)) :: (hz_cq w 3 ++ [.inr (7, [.null, .null, .null, .null, .null, .null, .null, .null, .null, .null, .null, .null, .null, .null, .int 0, .int 0, .int 0, .int 0, .int 0, .int 0])])) rfl ?_
  refine hz_b_st (st1 := [.ref (hz_ad w (L.length + 46)), .int (3 : Int32), .ref (hz_ad w (L.length + 1))]) rfl ?_
  refine hz_b_dup hO dX2_init_44 rfl ?_
  refine hz_b_aload_n hO dX2_init_45 rfl 2 rfl ?_
  refine hz_b_call (mc := 13) (ms := 185) (hc := 1) (x := hz_ad w (L.length + 46)) (as := [.ref (hz_ad w 1)]) (rest := [.ref (hz_ad w (L.length + 46)), .int (3 : Int32), .ref (hz_ad w (L.length + 1))]) (S1 := .inr (3, [.ref (hz_ad w (L.length + 1)), .ref (hz_ad w (L.length + 2)), .ref (hz_ad w (L.length + 3)), .int 0, .int 0]) :: .inl (hz_tc w 2, 8, .inr (.inr (.inr (.inr (hz_pf w (L.length + 4) 3))))) :: .inl (hz_tc w 2, 2, .inr (.inr (.inr (.inr (hz_pf w (L.length + 116) 0))))) :: .inl (hz_tc w 1, 2, .inl (fun _ => 0)) :: hz_cq w 4) hO ?_ hz_cal_X7_init tw_2_76 (Nat.le_of_ble_eq_true rfl) rfl rfl (Nat.le_of_ble_eq_true rfl) ⟨(Nat.le_of_ble_eq_true rfl), (Nat.le_of_ble_eq_true rfl)⟩ rfl dX2_init_46 ?_
  · have hC := c_X7_init l w (L ++ (.inr (3, [.ref (hz_ad w (L.length + 1)), .ref (hz_ad w (L.length + 2)), .ref (hz_ad w (L.length + 3)), .int 0, .int 0]) :: .inl (hz_tc w 2, 8, .inr (.inr (.inr (.inr (hz_pf w (L.length + 4) 3))))) :: .inl (hz_tc w 2, 2, .inr (.inr (.inr (.inr (hz_pf w (L.length + 116) 0))))) :: .inl (hz_tc w 1, 2, .inl (fun _ => 0)) :: hz_cq w 3)) (b := L.length + 46) (by rw [List.length_append]; rfl)
    rw [List.append_assoc, List.append_assoc] at hC
    exact hz_CBto hC rfl (by rw [hb]; exact congrArg (fun z => L ++ (_ :: _ :: _ :: _ :: z)) (hz_cq_app (w := w) 3 rfl))
  refine hz_b_aast (j := 1) (jk := 46) (n := 8) hO rfl rfl (hz_in_e (by decide)) dX2_init_49 ?_
  refine hz_b_S (S1 := .inr (3, [.ref (hz_ad w (L.length + 1)), .ref (hz_ad w (L.length + 2)), .ref (hz_ad w (L.length + 3)), .int 0, .int 0]) :: .inl (hz_tc w 2, 8, .inr (.inr (.inr (.inr (hz_pf w (L.length + 4) 4))))) :: .inl (hz_tc w 2, 2, .inr (.inr (.inr (.inr (hz_pf w (L.length + 116) 0))))) :: .inl (hz_tc w 1, 2, .inl (fun _ => 0)) :: hz_cq w 4) (by rw [hz_pf_s (b := L.length + 4) (k := 3) (a := L.length + 46) rfl (by omega)]; rfl) ?_
  refine hz_b_iinc (k := 0) (v := (4 : Int32)) (ls1 := [(2, .int (4 : Int32)), (0, .ref (hz_ad w L.length)), (1, .ref (hz_ad w 1))]) hO dX2_init_50 rfl (by decide) (Nat.le_of_ble_eq_true rfl) rfl ?_
  refine hz_b_goto (tgt := 30) hO dX2_init_53 (by decide) ?_
  refine hz_b_iload_n hO dX2_init_30 rfl 0 rfl ?_
  refine hz_b_bipush (v := (8 : Int32)) hO dX2_init_31 (by decide) ?_
  refine hz_b_icmp_ge (tgt := 56) hO dX2_init_33 (by decide) (fun hc => absurd hc (by decide)) (fun _ => ?_)
  refine hz_b_aload_n hO dX2_init_36 rfl 1 rfl ?_
  refine hz_b_get (j := 0) (k := 0) hO hz_K_3 rfl rfl (Nat.le_of_ble_eq_true rfl) tw_2_77 rfl dX2_init_37 ?_
  refine hz_b_iload_n hO dX2_init_40 rfl 0 rfl ?_
  refine hz_b_new hO hz_K_7 tyX7 tyX7_ok tw_2_74 tw_1_141 tw_1_4 (fs := [.null, .null, .null, .null, .null, .null, .null, .null, .null, .null, .null, .null, .null, .null, .int 0, .int 0, .int 0, .int 0, .int 0, .int 0]) (by decide) ⟨(Nat.le_of_ble_eq_true rfl), (Nat.le_of_ble_eq_true rfl)⟩ dX2_init_41 ?_
  refine hz_b_S (S1 := .inr (3, [.ref (hz_ad w (L.length + 1)), .ref (hz_ad w (L.length + 2)), .ref (hz_ad w (L.length + 3)), .int 0, .int 0]) :: .inl (hz_tc w 2, 8, .inr (.inr (.inr (.inr (hz_pf w (L.length + 4) 4))))) :: .inl (hz_tc w 2, 2, .inr (.inr (.inr (.inr (hz_pf w (L.length + 116) 0))))) :: .inl (hz_tc w 1, 2, .inl (fun _ => 0)) :: (hz_cq w 4 ++ [.inr (7, [.null, .null, .null, .null, .null, .null, .null, .null, .null, .null, .null, .null, .null, .null, .int 0, .int 0, .int 0, .int 0, .int 0, .int 0])])) rfl ?_
  refine hz_b_st (st1 := [.ref (hz_ad w (L.length + 60)), .int (4 : Int32), .ref (hz_ad w (L.length + 1))]) rfl ?_
  refine hz_b_dup hO dX2_init_44 rfl ?_
  refine hz_b_aload_n hO dX2_init_45 rfl 2 rfl ?_
  refine hz_b_call (mc := 13) (ms := 185) (hc := 1) (x := hz_ad w (L.length + 60)) (as := [.ref (hz_ad w 1)]) (rest := [.ref (hz_ad w (L.length + 60)), .int (4 : Int32), .ref (hz_ad w (L.length + 1))]) (S1 := .inr (3, [.ref (hz_ad w (L.length + 1)), .ref (hz_ad w (L.length + 2)), .ref (hz_ad w (L.length + 3)), .int 0, .int 0]) :: .inl (hz_tc w 2, 8, .inr (.inr (.inr (.inr (hz_pf w (L.length + 4) 4))))) :: .inl (hz_tc w 2, 2, .inr (.inr (.inr (.inr (hz_pf w (L.length + 116) 0))))) :: .inl (hz_tc w 1, 2, .inl (fun _ => 0)) :: hz_cq w 5) hO ?_ hz_cal_X7_init tw_2_76 (Nat.le_of_ble_eq_true rfl) rfl rfl (Nat.le_of_ble_eq_true rfl) ⟨(Nat.le_of_ble_eq_true rfl), (Nat.le_of_ble_eq_true rfl)⟩ rfl dX2_init_46 ?_
  · have hC := c_X7_init l w (L ++ (.inr (3, [.ref (hz_ad w (L.length + 1)), .ref (hz_ad w (L.length + 2)), .ref (hz_ad w (L.length + 3)), .int 0, .int 0]) :: .inl (hz_tc w 2, 8, .inr (.inr (.inr (.inr (hz_pf w (L.length + 4) 4))))) :: .inl (hz_tc w 2, 2, .inr (.inr (.inr (.inr (hz_pf w (L.length + 116) 0))))) :: .inl (hz_tc w 1, 2, .inl (fun _ => 0)) :: hz_cq w 4)) (b := L.length + 60) (by rw [List.length_append]; rfl)
    rw [List.append_assoc, List.append_assoc] at hC
    exact hz_CBto hC rfl (by rw [hb]; exact congrArg (fun z => L ++ (_ :: _ :: _ :: _ :: z)) (hz_cq_app (w := w) 4 rfl))
  refine hz_b_aast (j := 1) (jk := 60) (n := 8) hO rfl rfl (hz_in_e (by decide)) dX2_init_49 ?_
  refine hz_b_S (S1 := .inr (3, [.ref (hz_ad w (L.length + 1)), .ref (hz_ad w (L.length + 2)), .ref (hz_ad w (L.length + 3)), .int 0, .int 0]) :: .inl (hz_tc w 2, 8, .inr (.inr (.inr (.inr (hz_pf w (L.length + 4) 5))))) :: .inl (hz_tc w 2, 2, .inr (.inr (.inr (.inr (hz_pf w (L.length + 116) 0))))) :: .inl (hz_tc w 1, 2, .inl (fun _ => 0)) :: hz_cq w 5) (by rw [hz_pf_s (b := L.length + 4) (k := 4) (a := L.length + 60) rfl (by omega)]; rfl) ?_
  refine hz_b_iinc (k := 0) (v := (5 : Int32)) (ls1 := [(2, .int (5 : Int32)), (0, .ref (hz_ad w L.length)), (1, .ref (hz_ad w 1))]) hO dX2_init_50 rfl (by decide) (Nat.le_of_ble_eq_true rfl) rfl ?_
  refine hz_b_goto (tgt := 30) hO dX2_init_53 (by decide) ?_
  refine hz_b_iload_n hO dX2_init_30 rfl 0 rfl ?_
  refine hz_b_bipush (v := (8 : Int32)) hO dX2_init_31 (by decide) ?_
  refine hz_b_icmp_ge (tgt := 56) hO dX2_init_33 (by decide) (fun hc => absurd hc (by decide)) (fun _ => ?_)
  refine hz_b_aload_n hO dX2_init_36 rfl 1 rfl ?_
  refine hz_b_get (j := 0) (k := 0) hO hz_K_3 rfl rfl (Nat.le_of_ble_eq_true rfl) tw_2_77 rfl dX2_init_37 ?_
  refine hz_b_iload_n hO dX2_init_40 rfl 0 rfl ?_
  refine hz_b_new hO hz_K_7 tyX7 tyX7_ok tw_2_74 tw_1_141 tw_1_4 (fs := [.null, .null, .null, .null, .null, .null, .null, .null, .null, .null, .null, .null, .null, .null, .int 0, .int 0, .int 0, .int 0, .int 0, .int 0]) (by decide) ⟨(Nat.le_of_ble_eq_true rfl), (Nat.le_of_ble_eq_true rfl)⟩ dX2_init_41 ?_
  refine hz_b_S (S1 := .inr (3, [.ref (hz_ad w (L.length + 1)), .ref (hz_ad w (L.length + 2)), .ref (hz_ad w (L.length + 3)), .int 0, .int 0]) :: .inl (hz_tc w 2, 8, .inr (.inr (.inr (.inr (hz_pf w (L.length + 4) 5))))) :: .inl (hz_tc w 2, 2, .inr (.inr (.inr (.inr (hz_pf w (L.length + 116) 0))))) :: .inl (hz_tc w 1, 2, .inl (fun _ => 0)) :: (hz_cq w 5 ++ [.inr (7, [.null, .null, .null, .null, .null, .null, .null, .null, .null, .null, .null, .null, .null, .null, .int 0, .int 0, .int 0, .int 0, .int 0, .int 0])])) rfl ?_
  refine hz_b_st (st1 := [.ref (hz_ad w (L.length + 74)), .int (5 : Int32), .ref (hz_ad w (L.length + 1))]) rfl ?_
  refine hz_b_dup hO dX2_init_44 rfl ?_
  refine hz_b_aload_n hO dX2_init_45 rfl 2 rfl ?_
  refine hz_b_call (mc := 13) (ms := 185) (hc := 1) (x := hz_ad w (L.length + 74)) (as := [.ref (hz_ad w 1)]) (rest := [.ref (hz_ad w (L.length + 74)), .int (5 : Int32), .ref (hz_ad w (L.length + 1))]) (S1 := .inr (3, [.ref (hz_ad w (L.length + 1)), .ref (hz_ad w (L.length + 2)), .ref (hz_ad w (L.length + 3)), .int 0, .int 0]) :: .inl (hz_tc w 2, 8, .inr (.inr (.inr (.inr (hz_pf w (L.length + 4) 5))))) :: .inl (hz_tc w 2, 2, .inr (.inr (.inr (.inr (hz_pf w (L.length + 116) 0))))) :: .inl (hz_tc w 1, 2, .inl (fun _ => 0)) :: hz_cq w 6) hO ?_ hz_cal_X7_init tw_2_76 (Nat.le_of_ble_eq_true rfl) rfl rfl (Nat.le_of_ble_eq_true rfl) ⟨(Nat.le_of_ble_eq_true rfl), (Nat.le_of_ble_eq_true rfl)⟩ rfl dX2_init_46 ?_
  · have hC := c_X7_init l w (L ++ (.inr (3, [.ref (hz_ad w (L.length + 1)), .ref (hz_ad w (L.length + 2)), .ref (hz_ad w (L.length + 3)), .int 0, .int 0]) :: .inl (hz_tc w 2, 8, .inr (.inr (.inr (.inr (hz_pf w (L.length + 4) 5))))) :: .inl (hz_tc w 2, 2, .inr (.inr (.inr (.inr (hz_pf w (L.length + 116) 0))))) :: .inl (hz_tc w 1, 2, .inl (fun _ => 0)) :: hz_cq w 5)) (b := L.length + 74) (by rw [List.length_append]; rfl)
    rw [List.append_assoc, List.append_assoc] at hC
    exact hz_CBto hC rfl (by rw [hb]; exact congrArg (fun z => L ++ (_ :: _ :: _ :: _ :: z)) (hz_cq_app (w := w) 5 rfl))
  refine hz_b_aast (j := 1) (jk := 74) (n := 8) hO rfl rfl (hz_in_e (by decide)) dX2_init_49 ?_
  refine hz_b_S (S1 := .inr (3, [.ref (hz_ad w (L.length + 1)), .ref (hz_ad w (L.length + 2)), .ref (hz_ad w (L.length + 3)), .int 0, .int 0]) :: .inl (hz_tc w 2, 8, .inr (.inr (.inr (.inr (hz_pf w (L.length + 4) 6))))) :: .inl (hz_tc w 2, 2, .inr (.inr (.inr (.inr (hz_pf w (L.length + 116) 0))))) :: .inl (hz_tc w 1, 2, .inl (fun _ => 0)) :: hz_cq w 6) (by rw [hz_pf_s (b := L.length + 4) (k := 5) (a := L.length + 74) rfl (by omega)]; rfl) ?_
  refine hz_b_iinc (k := 0) (v := (6 : Int32)) (ls1 := [(2, .int (6 : Int32)), (0, .ref (hz_ad w L.length)), (1, .ref (hz_ad w 1))]) hO dX2_init_50 rfl (by decide) (Nat.le_of_ble_eq_true rfl) rfl ?_
  refine hz_b_goto (tgt := 30) hO dX2_init_53 (by decide) ?_
  refine hz_b_iload_n hO dX2_init_30 rfl 0 rfl ?_
  refine hz_b_bipush (v := (8 : Int32)) hO dX2_init_31 (by decide) ?_
  refine hz_b_icmp_ge (tgt := 56) hO dX2_init_33 (by decide) (fun hc => absurd hc (by decide)) (fun _ => ?_)
  refine hz_b_aload_n hO dX2_init_36 rfl 1 rfl ?_
  refine hz_b_get (j := 0) (k := 0) hO hz_K_3 rfl rfl (Nat.le_of_ble_eq_true rfl) tw_2_77 rfl dX2_init_37 ?_
  refine hz_b_iload_n hO dX2_init_40 rfl 0 rfl ?_
  refine hz_b_new hO hz_K_7 tyX7 tyX7_ok tw_2_74 tw_1_141 tw_1_4 (fs := [.null, .null, .null, .null, .null, .null, .null, .null, .null, .null, .null, .null, .null, .null, .int 0, .int 0, .int 0, .int 0, .int 0, .int 0]) (by decide) ⟨(Nat.le_of_ble_eq_true rfl), (Nat.le_of_ble_eq_true rfl)⟩ dX2_init_41 ?_
  refine hz_b_S (S1 := .inr (3, [.ref (hz_ad w (L.length + 1)), .ref (hz_ad w (L.length + 2)), .ref (hz_ad w (L.length + 3)), .int 0, .int 0]) :: .inl (hz_tc w 2, 8, .inr (.inr (.inr (.inr (hz_pf w (L.length + 4) 6))))) :: .inl (hz_tc w 2, 2, .inr (.inr (.inr (.inr (hz_pf w (L.length + 116) 0))))) :: .inl (hz_tc w 1, 2, .inl (fun _ => 0)) :: (hz_cq w 6 ++ [.inr (7, [.null, .null, .null, .null, .null, .null, .null, .null, .null, .null, .null, .null, .null, .null, .int 0, .int 0, .int 0, .int 0, .int 0, .int 0])])) rfl ?_
  refine hz_b_st (st1 := [.ref (hz_ad w (L.length + 88)), .int (6 : Int32), .ref (hz_ad w (L.length + 1))]) rfl ?_
  refine hz_b_dup hO dX2_init_44 rfl ?_
  refine hz_b_aload_n hO dX2_init_45 rfl 2 rfl ?_
  refine hz_b_call (mc := 13) (ms := 185) (hc := 1) (x := hz_ad w (L.length + 88)) (as := [.ref (hz_ad w 1)]) (rest := [.ref (hz_ad w (L.length + 88)), .int (6 : Int32), .ref (hz_ad w (L.length + 1))]) (S1 := .inr (3, [.ref (hz_ad w (L.length + 1)), .ref (hz_ad w (L.length + 2)), .ref (hz_ad w (L.length + 3)), .int 0, .int 0]) :: .inl (hz_tc w 2, 8, .inr (.inr (.inr (.inr (hz_pf w (L.length + 4) 6))))) :: .inl (hz_tc w 2, 2, .inr (.inr (.inr (.inr (hz_pf w (L.length + 116) 0))))) :: .inl (hz_tc w 1, 2, .inl (fun _ => 0)) :: hz_cq w 7) hO ?_ hz_cal_X7_init tw_2_76 (Nat.le_of_ble_eq_true rfl) rfl rfl (Nat.le_of_ble_eq_true rfl) ⟨(Nat.le_of_ble_eq_true rfl), (Nat.le_of_ble_eq_true rfl)⟩ rfl dX2_init_46 ?_
  · have hC := c_X7_init l w (L ++ (.inr (3, [.ref (hz_ad w (L.length + 1)), .ref (hz_ad w (L.length + 2)), .ref (hz_ad w (L.length + 3)), .int 0, .int 0]) :: .inl (hz_tc w 2, 8, .inr (.inr (.inr (.inr (hz_pf w (L.length + 4) 6))))) :: .inl (hz_tc w 2, 2, .inr (.inr (.inr (.inr (hz_pf w (L.length + 116) 0))))) :: .inl (hz_tc w 1, 2, .inl (fun _ => 0)) :: hz_cq w 6)) (b := L.length + 88) (by rw [List.length_append]; rfl)
    rw [List.append_assoc, List.append_assoc] at hC
    exact hz_CBto hC rfl (by rw [hb]; exact congrArg (fun z => L ++ (_ :: _ :: _ :: _ :: z)) (hz_cq_app (w := w) 6 rfl))
  refine hz_b_aast (j := 1) (jk := 88) (n := 8) hO rfl rfl (hz_in_e (by decide)) dX2_init_49 ?_
  refine hz_b_S (S1 := .inr (3, [.ref (hz_ad w (L.length + 1)), .ref (hz_ad w (L.length + 2)), .ref (hz_ad w (L.length + 3)), .int 0, .int 0]) :: .inl (hz_tc w 2, 8, .inr (.inr (.inr (.inr (hz_pf w (L.length + 4) 7))))) :: .inl (hz_tc w 2, 2, .inr (.inr (.inr (.inr (hz_pf w (L.length + 116) 0))))) :: .inl (hz_tc w 1, 2, .inl (fun _ => 0)) :: hz_cq w 7) (by rw [hz_pf_s (b := L.length + 4) (k := 6) (a := L.length + 88) rfl (by omega)]; rfl) ?_
  refine hz_b_iinc (k := 0) (v := (7 : Int32)) (ls1 := [(2, .int (7 : Int32)), (0, .ref (hz_ad w L.length)), (1, .ref (hz_ad w 1))]) hO dX2_init_50 rfl (by decide) (Nat.le_of_ble_eq_true rfl) rfl ?_
  refine hz_b_goto (tgt := 30) hO dX2_init_53 (by decide) ?_
  refine hz_b_iload_n hO dX2_init_30 rfl 0 rfl ?_
  refine hz_b_bipush (v := (8 : Int32)) hO dX2_init_31 (by decide) ?_
  refine hz_b_icmp_ge (tgt := 56) hO dX2_init_33 (by decide) (fun hc => absurd hc (by decide)) (fun _ => ?_)
  refine hz_b_aload_n hO dX2_init_36 rfl 1 rfl ?_
  refine hz_b_get (j := 0) (k := 0) hO hz_K_3 rfl rfl (Nat.le_of_ble_eq_true rfl) tw_2_77 rfl dX2_init_37 ?_
  refine hz_b_iload_n hO dX2_init_40 rfl 0 rfl ?_
  refine hz_b_new hO hz_K_7 tyX7 tyX7_ok tw_2_74 tw_1_141 tw_1_4 (fs := [.null, .null, .null, .null, .null, .null, .null, .null, .null, .null, .null, .null, .null, .null, .int 0, .int 0, .int 0, .int 0, .int 0, .int 0]) (by decide) ⟨(Nat.le_of_ble_eq_true rfl), (Nat.le_of_ble_eq_true rfl)⟩ dX2_init_41 ?_
  refine hz_b_S (S1 := .inr (3, [.ref (hz_ad w (L.length + 1)), .ref (hz_ad w (L.length + 2)), .ref (hz_ad w (L.length + 3)), .int 0, .int 0]) :: .inl (hz_tc w 2, 8, .inr (.inr (.inr (.inr (hz_pf w (L.length + 4) 7))))) :: .inl (hz_tc w 2, 2, .inr (.inr (.inr (.inr (hz_pf w (L.length + 116) 0))))) :: .inl (hz_tc w 1, 2, .inl (fun _ => 0)) :: (hz_cq w 7 ++ [.inr (7, [.null, .null, .null, .null, .null, .null, .null, .null, .null, .null, .null, .null, .null, .null, .int 0, .int 0, .int 0, .int 0, .int 0, .int 0])])) rfl ?_
  refine hz_b_st (st1 := [.ref (hz_ad w (L.length + 102)), .int (7 : Int32), .ref (hz_ad w (L.length + 1))]) rfl ?_
  refine hz_b_dup hO dX2_init_44 rfl ?_
  refine hz_b_aload_n hO dX2_init_45 rfl 2 rfl ?_
  refine hz_b_call (mc := 13) (ms := 185) (hc := 1) (x := hz_ad w (L.length + 102)) (as := [.ref (hz_ad w 1)]) (rest := [.ref (hz_ad w (L.length + 102)), .int (7 : Int32), .ref (hz_ad w (L.length + 1))]) (S1 := .inr (3, [.ref (hz_ad w (L.length + 1)), .ref (hz_ad w (L.length + 2)), .ref (hz_ad w (L.length + 3)), .int 0, .int 0]) :: .inl (hz_tc w 2, 8, .inr (.inr (.inr (.inr (hz_pf w (L.length + 4) 7))))) :: .inl (hz_tc w 2, 2, .inr (.inr (.inr (.inr (hz_pf w (L.length + 116) 0))))) :: .inl (hz_tc w 1, 2, .inl (fun _ => 0)) :: hz_cq w 8) hO ?_ hz_cal_X7_init tw_2_76 (Nat.le_of_ble_eq_true rfl) rfl rfl (Nat.le_of_ble_eq_true rfl) ⟨(Nat.le_of_ble_eq_true rfl), (Nat.le_of_ble_eq_true rfl)⟩ rfl dX2_init_46 ?_
  · have hC := c_X7_init l w (L ++ (.inr (3, [.ref (hz_ad w (L.length + 1)), .ref (hz_ad w (L.length + 2)), .ref (hz_ad w (L.length + 3)), .int 0, .int 0]) :: .inl (hz_tc w 2, 8, .inr (.inr (.inr (.inr (hz_pf w (L.length + 4) 7))))) :: .inl (hz_tc w 2, 2, .inr (.inr (.inr (.inr (hz_pf w (L.length + 116) 0))))) :: .inl (hz_tc w 1, 2, .inl (fun _ => 0)) :: hz_cq w 7)) (b := L.length + 102) (by rw [List.length_append]; rfl)
    rw [List.append_assoc, List.append_assoc] at hC
    exact hz_CBto hC rfl (by rw [hb]; exact congrArg (fun z => L ++ (_ :: _ :: _ :: _ :: z)) (hz_cq_app (w := w) 7 rfl))
  refine hz_b_aast (j := 1) (jk := 102) (n := 8) hO rfl rfl (hz_in_e (by decide)) dX2_init_49 ?_
  refine hz_b_S (S1 := .inr (3, [.ref (hz_ad w (L.length + 1)), .ref (hz_ad w (L.length + 2)), .ref (hz_ad w (L.length + 3)), .int 0, .int 0]) :: .inl (hz_tc w 2, 8, .inr (.inr (.inr (.inr (hz_pf w (L.length + 4) 8))))) :: .inl (hz_tc w 2, 2, .inr (.inr (.inr (.inr (hz_pf w (L.length + 116) 0))))) :: .inl (hz_tc w 1, 2, .inl (fun _ => 0)) :: hz_cq w 8) (by rw [hz_pf_s (b := L.length + 4) (k := 7) (a := L.length + 102) rfl (by omega)]; rfl) ?_
  refine hz_b_iinc (k := 0) (v := (8 : Int32)) (ls1 := [(2, .int (8 : Int32)), (0, .ref (hz_ad w L.length)), (1, .ref (hz_ad w 1))]) hO dX2_init_50 rfl (by decide) (Nat.le_of_ble_eq_true rfl) rfl ?_
  refine hz_b_goto (tgt := 30) hO dX2_init_53 (by decide) ?_
  refine hz_b_iload_n hO dX2_init_30 rfl 0 rfl ?_
  refine hz_b_bipush (v := (8 : Int32)) hO dX2_init_31 (by decide) ?_
  refine hz_b_icmp_ge (tgt := 56) hO dX2_init_33 (by decide) (fun _ => ?_) (fun hc => absurd (by decide) hc)
  refine hz_b_iconst (v := (0 : Int32)) hO dX2_init_56 (by decide) ?_
  refine hz_b_istore_n (ls1 := [(2, .int (0 : Int32)), (0, .ref (hz_ad w L.length)), (1, .ref (hz_ad w 1))]) hO dX2_init_57 rfl (Nat.le_of_ble_eq_true rfl) rfl ?_
  refine hz_b_iload_n hO dX2_init_58 rfl 0 rfl ?_
  refine hz_b_iconst (v := (2 : Int32)) hO dX2_init_59 (by decide) ?_
  refine hz_b_icmp_ge (tgt := 83) hO dX2_init_60 (by decide) (fun hc => absurd hc (by decide)) (fun _ => ?_)
  refine hz_b_aload_n hO dX2_init_63 rfl 1 rfl ?_
  refine hz_b_get (j := 0) (k := 1) hO hz_K_3 rfl rfl (Nat.le_of_ble_eq_true rfl) tw_2_78 rfl dX2_init_64 ?_
  refine hz_b_iload_n hO dX2_init_67 rfl 0 rfl ?_
  refine hz_b_new hO hz_K_7 tyX7 tyX7_ok tw_2_74 tw_1_141 tw_1_4 (fs := [.null, .null, .null, .null, .null, .null, .null, .null, .null, .null, .null, .null, .null, .null, .int 0, .int 0, .int 0, .int 0, .int 0, .int 0]) (by decide) ⟨(Nat.le_of_ble_eq_true rfl), (Nat.le_of_ble_eq_true rfl)⟩ dX2_init_68 ?_
  refine hz_b_S (S1 := .inr (3, [.ref (hz_ad w (L.length + 1)), .ref (hz_ad w (L.length + 2)), .ref (hz_ad w (L.length + 3)), .int 0, .int 0]) :: .inl (hz_tc w 2, 8, .inr (.inr (.inr (.inr (hz_pf w (L.length + 4) 8))))) :: .inl (hz_tc w 2, 2, .inr (.inr (.inr (.inr (hz_pf w (L.length + 116) 0))))) :: .inl (hz_tc w 1, 2, .inl (fun _ => 0)) :: (hz_cq w 8 ++ [.inr (7, [.null, .null, .null, .null, .null, .null, .null, .null, .null, .null, .null, .null, .null, .null, .int 0, .int 0, .int 0, .int 0, .int 0, .int 0])])) rfl ?_
  refine hz_b_st (st1 := [.ref (hz_ad w (L.length + 116)), .int (0 : Int32), .ref (hz_ad w (L.length + 2))]) rfl ?_
  refine hz_b_dup hO dX2_init_71 rfl ?_
  refine hz_b_aload_n hO dX2_init_72 rfl 2 rfl ?_
  refine hz_b_call (mc := 13) (ms := 185) (hc := 1) (x := hz_ad w (L.length + 116)) (as := [.ref (hz_ad w 1)]) (rest := [.ref (hz_ad w (L.length + 116)), .int (0 : Int32), .ref (hz_ad w (L.length + 2))]) (S1 := .inr (3, [.ref (hz_ad w (L.length + 1)), .ref (hz_ad w (L.length + 2)), .ref (hz_ad w (L.length + 3)), .int 0, .int 0]) :: .inl (hz_tc w 2, 8, .inr (.inr (.inr (.inr (hz_pf w (L.length + 4) 8))))) :: .inl (hz_tc w 2, 2, .inr (.inr (.inr (.inr (hz_pf w (L.length + 116) 0))))) :: .inl (hz_tc w 1, 2, .inl (fun _ => 0)) :: hz_cq w 9) hO ?_ hz_cal_X7_init tw_2_76 (Nat.le_of_ble_eq_true rfl) rfl rfl (Nat.le_of_ble_eq_true rfl) ⟨(Nat.le_of_ble_eq_true rfl), (Nat.le_of_ble_eq_true rfl)⟩ rfl dX2_init_73 ?_
  · have hC := c_X7_init l w (L ++ (.inr (3, [.ref (hz_ad w (L.length + 1)), .ref (hz_ad w (L.length + 2)), .ref (hz_ad w (L.length + 3)), .int 0, .int 0]) :: .inl (hz_tc w 2, 8, .inr (.inr (.inr (.inr (hz_pf w (L.length + 4) 8))))) :: .inl (hz_tc w 2, 2, .inr (.inr (.inr (.inr (hz_pf w (L.length + 116) 0))))) :: .inl (hz_tc w 1, 2, .inl (fun _ => 0)) :: hz_cq w 8)) (b := L.length + 116) (by rw [List.length_append]; rfl)
    rw [List.append_assoc, List.append_assoc] at hC
    exact hz_CBto hC rfl (by rw [hb]; exact congrArg (fun z => L ++ (_ :: _ :: _ :: _ :: z)) (hz_cq_app (w := w) 8 rfl))
  refine hz_b_aast (j := 2) (jk := 116) (n := 2) hO rfl rfl (hz_in_e (by decide)) dX2_init_76 ?_
  refine hz_b_S (S1 := .inr (3, [.ref (hz_ad w (L.length + 1)), .ref (hz_ad w (L.length + 2)), .ref (hz_ad w (L.length + 3)), .int 0, .int 0]) :: .inl (hz_tc w 2, 8, .inr (.inr (.inr (.inr (hz_pf w (L.length + 4) 8))))) :: .inl (hz_tc w 2, 2, .inr (.inr (.inr (.inr (hz_pf w (L.length + 116) 1))))) :: .inl (hz_tc w 1, 2, .inl (fun _ => 0)) :: hz_cq w 9) (by rw [hz_pf_s (b := L.length + 116) (k := 0) (a := L.length + 116) rfl (by omega)]; rfl) ?_
  refine hz_b_iinc (k := 0) (v := (1 : Int32)) (ls1 := [(2, .int (1 : Int32)), (0, .ref (hz_ad w L.length)), (1, .ref (hz_ad w 1))]) hO dX2_init_77 rfl (by decide) (Nat.le_of_ble_eq_true rfl) rfl ?_
  refine hz_b_goto (tgt := 58) hO dX2_init_80 (by decide) ?_
  refine hz_b_iload_n hO dX2_init_58 rfl 0 rfl ?_
  refine hz_b_iconst (v := (2 : Int32)) hO dX2_init_59 (by decide) ?_
  refine hz_b_icmp_ge (tgt := 83) hO dX2_init_60 (by decide) (fun hc => absurd hc (by decide)) (fun _ => ?_)
  refine hz_b_aload_n hO dX2_init_63 rfl 1 rfl ?_
  refine hz_b_get (j := 0) (k := 1) hO hz_K_3 rfl rfl (Nat.le_of_ble_eq_true rfl) tw_2_78 rfl dX2_init_64 ?_
  refine hz_b_iload_n hO dX2_init_67 rfl 0 rfl ?_
  refine hz_b_new hO hz_K_7 tyX7 tyX7_ok tw_2_74 tw_1_141 tw_1_4 (fs := [.null, .null, .null, .null, .null, .null, .null, .null, .null, .null, .null, .null, .null, .null, .int 0, .int 0, .int 0, .int 0, .int 0, .int 0]) (by decide) ⟨(Nat.le_of_ble_eq_true rfl), (Nat.le_of_ble_eq_true rfl)⟩ dX2_init_68 ?_
  refine hz_b_S (S1 := .inr (3, [.ref (hz_ad w (L.length + 1)), .ref (hz_ad w (L.length + 2)), .ref (hz_ad w (L.length + 3)), .int 0, .int 0]) :: .inl (hz_tc w 2, 8, .inr (.inr (.inr (.inr (hz_pf w (L.length + 4) 8))))) :: .inl (hz_tc w 2, 2, .inr (.inr (.inr (.inr (hz_pf w (L.length + 116) 1))))) :: .inl (hz_tc w 1, 2, .inl (fun _ => 0)) :: (hz_cq w 9 ++ [.inr (7, [.null, .null, .null, .null, .null, .null, .null, .null, .null, .null, .null, .null, .null, .null, .int 0, .int 0, .int 0, .int 0, .int 0, .int 0])])) rfl ?_
  refine hz_b_st (st1 := [.ref (hz_ad w (L.length + 130)), .int (1 : Int32), .ref (hz_ad w (L.length + 2))]) rfl ?_
  refine hz_b_dup hO dX2_init_71 rfl ?_
  refine hz_b_aload_n hO dX2_init_72 rfl 2 rfl ?_
  refine hz_b_call (mc := 13) (ms := 185) (hc := 1) (x := hz_ad w (L.length + 130)) (as := [.ref (hz_ad w 1)]) (rest := [.ref (hz_ad w (L.length + 130)), .int (1 : Int32), .ref (hz_ad w (L.length + 2))]) (S1 := .inr (3, [.ref (hz_ad w (L.length + 1)), .ref (hz_ad w (L.length + 2)), .ref (hz_ad w (L.length + 3)), .int 0, .int 0]) :: .inl (hz_tc w 2, 8, .inr (.inr (.inr (.inr (hz_pf w (L.length + 4) 8))))) :: .inl (hz_tc w 2, 2, .inr (.inr (.inr (.inr (hz_pf w (L.length + 116) 1))))) :: .inl (hz_tc w 1, 2, .inl (fun _ => 0)) :: hz_cq w 10) hO ?_ hz_cal_X7_init tw_2_76 (Nat.le_of_ble_eq_true rfl) rfl rfl (Nat.le_of_ble_eq_true rfl) ⟨(Nat.le_of_ble_eq_true rfl), (Nat.le_of_ble_eq_true rfl)⟩ rfl dX2_init_73 ?_
  · have hC := c_X7_init l w (L ++ (.inr (3, [.ref (hz_ad w (L.length + 1)), .ref (hz_ad w (L.length + 2)), .ref (hz_ad w (L.length + 3)), .int 0, .int 0]) :: .inl (hz_tc w 2, 8, .inr (.inr (.inr (.inr (hz_pf w (L.length + 4) 8))))) :: .inl (hz_tc w 2, 2, .inr (.inr (.inr (.inr (hz_pf w (L.length + 116) 1))))) :: .inl (hz_tc w 1, 2, .inl (fun _ => 0)) :: hz_cq w 9)) (b := L.length + 130) (by rw [List.length_append]; rfl)
    rw [List.append_assoc, List.append_assoc] at hC
    exact hz_CBto hC rfl (by rw [hb]; exact congrArg (fun z => L ++ (_ :: _ :: _ :: _ :: z)) (hz_cq_app (w := w) 9 rfl))
  refine hz_b_aast (j := 2) (jk := 130) (n := 2) hO rfl rfl (hz_in_e (by decide)) dX2_init_76 ?_
  refine hz_b_S (S1 := .inr (3, [.ref (hz_ad w (L.length + 1)), .ref (hz_ad w (L.length + 2)), .ref (hz_ad w (L.length + 3)), .int 0, .int 0]) :: .inl (hz_tc w 2, 8, .inr (.inr (.inr (.inr (hz_pf w (L.length + 4) 8))))) :: .inl (hz_tc w 2, 2, .inr (.inr (.inr (.inr (hz_pf w (L.length + 116) 2))))) :: .inl (hz_tc w 1, 2, .inl (fun _ => 0)) :: hz_cq w 10) (by rw [hz_pf_s (b := L.length + 116) (k := 1) (a := L.length + 130) rfl (by omega)]; rfl) ?_
  refine hz_b_iinc (k := 0) (v := (2 : Int32)) (ls1 := [(2, .int (2 : Int32)), (0, .ref (hz_ad w L.length)), (1, .ref (hz_ad w 1))]) hO dX2_init_77 rfl (by decide) (Nat.le_of_ble_eq_true rfl) rfl ?_
  refine hz_b_goto (tgt := 58) hO dX2_init_80 (by decide) ?_
  refine hz_b_iload_n hO dX2_init_58 rfl 0 rfl ?_
  refine hz_b_iconst (v := (2 : Int32)) hO dX2_init_59 (by decide) ?_
  refine hz_b_icmp_ge (tgt := 83) hO dX2_init_60 (by decide) (fun _ => ?_) (fun hc => absurd (by decide) hc)
  refine hz_b_S (S1 := hz_cs w ((hz_SH.drop 32).take 144)) (by rw [hb]; exact hz_hist_end w) ?_
  exact hz_b_vret hO dX2_init_83
