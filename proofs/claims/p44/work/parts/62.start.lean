theorem tw_1_31 : (Jvm.Cond.classLink "HotStepsLaw" (30 : Nat) "HotSteps") ∈ hz_TB := hz_tb (hz_t1 _ (List.mem_of_getElem? (i := 31) rfl)) rfl
theorem tw_1_32 : (Jvm.Cond.instantiable "HotSteps" (10 : Nat)) ∈ hz_TB := hz_tb (hz_t1 _ (List.mem_of_getElem? (i := 32) rfl)) rfl
theorem tw_1_33 : (Jvm.Cond.methodLink "HotStepsLaw" (325 : Nat) ({ cls := "HotSteps", name := "<init>", desc := "()V" } : Jvm.MethodName)) ∈ hz_TB := hz_tb (hz_t1 _ (List.mem_of_getElem? (i := 33) rfl)) rfl
theorem tw_3_172 : (Jvm.Cond.classLink "HotStepsLaw" (52 : Nat) "HotStepsLaw$Own") ∈ hz_TB := hz_tb (hz_t3 _ (List.mem_of_getElem? (i := 172) rfl)) rfl
theorem tw_6_101 : (Jvm.Cond.methodLink "HotStepsLaw" (327 : Nat) ({ cls := "HotStepsLaw", name := "begins", desc := "(LHotSteps;LHotStepsLaw$Own;[I)Z" } : Jvm.MethodName)) ∈ hz_TB := hz_tb (hz_t6 _ (List.mem_of_getElem? (i := 101) rfl)) rfl
theorem hz_room {R R1 : Room} (hf : R1.frames ≤ R.frames) (hl : R1.locals ≤ R.locals) (hc : R1.cells ≤ R.cells) (hs : R1.slots ≤ R.slots) {s : State} {pl : Platform} (h : s.hasRoom pl R = true) : s.hasRoom pl R1 = true := by
  simp only [State.hasRoom, Bool.and_eq_true, decide_eq_true_eq] at h ⊢
  obtain ⟨⟨⟨⟨h1, h2, h3, h4, h5, h6⟩, h7⟩, h8⟩, h9⟩ := h
  exact ⟨⟨⟨⟨by omega, by omega, by omega, by omega, by omega, h6⟩, by omega⟩, by omega⟩, h9⟩
theorem hz_Wroom {p : Program} {l : Launch} {e : Env} {R R1 : Room} {s : State} {m : MethodId} {args : Array Value} {below : List Frame} {meth : Method} {c : Code} {H : Heap} {locs : List Loc} {cells slots : Nat} {Q : State → Prop} {g : JFrame} (hf : R1.frames ≤ R.frames) (hl : R1.locals ≤ R.locals) (hc : R1.cells ≤ R.cells) (hs : R1.slots ≤ R.slots) (kk : W p l e R1 s m args below meth c H locs cells slots Q g) : W p l e R s m args below meth c H locs cells slots Q g :=
  fun T hT X => kk T hT { X with room := hz_room hf hl hc hs X.room }
set_option maxRecDepth 100000 in
theorem hz_m3_wl (w : hz_C) (M : hz_M) : hz_wl w 190 M ++ [.inl (hz_tc w 4, 40, .inr (.inr (.inr (.inr (fun _ => none)))))] = hz_wl w 191 (hz_m3 M) := by
  have h1 : hz_SH.take 191 = hz_SH.take 190 ++ (hz_SH.drop 190).take 1 := by rw [← List.take_add]
  have hlen : hz_SH.length = 767 := by
    rw [hz_SH, List.length_append, List.length_map, List.length_range, hz_SHc_len]
  have h2 : (hz_SH.take 190).length = 190 := by
    rw [List.length_take, hlen]
    rfl
  have h3 : (hz_SH.take 190).mapIdx (fun i sh => hz_cell w (hz_m3 M i) sh) = hz_wl w 190 M := by
    apply List.ext_getElem?
    intro j
    simp only [hz_wl, List.getElem?_mapIdx]
    by_cases hj : j < 190
    · have e1 : hz_m3 M j = M j := by
        funext b
        simp only [hz_m3]
        rw [if_neg (by omega)]
      rw [e1]
    · rw [List.getElem?_eq_none (by rw [h2]; omega)]
      rfl
  have e0 : hz_m3 M 190 = fun _ => 0 := by
    funext b
    simp [hz_m3]
  have h4 : (hz_SH.drop 190).take 1 = [.inr (.inr (.inr (.inr 40)))] := by
    apply List.ext_getElem?
    intro j
    rw [List.getElem?_take]
    by_cases hj : j < 1
    · rw [if_pos hj, List.getElem?_drop, show 190 + j = 190 by omega, hz_sh_190, show j = 0 by omega]
      rfl
    · rw [if_neg hj, List.getElem?_eq_none (by simp; omega)]
  rw [show hz_wl w 191 (hz_m3 M) = (hz_SH.take 191).mapIdx (fun i sh => hz_cell w (hz_m3 M i) sh) from rfl, h1, List.mapIdx_append, h3, h2, h4]
  refine congrArg (fun z => hz_wl w 190 M ++ z) ?_
  simp only [List.mapIdx_cons, List.mapIdx_nil, Nat.zero_add, e0]
  rfl
set_option maxRecDepth 100000 in
set_option maxHeartbeats 4000000 in
theorem hz_law {p : Program} {e : Env} {s : State} {m : MethodId} {below : List Frame} {meth : Method} {c : Code} (l : Launch) {b L : Nat} {xs : Nat → Int32} (hL : L ≤ 260) (C0 : lw_At p s m meth c b L xs) {r0 rE : Int32} {M0 ME : hz_M} (h0 : f_X10_init (fun _ _ => 0) = some (r0, M0)) (h : f_law xs L (hz_mo 178 M0) = some (rE, ME)) : W p l e room_1 s m #[Value.ref b] below meth c s.heap [] 0 0 (lw_Z below #[Value.ref b] s) (entryFrame m ([Value.ref b] : List Value).toArray 10) := by
  obtain ⟨hx, hb, hr, hml, hown, hts, hX, hbl, hlocks, hgv⟩ := id C0
  obtain ⟨w, hXw, hK, hsc, hscb, had, hAi⟩ := hz_entry hL hts hgv hX hbl
  have hO : hz_Ok p s m #[Value.ref b] meth c w cL_law 10 "HotStepsLaw" (some .boolean) := ⟨⟨hx, hb, hml, hown, fun q hq => hts q (List.mem_filter.mp hq).1⟩, hr, hlocks, hXw, fun q hq => (hAi q).mpr hq⟩
  refine hz_Wroom (R1 := hz_rm 10 ((600086, 7301442), (0, 0))) (by decide) (by decide) (by decide) (by decide) ?_
  rw [lg_entry_eq]
  have hl9 := lv_entry ([.ref b]) (n := 10) (Nat.le_of_ble_eq_true rfl)
  have hb0 : b = hz_scb w := hscb.symm
  have key : hz_B p l e 10 ((600086, 7301442), (0, 0)) s m #[Value.ref b] below meth c w 10 (lw_Z below #[Value.ref b] s) [] [] 0 [(0, .ref b)] [] := by
    obtain ⟨r1, M1, h1, h⟩ := hz_ct_e h
    obtain ⟨hr1, h⟩ := hz_gd_e h
    refine hz_b_new hO hz_K_10 tyX10 tyX10_ok tw_1_31 tw_1_32 tw_1_1 (fs := [.null, .null, .null, .null, .null, .null, .null, .null, .null, .int 0]) (by decide) ⟨(Nat.le_of_ble_eq_true rfl), (Nat.le_of_ble_eq_true rfl)⟩ dL_law_0 ?_
    refine hz_b_S (S1 := [.inr (10, [.null, .null, .null, .null, .null, .null, .null, .null, .null, .int 0])]) rfl ?_
    refine hz_b_st (st1 := [.ref (hz_ad w 0)]) rfl ?_
    refine hz_b_dup hO dL_law_3 rfl ?_
    refine hz_b_callG (as := []) (rest := [.ref (hz_ad w 0)]) hO (c_X10_init l w h0) hz_cal_X10_init tw_1_33 (Nat.le_of_ble_eq_true rfl) rfl rfl (Nat.le_of_ble_eq_true rfl) ⟨(Nat.le_of_ble_eq_true rfl), (Nat.le_of_ble_eq_true rfl)⟩ dL_law_4 ?_
    refine hz_astore_n (ls1 := [(1, .ref (hz_ad w 0)), (0, .ref b)]) hO dL_law_7 rfl (Nat.le_of_ble_eq_true rfl) rfl ?_
    refine hz_g_toB had (N1 := 177) rfl hz_sh_177 (by decide) rfl ?_
    have e1 : (hz_wl w 178 M0).length = 178 := hz_wl_len (by decide)
    refine hz_b_new hO hz_K_11 tyX11 tyX11_ok tw_3_172 tw_3_173 tw_1_16 (fs := [.int 0, .int 0, .int 0, .int 0, .int 0, .int 0, .int 0, .int 0, .int 0, .int 0, .int 0, .int 0, .null, .null, .null, .null, .null, .null, .null, .null, .null, .null, .null, .int 0]) (by decide) ⟨(Nat.le_of_ble_eq_true rfl), (Nat.le_of_ble_eq_true rfl)⟩ dL_law_8 ?_
    refine hz_b_S (S1 := [.inr (11, [.int 0, .int 0, .int 0, .int 0, .int 0, .int 0, .int 0, .int 0, .int 0, .int 0, .int 0, .int 0, .null, .null, .null, .null, .null, .null, .null, .null, .null, .null, .null, .int 0])]) rfl ?_
    refine hz_b_st (st1 := [.ref (hz_ad w 178)]) (by rw [e1, List.length_nil]) ?_
    refine hz_b_dup hO dL_law_11 rfl ?_
    refine hz_b_callN (S1 := hz_oc w 178) (as := []) (rest := [.ref (hz_ad w 178)]) hO (c_X11_init l w (hz_wl w 178 M0) e1) hz_cal_X11_init (List.mem_of_getElem? (i := 2) rfl) (Nat.le_of_ble_eq_true rfl) rfl rfl (Nat.le_of_ble_eq_true rfl) ⟨(Nat.le_of_ble_eq_true rfl), (Nat.le_of_ble_eq_true rfl)⟩ rfl dL_law_12 ?_
    refine hz_b_toG (N := 190) (M := hz_mo 178 M0) (hz_oc_wl (by decide) (hz_own_0 (by decide))) ?_
    refine hz_astore_n (ls1 := [(2, .ref (hz_ad w 178)), (1, .ref (hz_ad w 0)), (0, .ref b)]) hO dL_law_15 rfl (Nat.le_of_ble_eq_true rfl) rfl ?_
    refine hz_aload_n hO dL_law_16 rfl 1 rfl ?_
    refine hz_aload_n hO dL_law_17 rfl 0 rfl ?_
    refine hz_aload_n hO dL_law_18 rfl 2 rfl ?_
    refine hz_callSiM (hc := 9) (mc := 100) (ms := 41500) (as := [.ref (hz_ad w 0), .ref (hz_ad w 178), .ref b]) (rest := []) hO (by rw [hb0]; exact c_L_begins l w (by decide) (hz_own_0 (by decide)) hsc h1) hz_cal_L_begins tw_6_101 (Nat.le_of_ble_eq_true rfl) rfl rfl (Nat.le_of_ble_eq_true rfl) ⟨(Nat.le_of_ble_eq_true rfl), (Nat.le_of_ble_eq_true rfl)⟩ dL_law_19 ?_
    refine hz_if_ne (tgt := 27) hO dL_law_22 (by decide) (fun _ => ?_) (fun hc => absurd hc (hz_nz_e hr1))
    refine hz_retell hO (fun w1 k hk hO1 hw1 had1 => ?_)
    have hk290 : k ≤ 290 := hk
    rw [hb0, ← hw1.2.2.1, ← had1 0 (by decide), ← had1 178 (by decide)]
    have hb1 : hz_scb w1 = b := hw1.2.2.1.trans hscb
    rw [hb1]
    refine hz_h_bipush (v := (40 : Int32)) hO1 dL_law_27 (by decide) ?_
    refine hz_h_toB (by decide) ?_
    have e2 : (hz_wl w1 190 M1).length = 190 := hz_wl_len (by decide)
    refine hz_b_newq6 (n := 40) (t := 4) hO1 (by decide) rfl hO1.2.2.2.1.2.2.2.2.2.2.2.2.2.2.2.2.1 tw_3_172 (by decide) (by decide) (Nat.le_of_ble_eq_true rfl) ⟨by show k + 1 ≤ 600086; omega, (Nat.le_of_ble_eq_true rfl)⟩ dL_law_29 ?_
    refine hz_b_st (st1 := [.ref (hz_ad w1 190)]) (by rw [e2, List.length_nil]) ?_
    refine hz_b_toH (N := 191) (M := hz_m3 M1) (by decide) (hz_m3_wl w1 M1) ?_
    refine hz_h_astore_n (ls1 := [(3, .ref (hz_ad w1 190)), (2, .ref (hz_ad w1 178)), (1, .ref (hz_ad w1 0)), (0, .ref b)]) hO1 dL_law_32 rfl (Nat.le_of_ble_eq_true rfl) rfl ?_
    refine hz_h_iconst (v := (0 : Int32)) hO1 dL_law_33 (by decide) ?_
    refine hz_h_istore (ls1 := [(4, .int 0), (3, .ref (hz_ad w1 190)), (2, .ref (hz_ad w1 178)), (1, .ref (hz_ad w1 0)), (0, .ref b)]) hO1 dL_law_34 (Nat.le_of_ble_eq_true rfl) rfl ?_
    refine hz_h_iconst (v := (0 : Int32)) hO1 dL_law_36 (by decide) ?_
    refine hz_h_istore (ls1 := [(5, .int 0), (4, .int 0), (3, .ref (hz_ad w1 190)), (2, .ref (hz_ad w1 178)), (1, .ref (hz_ad w1 0)), (0, .ref b)]) hO1 dL_law_37 (Nat.le_of_ble_eq_true rfl) rfl ?_
    refine hz_h_iconst (v := (0 : Int32)) hO1 dL_law_39 (by decide) ?_
    refine hz_h_istore (ls1 := [(6, .int 0), (5, .int 0), (4, .int 0), (3, .ref (hz_ad w1 190)), (2, .ref (hz_ad w1 178)), (1, .ref (hz_ad w1 0)), (0, .ref b)]) hO1 dL_law_40 (Nat.le_of_ble_eq_true rfl) rfl ?_
    refine hz_h_ls (ls1 := [(0, .ref (hz_scb w1)), (1, .ref (hz_ad w1 0)), (2, .ref (hz_ad w1 178)), (3, .ref (hz_ad w1 190)), (4, .int (nI 0)), (5, .int 0), (6, .int (nI 0))]) [6, 5, 4, 3, 2, 1, 0] (by rw [hb1]; rfl) ?_
    have hsc1 : hz_scx w1 = xs ∧ hz_scl w1 = L := ⟨hw1.1.trans hsc.1, hw1.2.1.trans hsc.2⟩
    exact g_lawL hO1 hsc1 (fun q hq => (hAi q).mp (by rw [← hw1.2.2.2]; exact hq)) 40 0 178 0 0 (hz_m3 M1) (k + 1) (3741 + 41500 + 40) (by decide) (by decide) (hz_own_0 (by decide)) (by omega) (by decide) h
  exact key ⟨Nat.zero_le _, Nat.zero_le _⟩ s.heap [] _ ⟨⟨(fun k q h => by simp [hz_bw] at h), hK, ⟨(fun i j p q h => by simp [hz_bw] at h), (fun k q h => by simp [hz_bw] at h)⟩, (fun q hq => (hAi q).mpr hq), (fun i => by show hz_ad w (0 + i) = _; rw [Nat.zero_add]; exact had i)⟩, rfl⟩ va_S.rf hl9
