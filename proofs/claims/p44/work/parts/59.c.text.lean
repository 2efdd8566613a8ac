theorem tw_6_107 : (Jvm.Cond.methodLink "HotStepsLaw" (303 : Nat) ({ cls := "java/lang/StringBuilder", name := "<init>", desc := "(Ljava/lang/String;)V" } : Jvm.MethodName)) ∈ hz_TB := hz_tb (hz_t6 _ (List.mem_of_getElem? (i := 107) rfl)) rfl
theorem tw_6_108 : (Jvm.Cond.instanceMethod ({ cls := "java/lang/StringBuilder", name := "<init>", desc := "(Ljava/lang/String;)V" } : Jvm.MethodName)) ∈ hz_TB := hz_tb (hz_t6 _ (List.mem_of_getElem? (i := 108) rfl)) rfl
theorem tw_6_236 : (Jvm.Cond.methodLink "HotStepsLaw" (306 : Nat) ({ cls := "java/lang/StringBuilder", name := "append", desc := "(I)Ljava/lang/StringBuilder;" } : Jvm.MethodName)) ∈ hz_TB := hz_tb (hz_t6 _ (List.mem_of_getElem? (i := 236) rfl)) rfl
theorem tw_6_237 : (Jvm.Cond.instanceMethod ({ cls := "java/lang/StringBuilder", name := "append", desc := "(I)Ljava/lang/StringBuilder;" } : Jvm.MethodName)) ∈ hz_TB := hz_tb (hz_t6 _ (List.mem_of_getElem? (i := 237) rfl)) rfl
theorem tw_6_238 : (Jvm.Cond.selects "java/lang/StringBuilder" ({ cls := "java/lang/StringBuilder", name := "append", desc := "(I)Ljava/lang/StringBuilder;" } : Jvm.MethodName) ({ cls := "java/lang/StringBuilder", name := "append", desc := "(I)Ljava/lang/StringBuilder;" } : Jvm.MethodName)) ∈ hz_TB := hz_tb (hz_t6 _ (List.mem_of_getElem? (i := 238) rfl)) rfl
theorem tw_7_36 : (Jvm.Cond.methodLink "HotStepsLaw" (311 : Nat) ({ cls := "HotStepsLaw", name := "name", desc := "(I)Ljava/lang/String;" } : Jvm.MethodName)) ∈ hz_TB := hz_tb (hz_t7 _ (List.mem_of_getElem? (i := 36) rfl)) rfl
theorem tw_7_37 : (Jvm.Cond.static ({ cls := "HotStepsLaw", name := "name", desc := "(I)Ljava/lang/String;" } : Jvm.MethodName)) ∈ hz_TB := hz_tb (hz_t7 _ (List.mem_of_getElem? (i := 37) rfl)) rfl
theorem tw_7_103 : (Jvm.Cond.methodLink "HotStepsLaw" (315 : Nat) ({ cls := "HotStepsLaw", name := "feeds", desc := "(LHotSteps;Ljava/lang/String;)Z" } : Jvm.MethodName)) ∈ hz_TB := hz_tb (hz_t7 _ (List.mem_of_getElem? (i := 103) rfl)) rfl
theorem hx_cal_J4_append_bf812 : hz_CalXV yJ4_append_bf812 cJ4_append_bf812 2 (some (.object "java/lang/StringBuilder")) 1 := ⟨⟨tw_6_239, tw_1_18, ⟨by decide, by decide, by decide +kernel⟩, Nat.le_of_ble_eq_true rfl⟩, tw_6_237⟩
theorem hx_cal_J4_init_a7421 : hz_CalXV yJ4_init_a7421 cJ4_init_a7421 2 none 1 := ⟨⟨tw_6_109, tw_1_18, ⟨by decide, by decide, by decide +kernel⟩, Nat.le_of_ble_eq_true rfl⟩, tw_6_108⟩
theorem hx_cal_L_name : hz_CalXS yL_name cL_name 1 (some (.object "java/lang/String")) 1 := ⟨⟨tw_7_38, tw_1_0, ⟨by decide, by decide, by decide +kernel⟩, Nat.le_of_ble_eq_true rfl⟩, tw_7_37⟩
/-! THE TEXT THAT begins LAYS: its length and its characters -/
abbrev hz_TX : Type := Nat × (Nat → Nat)
def hz_tS (x : hz_TX) (n : Nat) (s : Nat → Nat) : hz_TX := (x.1 + n, sb_cat x.2 x.1 s)
def hz_tI (x : hz_TX) (v : Nat) : hz_TX := hz_tS x (hz_dg v) (hz_dec v)
def hz_tC (x : hz_TX) (c0 : Nat) : hz_TX := hz_tS x 1 (fun _ => c0)
def hz_asc (x : hz_TX) : Prop := ∀ j, j < x.1 → x.2 j < 128
def hz_bathT : Nat → Nat := fun i => [98, 97, 116, 104, 32].getD i 0
def hz_gueT : Nat → Nat := fun i => [59, 103, 117, 101, 115, 116, 32].getD i 0
def hz_t0 : hz_TX := hz_tS (0, fun _ => 0) 5 hz_bathT
def hz_tG (x : hz_TX) (k v : Nat) : hz_TX := hz_tI (hz_tC (hz_tS (hz_tS x 7 hz_gueT) 2 (hz_nmT k)) 32) v
def hz_hd (M : hz_M) (b : Nat) : hz_TX := hz_tI (hz_tC (hz_tI (hz_tC (hz_tI (hz_tC (hz_tI (hz_tC (hz_tI (hz_tC (hz_tI (hz_tC (hz_tI (hz_tC (hz_tI hz_t0 (M b 0).toNatClampNeg) 32) (M b 1).toNatClampNeg) 32) (M b 2).toNatClampNeg) 32) (M b 3).toNatClampNeg) 32) (M b 4).toNatClampNeg) 32) (M b 5).toNatClampNeg) 32) (M b 6).toNatClampNeg) 32) (M b 7).toNatClampNeg
theorem hz_asc_S {x : hz_TX} {n : Nat} {s : Nat → Nat} (h : hz_asc x) (hs : ∀ j, j < n → s j < 128) : hz_asc (hz_tS x n s) := by
  intro j hj
  show sb_cat x.2 x.1 s j < 128
  unfold sb_cat
  split
  · exact h j (by assumption)
  · exact hs _ (by have : j < x.1 + n := hj; omega)
theorem hz_asc_I {x : hz_TX} {v : Nat} (h : hz_asc x) (hv : v < 100) : hz_asc (hz_tI x v) := hz_asc_S h (fun j _ => by
  unfold hz_dec
  split
  · omega
  · split <;> omega)
theorem hz_asc_C {x : hz_TX} {c0 : Nat} (h : hz_asc x) (hv : c0 < 128) : hz_asc (hz_tC x c0) := hz_asc_S h (fun _ _ => hv)
theorem hz_gue_lt : ∀ j, j < 7 → hz_gueT j < 128 := by decide
theorem hz_bath_lt : ∀ j, j < 5 → hz_bathT j < 128 := by decide
theorem hz_nm_lt {k : Nat} (hk : k < 26) : ∀ j, j < 2 → hz_nmT k j < 128 := fun j _ => by
  unfold hz_nmT
  split <;> omega
theorem hz_asc_0 : hz_asc hz_t0 := hz_asc_S (fun j hj => absurd hj (Nat.not_lt_zero j)) hz_bath_lt
theorem hz_asc_G {x : hz_TX} {k v : Nat} (h : hz_asc x) (hk : k < 26) (hv : v < 100) : hz_asc (hz_tG x k v) :=
  hz_asc_I (hz_asc_C (hz_asc_S (hz_asc_S h hz_gue_lt) (hz_nm_lt hk)) (by decide)) hv
theorem hz_len_I {x : hz_TX} {v : Nat} : (hz_tI x v).1 = x.1 + hz_dg v := rfl
theorem hz_len_C {x : hz_TX} {v : Nat} : (hz_tC x v).1 = x.1 + 1 := rfl
theorem hz_len_S {x : hz_TX} {n : Nat} {s : Nat → Nat} : (hz_tS x n s).1 = x.1 + n := rfl
theorem hz_len_G {x : hz_TX} {k v : Nat} : (hz_tG x k v).1 = x.1 + 7 + 2 + 1 + hz_dg v := rfl
theorem hz_nI100 {x : Int32} (h : hz_in x 100 = true) : nI x.toNatClampNeg = x ∧ x.toNatClampNeg < 100 := by
  have h1 := hz_in_e h
  rw [vp_in_iff] at h1
  obtain ⟨j, hj, rfl⟩ := nI_of (x := x) (fun q => by
    have h2 : x.toInt < (0 : Int32).toInt := Int32.lt_iff_toInt_lt.mp q
    rw [show (0 : Int32).toInt = 0 by decide] at h2
    omega)
  rw [nI_toInt hj] at h1
  rw [nI_clamp hj]
  exact ⟨rfl, by omega⟩
theorem hz_bI : ∀ c0, c0 < 128 → sb_b c0 = nI c0 := by decide +kernel
theorem hz_t_I {p : Program} {l : Launch} {e : Env} {h : Nat} {z : hz_Z} {s : State} {m : MethodId} {args : Array Value} {below : List Frame} {meth : Method} {c : Code} {w : hz_C} {nL : Nat} {Q : State → Prop} {X0 S : va_W} {pc : Nat} {ls : List (Nat × Value)} {cc : ByteArray} {ret : Option FieldType} (hO : hz_Ok p s m args meth c w cc nL "HotStepsLaw" ret) {x : hz_TX} {sb : Nat} {v : Nat} {rest : List Value} (hT : hz_sbT w sb x.2 x.1 S) (h0 : 1 ≤ x.1) (h1 : x.1 + 2 ≤ 130) (hv : v < 100) (hh : 6 ≤ h) (hcat : (rest.map fun v => v.category).sum ≤ 8) (hz1 : z.2.1 + 1 ≤ z.1.1 ∧ z.2.2 + 600 ≤ z.1.2) (hdg : decode cc pc = .ok (.invokevirtual 306, 3))
    (kk : ∀ S1, hz_sbT w sb (hz_tI x v).2 (hz_tI x v).1 S1 → hz_Y p l e h (hz_zn z 1 600) s m args below meth c w nL Q X0 S1 (pc + 3) ls (.ref sb :: rest)) : hz_Y p l e h z s m args below meth c w nL Q X0 S pc ls (.int (nI v) :: .ref sb :: rest) := by
  obtain ⟨va, m0, a, rfl, hnm, hm, hL, hf⟩ := hT
  refine hz_y_callVr (as := [.int (nI v)]) (rest := rest) (hc := 5) (mc := 1) (ms := 600) hO (c_y_SBappI l w hnm (by omega) hm hL hf h1 hv) hx_cal_J4_append_bf812 (hz_sel_w hO tw_6_238) hz_K_1 (j := 0) rfl tw_6_236 hh rfl rfl hcat hz1 hdg (fun b S1 hR => ?_)
  have hb := hR.1
  rw [hb]
  exact kk S1 hR.2
theorem hz_t_C {p : Program} {l : Launch} {e : Env} {h : Nat} {z : hz_Z} {s : State} {m : MethodId} {args : Array Value} {below : List Frame} {meth : Method} {c : Code} {w : hz_C} {nL : Nat} {Q : State → Prop} {X0 S : va_W} {pc : Nat} {ls : List (Nat × Value)} {cc : ByteArray} {ret : Option FieldType} (hO : hz_Ok p s m args meth c w cc nL "HotStepsLaw" ret) {x : hz_TX} {sb : Nat} {c0 : Nat} {rest : List Value} (hT : hz_sbT w sb x.2 x.1 S) (h0 : 1 ≤ x.1) (h1 : x.1 + 1 ≤ 130) (hv : c0 < 128) (hh : 6 ≤ h) (hcat : (rest.map fun v => v.category).sum ≤ 8) (hz1 : z.2.1 + 1 ≤ z.1.1 ∧ z.2.2 + 600 ≤ z.1.2) (hdg : decode cc pc = .ok (.invokevirtual 44, 3))
    (kk : ∀ S1, hz_sbT w sb (hz_tC x c0).2 (hz_tC x c0).1 S1 → hz_Y p l e h (hz_zn z 1 600) s m args below meth c w nL Q X0 S1 (pc + 3) ls (.ref sb :: rest)) : hz_Y p l e h z s m args below meth c w nL Q X0 S pc ls (.int (nI c0) :: .ref sb :: rest) := by
  obtain ⟨va, m0, a, rfl, hnm, hm, hL, hf⟩ := hT
  refine hz_y_callVr (as := [.int (nI c0)]) (rest := rest) (hc := 5) (mc := 1) (ms := 600) hO (c_y_SBappC l w hnm (by omega) hm hL hf h1 hv) hx_cal_J4_append_cf468 (hz_sel_w hO tw_7_23) hz_K_1 (j := 0) rfl tw_7_21 hh rfl rfl hcat hz1 hdg (fun b S1 hR => ?_)
  have hb := hR.1
  rw [hb]
  exact kk S1 hR.2
theorem hz_t_S {p : Program} {l : Launch} {e : Env} {h : Nat} {z : hz_Z} {s : State} {m : MethodId} {args : Array Value} {below : List Frame} {meth : Method} {c : Code} {w : hz_C} {nL : Nat} {Q : State → Prop} {X0 S : va_W} {pc : Nat} {ls : List (Nat × Value)} {cc : ByteArray} {ret : Option FieldType} (hO : hz_Ok p s m args meth c w cc nL "HotStepsLaw" ret) {x : hz_TX} {sb : Nat} {i n0 : Nat} {s0 : Nat → Nat} {rest : List Value} (hT : hz_sbT w sb x.2 x.1 S) (h0 : 1 ≤ x.1) (hi : i < hz_ns w) (hln : hz_ln w i = n0) (hs : ∀ j, j < hz_ln w i → s0 j < 128 ∧ hz_by w i j = nI (s0 j)) (h1 : x.1 + n0 ≤ 130) (hh : 6 ≤ h) (hcat : (rest.map fun v => v.category).sum ≤ 8) (hz1 : z.2.1 + 1 ≤ z.1.1 ∧ z.2.2 + 600 ≤ z.1.2) (hdg : decode cc pc = .ok (.invokevirtual 40, 3))
    (kk : ∀ S1, hz_sbT w sb (hz_tS x n0 s0).2 (hz_tS x n0 s0).1 S1 → hz_Y p l e h (hz_zn z 1 600) s m args below meth c w nL Q X0 S1 (pc + 3) ls (.ref sb :: rest)) : hz_Y p l e h z s m args below meth c w nL Q X0 S pc ls (.ref (hz_sa w i) :: .ref sb :: rest) := by
  obtain ⟨va, m0, a, rfl, hnm, hm, hL, hf⟩ := hT
  refine hz_y_callVr (as := [.ref (hz_sa w i)]) (rest := rest) (hc := 5) (mc := 1) (ms := 600) hO (c_y_SBappS l w hi hs hnm (by omega) hm hL hf (by rw [hln]; exact h1)) hx_cal_J4_append_15ec4 (hz_sel_w hO tw_6_133) hz_K_1 (j := 0) rfl tw_7_35 hh rfl rfl hcat hz1 hdg (fun b S1 hR => ?_)
  have hb := hR.1
  rw [hb]
  exact kk S1 (by rw [← hln]; exact hR.2)
theorem hz_t_D {p : Program} {l : Launch} {e : Env} {h : Nat} {z : hz_Z} {s : State} {m : MethodId} {args : Array Value} {below : List Frame} {meth : Method} {c : Code} {w : hz_C} {nL : Nat} {Q : State → Prop} {X0 S : va_W} {pc : Nat} {ls : List (Nat × Value)} {cc : ByteArray} {ret : Option FieldType} (hO : hz_Ok p s m args meth c w cc nL "HotStepsLaw" ret) {x : hz_TX} {sb q v n : Nat} {t : Nat → Nat} {S2 : va_W} {rest : List Value} (hT : hz_sbT w sb x.2 x.1 S) (hD : hz_str w q n t S2) (ht : ∀ j, j < n → t j < 128) (h0 : 1 ≤ x.1) (h1 : x.1 + n ≤ 130) (hh : 6 ≤ h) (hcat : (rest.map fun v => v.category).sum ≤ 8) (hz1 : z.2.1 + 1 ≤ z.1.1 ∧ z.2.2 + 600 ≤ z.1.2) (hdg : decode cc pc = .ok (.invokevirtual 40, 3))
    (kk : ∀ S1, hz_sbT w sb (hz_tS x n t).2 (hz_tS x n t).1 S1 → hz_Y p l e h (hz_zn z 1 600) s m args below meth c w nL Q X0 S1 (pc + 3) ls (.ref sb :: rest)) : hz_Y p l e h z s m args below meth c w nL Q X0 (S ++ S2) pc ls (.ref q :: .ref sb :: rest) := by
  obtain ⟨va, m0, a, rfl, hnm, hm, hL, hf⟩ := hT
  obtain ⟨v, f, rfl, hL2, hf2⟩ := hD
  have hfg : ∀ j, j < n → f j = nI (t j) := fun j hj => by rw [(hL2 j hj).2, hz_bI _ (ht j hj)]
  refine hz_y_callVr6 (S := hz_sb w sb va m0 a x.1) (g6 := fun j => nI (t j)) (as := [.ref q]) (rest := rest) (hc := 5) (mc := 1) (ms := 600) hO hfg (by omega) (c_y_SBappS (i := 6) (s0 := t) l (hz_w6 w q v n (fun j => nI (t j))) (by show 6 < 7; decide) (fun j hj => ⟨ht j hj, rfl⟩) hnm (by omega) hm hL hf h1) hx_cal_J4_append_15ec4 (hz_sel_w hO tw_6_133) hz_K_1 (j := 0) rfl tw_7_35 hh rfl rfl hcat hz1 hdg (fun b S1 hR => ?_)
  have hb := hR.1
  rw [hb]
  exact kk S1 hR.2
set_option maxRecDepth 100000 in
set_option maxHeartbeats 4000000 in
theorem g_L_begB {p : Program} {l : Launch} {e : Env} {s : State} {m : MethodId} {args : Array Value} {below : List Frame} {meth : Method} {c : Code} {w : hz_C} {N : Nat} (hN : 178 ≤ N) {b : Nat} (hB : hz_Own N b) {rE : Int32} {ME : hz_M} (hO : hz_Ok p s m args meth c w cL_begins 5 RL (some .boolean)) (M : hz_M) (hv : ∀ k, k < 8 → hz_in (M b k) 100 = true) (kk : ∀ (sb : Nat) (S : va_W), hz_sbT w sb (hz_hd M b).2 (hz_hd M b).1 S → hz_Y p l e 9 ((100, 41500), (18, 9804)) s m args below meth c w 5 (MQ below (hz_Qi w N rE ME) args s 100 41500 (hz_A w)) (hz_ws w N M) S 224 [(3, .ref sb), (0, .ref (hz_ad w 0)), (1, .ref (hz_ad w b)), (2, .ref (hz_scb w))] []) : hz_G p l e 9 ((100, 41500), (0, 0)) s m args below meth c w N 5 (MQ below (hz_Qi w N rE ME) args s 100 41500 (hz_A w)) M 122 [(0, .ref (hz_ad w 0)), (1, .ref (hz_ad w b)), (2, .ref (hz_scb w))] [] := by
  refine hz_toY ?_
  refine hz_y_new hO hz_K_1 tyJ4 tyJ4_ok tw_6_104 tw_6_105 tw_1_18 (fs := [.null, .int 0, .int 0, .int 0]) (by decide) ⟨(by decide), (by decide)⟩ dL_begins_122 (fun sb => ?_)
  refine hz_y_S (S1 := [(sb, .inr (1, [.null, .int 0, .int 0, .int 0]))]) rfl ?_
  refine hz_y_dup hO dL_begins_125 rfl ?_
  refine hz_y_ldcwS (i := 4) hO (List.mem_of_getElem? (i := 3) rfl) dL_begins_126 ?_
  have e4 : hz_ln w 4 = 5 := hz_ln_c (by decide)
  have b4 : ∀ j, j < hz_ln w 4 → hz_bathT j < 128 ∧ hz_by w 4 j = nI (hz_bathT j) := by
    rw [e4]
    intro j hj
    have e5 : hz_by w 4 j = (hz_byt.getD 4 []).getD j 0 := if_pos (by decide)
    rw [e5]
    match j, hj with
    | 0, _ => exact ⟨by decide, by decide⟩
    | 1, _ => exact ⟨by decide, by decide⟩
    | 2, _ => exact ⟨by decide, by decide⟩
    | 3, _ => exact ⟨by decide, by decide⟩
    | 4, _ => exact ⟨by decide, by decide⟩
    | j + 5, hj => exact absurd hj (by omega)
  refine hz_y_callIv (as := [.ref (hz_sa w 4)]) (rest := [.ref sb]) (hc := 8) (mc := 2) (ms := 800) hO (c_y_SBinitS l w (Nat.lt_of_lt_of_le (by decide) hO.2.2.2.1.2.1.1) b4 (by rw [e4]; decide)) hx_cal_J4_init_a7421 rfl tw_6_107 (Nat.le_of_ble_eq_true rfl) rfl rfl (Nat.le_of_ble_eq_true rfl) ⟨(Nat.le_of_ble_eq_true rfl), (Nat.le_of_ble_eq_true rfl)⟩ dL_begins_129 (fun S0 hR => ?_)
  rw [e4] at hR
  have hT0 : hz_sbT w sb hz_t0.2 hz_t0.1 S0 := hR
  have l0 : hz_t0.1 = 5 := rfl
  have g0 := hz_nI100 (hv 0 (by decide))
  have q0 := hz_dg_in (M b 0).toNatClampNeg
  refine hz_y_aload_n hO dL_begins_132 rfl 1 rfl ?_
  refine hz_y_getIN (k := 0) hO hz_K_11 hB.1 hB.2.1 rfl (Nat.le_of_ble_eq_true rfl) (List.mem_of_getElem? (i := 13) rfl) rfl dL_begins_133 ?_
  refine hz_y_name g0.1 ?_
  refine hz_t_I hO (x := hz_t0) (rest := []) hT0 (by omega) (by omega) g0.2 (Nat.le_of_ble_eq_true rfl) (Nat.le_of_ble_eq_true rfl) ⟨(Nat.le_of_ble_eq_true rfl), (Nat.le_of_ble_eq_true rfl)⟩ dL_begins_136 (fun S1 hT1 => ?_)
  have l1 : (hz_tI hz_t0 (M b 0).toNatClampNeg).1 = hz_t0.1 + hz_dg (M b 0).toNatClampNeg := rfl
  refine hz_y_bipush (v := nI 32) hO dL_begins_139 (by decide) ?_
  refine hz_t_C hO (x := (hz_tI hz_t0 (M b 0).toNatClampNeg)) (rest := []) hT1 (by omega) (by omega) (by decide) (Nat.le_of_ble_eq_true rfl) (Nat.le_of_ble_eq_true rfl) ⟨(Nat.le_of_ble_eq_true rfl), (Nat.le_of_ble_eq_true rfl)⟩ dL_begins_141 (fun S2 hT2 => ?_)
  have l2 : (hz_tC (hz_tI hz_t0 (M b 0).toNatClampNeg) 32).1 = (hz_tI hz_t0 (M b 0).toNatClampNeg).1 + 1 := rfl
  have g1 := hz_nI100 (hv 1 (by decide))
  have q1 := hz_dg_in (M b 1).toNatClampNeg
  refine hz_y_aload_n hO dL_begins_144 rfl 1 rfl ?_
  refine hz_y_getIN (k := 1) hO hz_K_11 hB.1 hB.2.1 rfl (Nat.le_of_ble_eq_true rfl) (List.mem_of_getElem? (i := 0) rfl) rfl dL_begins_145 ?_
  refine hz_y_name g1.1 ?_
  refine hz_t_I hO (x := (hz_tC (hz_tI hz_t0 (M b 0).toNatClampNeg) 32)) (rest := []) hT2 (by omega) (by omega) g1.2 (Nat.le_of_ble_eq_true rfl) (Nat.le_of_ble_eq_true rfl) ⟨(Nat.le_of_ble_eq_true rfl), (Nat.le_of_ble_eq_true rfl)⟩ dL_begins_148 (fun S3 hT3 => ?_)
  have l3 : (hz_tI (hz_tC (hz_tI hz_t0 (M b 0).toNatClampNeg) 32) (M b 1).toNatClampNeg).1 = (hz_tC (hz_tI hz_t0 (M b 0).toNatClampNeg) 32).1 + hz_dg (M b 1).toNatClampNeg := rfl
  refine hz_y_bipush (v := nI 32) hO dL_begins_151 (by decide) ?_
  refine hz_t_C hO (x := (hz_tI (hz_tC (hz_tI hz_t0 (M b 0).toNatClampNeg) 32) (M b 1).toNatClampNeg)) (rest := []) hT3 (by omega) (by omega) (by decide) (Nat.le_of_ble_eq_true rfl) (Nat.le_of_ble_eq_true rfl) ⟨(Nat.le_of_ble_eq_true rfl), (Nat.le_of_ble_eq_true rfl)⟩ dL_begins_153 (fun S4 hT4 => ?_)
  have l4 : (hz_tC (hz_tI (hz_tC (hz_tI hz_t0 (M b 0).toNatClampNeg) 32) (M b 1).toNatClampNeg) 32).1 = (hz_tI (hz_tC (hz_tI hz_t0 (M b 0).toNatClampNeg) 32) (M b 1).toNatClampNeg).1 + 1 := rfl
  have g2 := hz_nI100 (hv 2 (by decide))
  have q2 := hz_dg_in (M b 2).toNatClampNeg
  refine hz_y_aload_n hO dL_begins_156 rfl 1 rfl ?_
  refine hz_y_getIN (k := 2) hO hz_K_11 hB.1 hB.2.1 rfl (Nat.le_of_ble_eq_true rfl) (List.mem_of_getElem? (i := 10) rfl) rfl dL_begins_157 ?_
  refine hz_y_name g2.1 ?_
  refine hz_t_I hO (x := (hz_tC (hz_tI (hz_tC (hz_tI hz_t0 (M b 0).toNatClampNeg) 32) (M b 1).toNatClampNeg) 32)) (rest := []) hT4 (by omega) (by omega) g2.2 (Nat.le_of_ble_eq_true rfl) (Nat.le_of_ble_eq_true rfl) ⟨(Nat.le_of_ble_eq_true rfl), (Nat.le_of_ble_eq_true rfl)⟩ dL_begins_160 (fun S5 hT5 => ?_)
  have l5 : (hz_tI (hz_tC (hz_tI (hz_tC (hz_tI hz_t0 (M b 0).toNatClampNeg) 32) (M b 1).toNatClampNeg) 32) (M b 2).toNatClampNeg).1 = (hz_tC (hz_tI (hz_tC (hz_tI hz_t0 (M b 0).toNatClampNeg) 32) (M b 1).toNatClampNeg) 32).1 + hz_dg (M b 2).toNatClampNeg := rfl
  refine hz_y_bipush (v := nI 32) hO dL_begins_163 (by decide) ?_
  refine hz_t_C hO (x := (hz_tI (hz_tC (hz_tI (hz_tC (hz_tI hz_t0 (M b 0).toNatClampNeg) 32) (M b 1).toNatClampNeg) 32) (M b 2).toNatClampNeg)) (rest := []) hT5 (by omega) (by omega) (by decide) (Nat.le_of_ble_eq_true rfl) (Nat.le_of_ble_eq_true rfl) ⟨(Nat.le_of_ble_eq_true rfl), (Nat.le_of_ble_eq_true rfl)⟩ dL_begins_165 (fun S6 hT6 => ?_)
  have l6 : (hz_tC (hz_tI (hz_tC (hz_tI (hz_tC (hz_tI hz_t0 (M b 0).toNatClampNeg) 32) (M b 1).toNatClampNeg) 32) (M b 2).toNatClampNeg) 32).1 = (hz_tI (hz_tC (hz_tI (hz_tC (hz_tI hz_t0 (M b 0).toNatClampNeg) 32) (M b 1).toNatClampNeg) 32) (M b 2).toNatClampNeg).1 + 1 := rfl
  have g3 := hz_nI100 (hv 3 (by decide))
  have q3 := hz_dg_in (M b 3).toNatClampNeg
  refine hz_y_aload_n hO dL_begins_168 rfl 1 rfl ?_
  refine hz_y_getIN (k := 3) hO hz_K_11 hB.1 hB.2.1 rfl (Nat.le_of_ble_eq_true rfl) (List.mem_of_getElem? (i := 15) rfl) rfl dL_begins_169 ?_
  refine hz_y_name g3.1 ?_
  refine hz_t_I hO (x := (hz_tC (hz_tI (hz_tC (hz_tI (hz_tC (hz_tI hz_t0 (M b 0).toNatClampNeg) 32) (M b 1).toNatClampNeg) 32) (M b 2).toNatClampNeg) 32)) (rest := []) hT6 (by omega) (by omega) g3.2 (Nat.le_of_ble_eq_true rfl) (Nat.le_of_ble_eq_true rfl) ⟨(Nat.le_of_ble_eq_true rfl), (Nat.le_of_ble_eq_true rfl)⟩ dL_begins_172 (fun S7 hT7 => ?_)
  have l7 : (hz_tI (hz_tC (hz_tI (hz_tC (hz_tI (hz_tC (hz_tI hz_t0 (M b 0).toNatClampNeg) 32) (M b 1).toNatClampNeg) 32) (M b 2).toNatClampNeg) 32) (M b 3).toNatClampNeg).1 = (hz_tC (hz_tI (hz_tC (hz_tI (hz_tC (hz_tI hz_t0 (M b 0).toNatClampNeg) 32) (M b 1).toNatClampNeg) 32) (M b 2).toNatClampNeg) 32).1 + hz_dg (M b 3).toNatClampNeg := rfl
  refine hz_y_bipush (v := nI 32) hO dL_begins_175 (by decide) ?_
  refine hz_t_C hO (x := (hz_tI (hz_tC (hz_tI (hz_tC (hz_tI (hz_tC (hz_tI hz_t0 (M b 0).toNatClampNeg) 32) (M b 1).toNatClampNeg) 32) (M b 2).toNatClampNeg) 32) (M b 3).toNatClampNeg)) (rest := []) hT7 (by omega) (by omega) (by decide) (Nat.le_of_ble_eq_true rfl) (Nat.le_of_ble_eq_true rfl) ⟨(Nat.le_of_ble_eq_true rfl), (Nat.le_of_ble_eq_true rfl)⟩ dL_begins_177 (fun S8 hT8 => ?_)
  have l8 : (hz_tC (hz_tI (hz_tC (hz_tI (hz_tC (hz_tI (hz_tC (hz_tI hz_t0 (M b 0).toNatClampNeg) 32) (M b 1).toNatClampNeg) 32) (M b 2).toNatClampNeg) 32) (M b 3).toNatClampNeg) 32).1 = (hz_tI (hz_tC (hz_tI (hz_tC (hz_tI (hz_tC (hz_tI hz_t0 (M b 0).toNatClampNeg) 32) (M b 1).toNatClampNeg) 32) (M b 2).toNatClampNeg) 32) (M b 3).toNatClampNeg).1 + 1 := rfl
  have g4 := hz_nI100 (hv 4 (by decide))
  have q4 := hz_dg_in (M b 4).toNatClampNeg
  refine hz_y_aload_n hO dL_begins_180 rfl 1 rfl ?_
  refine hz_y_getIN (k := 4) hO hz_K_11 hB.1 hB.2.1 rfl (Nat.le_of_ble_eq_true rfl) (List.mem_of_getElem? (i := 1) rfl) rfl dL_begins_181 ?_
  refine hz_y_name g4.1 ?_
  refine hz_t_I hO (x := (hz_tC (hz_tI (hz_tC (hz_tI (hz_tC (hz_tI (hz_tC (hz_tI hz_t0 (M b 0).toNatClampNeg) 32) (M b 1).toNatClampNeg) 32) (M b 2).toNatClampNeg) 32) (M b 3).toNatClampNeg) 32)) (rest := []) hT8 (by omega) (by omega) g4.2 (Nat.le_of_ble_eq_true rfl) (Nat.le_of_ble_eq_true rfl) ⟨(Nat.le_of_ble_eq_true rfl), (Nat.le_of_ble_eq_true rfl)⟩ dL_begins_184 (fun S9 hT9 => ?_)
  have l9 : (hz_tI (hz_tC (hz_tI (hz_tC (hz_tI (hz_tC (hz_tI (hz_tC (hz_tI hz_t0 (M b 0).toNatClampNeg) 32) (M b 1).toNatClampNeg) 32) (M b 2).toNatClampNeg) 32) (M b 3).toNatClampNeg) 32) (M b 4).toNatClampNeg).1 = (hz_tC (hz_tI (hz_tC (hz_tI (hz_tC (hz_tI (hz_tC (hz_tI hz_t0 (M b 0).toNatClampNeg) 32) (M b 1).toNatClampNeg) 32) (M b 2).toNatClampNeg) 32) (M b 3).toNatClampNeg) 32).1 + hz_dg (M b 4).toNatClampNeg := rfl
  refine hz_y_bipush (v := nI 32) hO dL_begins_187 (by decide) ?_
  refine hz_t_C hO (x := (hz_tI (hz_tC (hz_tI (hz_tC (hz_tI (hz_tC (hz_tI (hz_tC (hz_tI hz_t0 (M b 0).toNatClampNeg) 32) (M b 1).toNatClampNeg) 32) (M b 2).toNatClampNeg) 32) (M b 3).toNatClampNeg) 32) (M b 4).toNatClampNeg)) (rest := []) hT9 (by omega) (by omega) (by decide) (Nat.le_of_ble_eq_true rfl) (Nat.le_of_ble_eq_true rfl) ⟨(Nat.le_of_ble_eq_true rfl), (Nat.le_of_ble_eq_true rfl)⟩ dL_begins_189 (fun S10 hT10 => ?_)
  have l10 : (hz_tC (hz_tI (hz_tC (hz_tI (hz_tC (hz_tI (hz_tC (hz_tI (hz_tC (hz_tI hz_t0 (M b 0).toNatClampNeg) 32) (M b 1).toNatClampNeg) 32) (M b 2).toNatClampNeg) 32) (M b 3).toNatClampNeg) 32) (M b 4).toNatClampNeg) 32).1 = (hz_tI (hz_tC (hz_tI (hz_tC (hz_tI (hz_tC (hz_tI (hz_tC (hz_tI hz_t0 (M b 0).toNatClampNeg) 32) (M b 1).toNatClampNeg) 32) (M b 2).toNatClampNeg) 32) (M b 3).toNatClampNeg) 32) (M b 4).toNatClampNeg).1 + 1 := rfl
  have g5 := hz_nI100 (hv 5 (by decide))
  have q5 := hz_dg_in (M b 5).toNatClampNeg
  refine hz_y_aload_n hO dL_begins_192 rfl 1 rfl ?_
  refine hz_y_getIN (k := 5) hO hz_K_11 hB.1 hB.2.1 rfl (Nat.le_of_ble_eq_true rfl) (List.mem_of_getElem? (i := 18) rfl) rfl dL_begins_193 ?_
  refine hz_y_name g5.1 ?_
  refine hz_t_I hO (x := (hz_tC (hz_tI (hz_tC (hz_tI (hz_tC (hz_tI (hz_tC (hz_tI (hz_tC (hz_tI hz_t0 (M b 0).toNatClampNeg) 32) (M b 1).toNatClampNeg) 32) (M b 2).toNatClampNeg) 32) (M b 3).toNatClampNeg) 32) (M b 4).toNatClampNeg) 32)) (rest := []) hT10 (by omega) (by omega) g5.2 (Nat.le_of_ble_eq_true rfl) (Nat.le_of_ble_eq_true rfl) ⟨(Nat.le_of_ble_eq_true rfl), (Nat.le_of_ble_eq_true rfl)⟩ dL_begins_196 (fun S11 hT11 => ?_)
  have l11 : (hz_tI (hz_tC (hz_tI (hz_tC (hz_tI (hz_tC (hz_tI (hz_tC (hz_tI (hz_tC (hz_tI hz_t0 (M b 0).toNatClampNeg) 32) (M b 1).toNatClampNeg) 32) (M b 2).toNatClampNeg) 32) (M b 3).toNatClampNeg) 32) (M b 4).toNatClampNeg) 32) (M b 5).toNatClampNeg).1 = (hz_tC (hz_tI (hz_tC (hz_tI (hz_tC (hz_tI (hz_tC (hz_tI (hz_tC (hz_tI hz_t0 (M b 0).toNatClampNeg) 32) (M b 1).toNatClampNeg) 32) (M b 2).toNatClampNeg) 32) (M b 3).toNatClampNeg) 32) (M b 4).toNatClampNeg) 32).1 + hz_dg (M b 5).toNatClampNeg := rfl
  refine hz_y_bipush (v := nI 32) hO dL_begins_199 (by decide) ?_
  refine hz_t_C hO (x := (hz_tI (hz_tC (hz_tI (hz_tC (hz_tI (hz_tC (hz_tI (hz_tC (hz_tI (hz_tC (hz_tI hz_t0 (M b 0).toNatClampNeg) 32) (M b 1).toNatClampNeg) 32) (M b 2).toNatClampNeg) 32) (M b 3).toNatClampNeg) 32) (M b 4).toNatClampNeg) 32) (M b 5).toNatClampNeg)) (rest := []) hT11 (by omega) (by omega) (by decide) (Nat.le_of_ble_eq_true rfl) (Nat.le_of_ble_eq_true rfl) ⟨(Nat.le_of_ble_eq_true rfl), (Nat.le_of_ble_eq_true rfl)⟩ dL_begins_201 (fun S12 hT12 => ?_)
  have l12 : (hz_tC (hz_tI (hz_tC (hz_tI (hz_tC (hz_tI (hz_tC (hz_tI (hz_tC (hz_tI (hz_tC (hz_tI hz_t0 (M b 0).toNatClampNeg) 32) (M b 1).toNatClampNeg) 32) (M b 2).toNatClampNeg) 32) (M b 3).toNatClampNeg) 32) (M b 4).toNatClampNeg) 32) (M b 5).toNatClampNeg) 32).1 = (hz_tI (hz_tC (hz_tI (hz_tC (hz_tI (hz_tC (hz_tI (hz_tC (hz_tI (hz_tC (hz_tI hz_t0 (M b 0).toNatClampNeg) 32) (M b 1).toNatClampNeg) 32) (M b 2).toNatClampNeg) 32) (M b 3).toNatClampNeg) 32) (M b 4).toNatClampNeg) 32) (M b 5).toNatClampNeg).1 + 1 := rfl
  have g6 := hz_nI100 (hv 6 (by decide))
  have q6 := hz_dg_in (M b 6).toNatClampNeg
  refine hz_y_aload_n hO dL_begins_204 rfl 1 rfl ?_
  refine hz_y_getIN (k := 6) hO hz_K_11 hB.1 hB.2.1 rfl (Nat.le_of_ble_eq_true rfl) (List.mem_of_getElem? (i := 19) rfl) rfl dL_begins_205 ?_
  refine hz_y_name g6.1 ?_
  refine hz_t_I hO (x := (hz_tC (hz_tI (hz_tC (hz_tI (hz_tC (hz_tI (hz_tC (hz_tI (hz_tC (hz_tI (hz_tC (hz_tI hz_t0 (M b 0).toNatClampNeg) 32) (M b 1).toNatClampNeg) 32) (M b 2).toNatClampNeg) 32) (M b 3).toNatClampNeg) 32) (M b 4).toNatClampNeg) 32) (M b 5).toNatClampNeg) 32)) (rest := []) hT12 (by omega) (by omega) g6.2 (Nat.le_of_ble_eq_true rfl) (Nat.le_of_ble_eq_true rfl) ⟨(Nat.le_of_ble_eq_true rfl), (Nat.le_of_ble_eq_true rfl)⟩ dL_begins_208 (fun S13 hT13 => ?_)
  have l13 : (hz_tI (hz_tC (hz_tI (hz_tC (hz_tI (hz_tC (hz_tI (hz_tC (hz_tI (hz_tC (hz_tI (hz_tC (hz_tI hz_t0 (M b 0).toNatClampNeg) 32) (M b 1).toNatClampNeg) 32) (M b 2).toNatClampNeg) 32) (M b 3).toNatClampNeg) 32) (M b 4).toNatClampNeg) 32) (M b 5).toNatClampNeg) 32) (M b 6).toNatClampNeg).1 = (hz_tC (hz_tI (hz_tC (hz_tI (hz_tC (hz_tI (hz_tC (hz_tI (hz_tC (hz_tI (hz_tC (hz_tI hz_t0 (M b 0).toNatClampNeg) 32) (M b 1).toNatClampNeg) 32) (M b 2).toNatClampNeg) 32) (M b 3).toNatClampNeg) 32) (M b 4).toNatClampNeg) 32) (M b 5).toNatClampNeg) 32).1 + hz_dg (M b 6).toNatClampNeg := rfl
  refine hz_y_bipush (v := nI 32) hO dL_begins_211 (by decide) ?_
  refine hz_t_C hO (x := (hz_tI (hz_tC (hz_tI (hz_tC (hz_tI (hz_tC (hz_tI (hz_tC (hz_tI (hz_tC (hz_tI (hz_tC (hz_tI hz_t0 (M b 0).toNatClampNeg) 32) (M b 1).toNatClampNeg) 32) (M b 2).toNatClampNeg) 32) (M b 3).toNatClampNeg) 32) (M b 4).toNatClampNeg) 32) (M b 5).toNatClampNeg) 32) (M b 6).toNatClampNeg)) (rest := []) hT13 (by omega) (by omega) (by decide) (Nat.le_of_ble_eq_true rfl) (Nat.le_of_ble_eq_true rfl) ⟨(Nat.le_of_ble_eq_true rfl), (Nat.le_of_ble_eq_true rfl)⟩ dL_begins_213 (fun S14 hT14 => ?_)
  have l14 : (hz_tC (hz_tI (hz_tC (hz_tI (hz_tC (hz_tI (hz_tC (hz_tI (hz_tC (hz_tI (hz_tC (hz_tI (hz_tC (hz_tI hz_t0 (M b 0).toNatClampNeg) 32) (M b 1).toNatClampNeg) 32) (M b 2).toNatClampNeg) 32) (M b 3).toNatClampNeg) 32) (M b 4).toNatClampNeg) 32) (M b 5).toNatClampNeg) 32) (M b 6).toNatClampNeg) 32).1 = (hz_tI (hz_tC (hz_tI (hz_tC (hz_tI (hz_tC (hz_tI (hz_tC (hz_tI (hz_tC (hz_tI (hz_tC (hz_tI hz_t0 (M b 0).toNatClampNeg) 32) (M b 1).toNatClampNeg) 32) (M b 2).toNatClampNeg) 32) (M b 3).toNatClampNeg) 32) (M b 4).toNatClampNeg) 32) (M b 5).toNatClampNeg) 32) (M b 6).toNatClampNeg).1 + 1 := rfl
  have g7 := hz_nI100 (hv 7 (by decide))
  have q7 := hz_dg_in (M b 7).toNatClampNeg
  refine hz_y_aload_n hO dL_begins_216 rfl 1 rfl ?_
  refine hz_y_getIN (k := 7) hO hz_K_11 hB.1 hB.2.1 rfl (Nat.le_of_ble_eq_true rfl) (List.mem_of_getElem? (i := 20) rfl) rfl dL_begins_217 ?_
  refine hz_y_name g7.1 ?_
  refine hz_t_I hO (x := (hz_tC (hz_tI (hz_tC (hz_tI (hz_tC (hz_tI (hz_tC (hz_tI (hz_tC (hz_tI (hz_tC (hz_tI (hz_tC (hz_tI hz_t0 (M b 0).toNatClampNeg) 32) (M b 1).toNatClampNeg) 32) (M b 2).toNatClampNeg) 32) (M b 3).toNatClampNeg) 32) (M b 4).toNatClampNeg) 32) (M b 5).toNatClampNeg) 32) (M b 6).toNatClampNeg) 32)) (rest := []) hT14 (by omega) (by omega) g7.2 (Nat.le_of_ble_eq_true rfl) (Nat.le_of_ble_eq_true rfl) ⟨(Nat.le_of_ble_eq_true rfl), (Nat.le_of_ble_eq_true rfl)⟩ dL_begins_220 (fun S15 hT15 => ?_)
  have l15 : (hz_tI (hz_tC (hz_tI (hz_tC (hz_tI (hz_tC (hz_tI (hz_tC (hz_tI (hz_tC (hz_tI (hz_tC (hz_tI (hz_tC (hz_tI hz_t0 (M b 0).toNatClampNeg) 32) (M b 1).toNatClampNeg) 32) (M b 2).toNatClampNeg) 32) (M b 3).toNatClampNeg) 32) (M b 4).toNatClampNeg) 32) (M b 5).toNatClampNeg) 32) (M b 6).toNatClampNeg) 32) (M b 7).toNatClampNeg).1 = (hz_tC (hz_tI (hz_tC (hz_tI (hz_tC (hz_tI (hz_tC (hz_tI (hz_tC (hz_tI (hz_tC (hz_tI (hz_tC (hz_tI hz_t0 (M b 0).toNatClampNeg) 32) (M b 1).toNatClampNeg) 32) (M b 2).toNatClampNeg) 32) (M b 3).toNatClampNeg) 32) (M b 4).toNatClampNeg) 32) (M b 5).toNatClampNeg) 32) (M b 6).toNatClampNeg) 32).1 + hz_dg (M b 7).toNatClampNeg := rfl
  refine hz_y_astore_n (ls1 := [(3, .ref sb), (0, .ref (hz_ad w 0)), (1, .ref (hz_ad w b)), (2, .ref (hz_scb w))]) hO dL_begins_223 rfl (Nat.le_of_ble_eq_true rfl) rfl ?_
  exact kk sb S15 hT15
theorem hz_hd_ok {M : hz_M} {b : Nat} (hv : ∀ k, k < 8 → hz_in (M b k) 100 = true) : hz_asc (hz_hd M b) ∧ 1 ≤ (hz_hd M b).1 ∧ (hz_hd M b).1 ≤ 28 := by
  have g0 := (hz_nI100 (hv 0 (by decide))).2
  have q0 := hz_dg_in (M b 0).toNatClampNeg
  have g1 := (hz_nI100 (hv 1 (by decide))).2
  have q1 := hz_dg_in (M b 1).toNatClampNeg
  have g2 := (hz_nI100 (hv 2 (by decide))).2
  have q2 := hz_dg_in (M b 2).toNatClampNeg
  have g3 := (hz_nI100 (hv 3 (by decide))).2
  have q3 := hz_dg_in (M b 3).toNatClampNeg
  have g4 := (hz_nI100 (hv 4 (by decide))).2
  have q4 := hz_dg_in (M b 4).toNatClampNeg
  have g5 := (hz_nI100 (hv 5 (by decide))).2
  have q5 := hz_dg_in (M b 5).toNatClampNeg
  have g6 := (hz_nI100 (hv 6 (by decide))).2
  have q6 := hz_dg_in (M b 6).toNatClampNeg
  have g7 := (hz_nI100 (hv 7 (by decide))).2
  have q7 := hz_dg_in (M b 7).toNatClampNeg
  have e : (hz_hd M b).1 = 5 + hz_dg (M b 0).toNatClampNeg + 1 + hz_dg (M b 1).toNatClampNeg + 1 + hz_dg (M b 2).toNatClampNeg + 1 + hz_dg (M b 3).toNatClampNeg + 1 + hz_dg (M b 4).toNatClampNeg + 1 + hz_dg (M b 5).toNatClampNeg + 1 + hz_dg (M b 6).toNatClampNeg + 1 + hz_dg (M b 7).toNatClampNeg := rfl
  refine ⟨hz_asc_I (hz_asc_C (hz_asc_I (hz_asc_C (hz_asc_I (hz_asc_C (hz_asc_I (hz_asc_C (hz_asc_I (hz_asc_C (hz_asc_I (hz_asc_C (hz_asc_I (hz_asc_C (hz_asc_I hz_asc_0 g0) (by decide)) g1) (by decide)) g2) (by decide)) g3) (by decide)) g4) (by decide)) g5) (by decide)) g6) (by decide)) g7, by omega, by omega⟩
def f_L_begG (b : Nat) (xs : Nat → Int32) (L : Nat) (kz : hz_TX → hz_M → hz_O) : Nat → Nat → hz_TX → hz_M → hz_O
  | 0, _, _, _ => none
  | n + 1, k, x, M =>
    if (M b 10) ≤ nI k then kz x M else
    hz_gd (decide (k < 8)) <|
    hz_ct (f_L_pick xs L ((10 : Int32) + nI k) (2 : Int32) M) fun r1 M1 =>
    hz_ct (f_L_pick xs L ((9 : Int32) + nI k) (if r1 = 0 then (30 : Int32) else 100) M1) fun r2 M2 =>
    hz_gd (hz_in r2 100) <|
    f_L_begG b xs L kz n (k + 1) (hz_tG x k r2.toNatClampNeg) (hz_set M2 (b + 6) k r2)
set_option maxRecDepth 100000 in
set_option maxHeartbeats 4000000 in
theorem g_L_begG {p : Program} {l : Launch} {e : Env} {s : State} {m : MethodId} {args : Array Value} {below : List Frame} {meth : Method} {c : Code} {w : hz_C} {N : Nat} (hN : 178 ≤ N) {b : Nat} (hB : hz_Own N b) {xs : Nat → Int32} {L : Nat} (hsc : hz_scx w = xs ∧ hz_scl w = L) {rE : Int32} {ME : hz_M} (hO : hz_Ok p s m args meth c w cL_begins 5 RL (some .boolean)) {sb : Nat} {kz : hz_TX → hz_M → hz_O} (gz : ∀ (x : hz_TX) (M : hz_M), x.1 ≤ 125 → 1 ≤ x.1 → hz_asc x → kz x M = some (rE, ME) → ∀ S, hz_sbT w sb x.2 x.1 S → hz_Y p l e 9 ((100, 41500), (98, 41196)) s m args below meth c w 5 (MQ below (hz_Qi w N rE ME) args s 100 41500 (hz_A w)) (hz_ws w N M) S 411 [(3, .ref sb), (0, .ref (hz_ad w 0)), (1, .ref (hz_ad w b)), (2, .ref (hz_scb w))] []) : ∀ (n k : Nat) (x : hz_TX) (M : hz_M), k ≤ 8 → x.1 ≤ 28 + 12 * k → 1 ≤ x.1 → hz_asc x → f_L_begG b xs L kz n k x M = some (rE, ME) → ∀ S, hz_sbT w sb x.2 x.1 S → hz_Y p l e 9 ((100, 41500), (18 + 10 * k, 9804 + 3924 * k)) s m args below meth c w 5 (MQ below (hz_Qi w N rE ME) args s 100 41500 (hz_A w)) (hz_ws w N M) S 329 [(4, .int (nI k)), (3, .ref sb), (0, .ref (hz_ad w 0)), (1, .ref (hz_ad w b)), (2, .ref (hz_scb w))] [] := by
  intro n
  induction n with
  | zero =>
    intro k x M _ _ _ _ h
    rw [f_L_begG] at h
    cases h
  | succ n ih =>
    intro k x M hk hx h1 ha h S hT
    rw [f_L_begG] at h
    refine hz_y_iload hO dL_begins_329 0 rfl ?_
    refine hz_y_aload_n hO dL_begins_331 rfl 3 rfl ?_
    refine hz_y_getIN (k := 10) hO hz_K_11 hB.1 hB.2.1 rfl (Nat.le_of_ble_eq_true rfl) (List.mem_of_getElem? (i := 8) rfl) rfl dL_begins_332 ?_
    refine hz_y_icmp_ge (tgt := 411) hO dL_begins_335 (by decide) (fun hc => ?_) (fun hc => ?_)
    · rw [if_pos hc] at h
      refine hz_y_widen (z1 := ((100, 41500), (98, 41196))) rfl (by show 18 + 10 * k ≤ 98; omega) (by show 9804 + 3924 * k ≤ 41196; omega) ⟨(Nat.le_of_ble_eq_true rfl), (Nat.le_of_ble_eq_true rfl)⟩ ?_
      exact hz_y_ls [1, 2, 3, 4] rfl (gz x M (by omega) h1 ha h S hT)
    rw [if_neg hc] at h
    obtain ⟨hk8, h⟩ := hz_gd_e h
    have hk8 : k < 8 := of_decide_eq_true hk8
    obtain ⟨r1, M1, hp1, h⟩ := hz_ct_e h
    obtain ⟨r2, M2, hp2, h⟩ := hz_ct_e h
    obtain ⟨hr2, h⟩ := hz_gd_e h
    have g2 := hz_nI100 hr2
    have hik : hz_in (nI k) 16 = true := by
      have := nI_toInt (n := k) (by omega)
      simp only [hz_in, this, Bool.and_eq_true, decide_eq_true_eq]
      omega
    have hck : (nI k).toNatClampNeg = k := nI_clamp (by omega)
    refine hz_y_aload_n hO dL_begins_338 rfl 3 rfl ?_
    refine hz_y_getRN (k := 17) hO (b + 6) hz_K_11 hB.1 hB.2.1 rfl (Nat.le_of_ble_eq_true rfl) (List.mem_of_getElem? (i := 2) rfl) rfl dL_begins_339 ?_
    refine hz_y_iload hO dL_begins_342 0 rfl ?_
    refine hz_y_aload_n hO dL_begins_344 rfl 4 rfl ?_
    refine hz_y_bipush (v := (9 : Int32)) hO dL_begins_345 (by decide) ?_
    refine hz_y_iload hO dL_begins_347 0 rfl ?_
    refine hz_y_iadd hO dL_begins_349 ?_
    refine hz_y_aload_n hO dL_begins_350 rfl 4 rfl ?_
    refine hz_y_bipush (v := (10 : Int32)) hO dL_begins_351 (by decide) ?_
    refine hz_y_iload hO dL_begins_353 0 rfl ?_
    refine hz_y_iadd hO dL_begins_355 ?_
    refine hz_y_iconst (v := (2 : Int32)) hO dL_begins_356 (by decide) ?_
    refine hz_y_callSiB (M1 := M1) (r := r1) (as := [.ref (hz_scb w), .int ((10 : Int32) + nI k), .int (2 : Int32)]) (rest := [.int ((9 : Int32) + nI k), .ref (hz_scb w), .int (nI k), .ref (hz_ad w (b + 6))]) hO (c_L_pick l (hz_wB w (hz_AS w S)) hN hsc ((10 : Int32) + nI k) (2 : Int32) hp1) hz_cal_L_pick tw_4_39 (Nat.le_of_ble_eq_true rfl) rfl rfl (Nat.le_of_ble_eq_true rfl) dL_begins_357 ?_
    have key : ∀ y : Int32, y = (if r1 = 0 then (30 : Int32) else 100) → hz_Y p l e 9 ((100, 41500), (18 + 10 * k, 9804 + 3924 * k)) s m args below meth c w 5 (MQ below (hz_Qi w N rE ME) args s 100 41500 (hz_A w)) (hz_ws w N M1) S 370 [(4, .int (nI k)), (3, .ref sb), (0, .ref (hz_ad w 0)), (1, .ref (hz_ad w b)), (2, .ref (hz_scb w))] [.int y, .int ((9 : Int32) + nI k), .ref (hz_scb w), .int (nI k), .ref (hz_ad w (b + 6))] := by
      intro y hy
      subst hy
      refine hz_y_callSiB (M1 := M2) (r := r2) (as := [.ref (hz_scb w), .int ((9 : Int32) + nI k), .int (if r1 = 0 then (30 : Int32) else 100)]) (rest := [.int (nI k), .ref (hz_ad w (b + 6))]) hO (c_L_pick l (hz_wB w (hz_AS w S)) hN hsc ((9 : Int32) + nI k) (if r1 = 0 then (30 : Int32) else 100) hp2) hz_cal_L_pick tw_4_39 (Nat.le_of_ble_eq_true rfl) rfl rfl (Nat.le_of_ble_eq_true rfl) dL_begins_370 ?_
      refine hz_y_iast (n := 16) hO hB.2.2.2.2.2.2.2.2.2.2.2.2.1 hB.2.2.2.2.2.2.2.2.2.2.2.2.2.1 hik dL_begins_373 ?_
      rw [hck]
      refine hz_y_aload_n hO dL_begins_374 rfl 1 rfl ?_
      refine hz_y_ldcwS (i := 5) hO (List.mem_of_getElem? (i := 4) rfl) dL_begins_375 ?_
      have e5 : hz_ln w 5 = 7 := hz_ln_c (by decide)
      have b5 : ∀ j, j < hz_ln w 5 → hz_gueT j < 128 ∧ hz_by w 5 j = nI (hz_gueT j) := by
        rw [e5]
        intro j hj
        have e6 : hz_by w 5 j = (hz_byt.getD 5 []).getD j 0 := if_pos (by decide)
        rw [e6]
        match j, hj with
        | 0, _ => exact ⟨by decide, by decide⟩
        | 1, _ => exact ⟨by decide, by decide⟩
        | 2, _ => exact ⟨by decide, by decide⟩
        | 3, _ => exact ⟨by decide, by decide⟩
        | 4, _ => exact ⟨by decide, by decide⟩
        | 5, _ => exact ⟨by decide, by decide⟩
        | 6, _ => exact ⟨by decide, by decide⟩
        | j + 7, hj => exact absurd hj (by omega)
      refine hz_t_S hO (i := 5) (x := x) (rest := []) hT h1 (Nat.lt_of_lt_of_le (by decide) hO.2.2.2.1.2.1.1) e5 b5 (by omega) (Nat.le_of_ble_eq_true rfl) (Nat.le_of_ble_eq_true rfl) ⟨(by simp only [hz_zn]; omega), (by simp only [hz_zn]; omega)⟩ dL_begins_378 (fun S1 hT1 => ?_)
      have l1 : (hz_tS x 7 hz_gueT).1 = x.1 + 7 := rfl
      refine hz_y_iload hO dL_begins_381 0 rfl ?_
      refine hz_y_re (X1 := hz_ws w N (hz_set M2 (b + 6) k r2) ++ S1) (S1 := []) (by rw [List.append_nil]) ?_
      refine hz_y_callSr (as := [.int (nI k)]) (rest := [.ref sb]) (hc := 6) (mc := 6) (ms := 1524) hO (c_L_name l w (by omega)) hx_cal_L_name tw_7_36 (Nat.le_of_ble_eq_true rfl) rfl rfl (Nat.le_of_ble_eq_true rfl) ⟨(by simp only [hz_zn]; omega), (by simp only [hz_zn]; omega)⟩ dL_begins_383 (fun q S2 hS2 => ?_)
      refine hz_y_re (X1 := hz_ws w N (hz_set M2 (b + 6) k r2)) (S1 := S1 ++ S2) (by rw [List.append_assoc]) ?_
      refine hz_t_D hO (x := hz_tS x 7 hz_gueT) (v := 0) (rest := []) hT1 hS2 (hz_nm_lt (by omega)) (by omega) (by omega) (Nat.le_of_ble_eq_true rfl) (Nat.le_of_ble_eq_true rfl) ⟨(by simp only [hz_zn]; omega), (by simp only [hz_zn]; omega)⟩ dL_begins_386 (fun S3 hT3 => ?_)
      have l3 : (hz_tS (hz_tS x 7 hz_gueT) 2 (hz_nmT k)).1 = x.1 + 7 + 2 := rfl
      refine hz_y_bipush (v := nI 32) hO dL_begins_389 (by decide) ?_
      refine hz_t_C hO (x := hz_tS (hz_tS x 7 hz_gueT) 2 (hz_nmT k)) (rest := []) hT3 (by omega) (by omega) (by decide) (Nat.le_of_ble_eq_true rfl) (Nat.le_of_ble_eq_true rfl) ⟨(by simp only [hz_zn]; omega), (by simp only [hz_zn]; omega)⟩ dL_begins_391 (fun S4 hT4 => ?_)
      have l4 : (hz_tC (hz_tS (hz_tS x 7 hz_gueT) 2 (hz_nmT k)) 32).1 = x.1 + 7 + 2 + 1 := rfl
      refine hz_y_aload_n hO dL_begins_394 rfl 3 rfl ?_
      refine hz_y_getRN (k := 17) hO (b + 6) hz_K_11 hB.1 hB.2.1 rfl (Nat.le_of_ble_eq_true rfl) (List.mem_of_getElem? (i := 2) rfl) rfl dL_begins_395 ?_
      refine hz_y_iload hO dL_begins_398 0 rfl ?_
      refine hz_y_iald (n := 16) hO hB.2.2.2.2.2.2.2.2.2.2.2.2.1 hB.2.2.2.2.2.2.2.2.2.2.2.2.2.1 hik dL_begins_400 ?_
      refine hz_y_name (y := nI r2.toNatClampNeg) (by rw [hck, g2.1]; exact (if_pos ⟨rfl, rfl⟩).symm) ?_
      refine hz_t_I hO (x := hz_tC (hz_tS (hz_tS x 7 hz_gueT) 2 (hz_nmT k)) 32) (rest := []) hT4 (by omega) (by omega) g2.2 (Nat.le_of_ble_eq_true rfl) (Nat.le_of_ble_eq_true rfl) ⟨(by simp only [hz_zn]; omega), (by simp only [hz_zn]; omega)⟩ dL_begins_401 (fun S5 hT5 => ?_)
      refine hz_y_pop hO dL_begins_404 rfl ?_
      refine hz_y_iinc (k := 0) (v := nI (k + 1)) (ls1 := [(4, .int (nI (k + 1))), (3, .ref sb), (0, .ref (hz_ad w 0)), (1, .ref (hz_ad w b)), (2, .ref (hz_scb w))]) hO dL_begins_405 rfl (nI_1 k) (Nat.le_of_ble_eq_true rfl) rfl ?_
      refine hz_y_goto (tgt := 329) hO dL_begins_408 (by decide) ?_
      have q2 := hz_dg_in r2.toNatClampNeg
      have l5 : (hz_tG x k r2.toNatClampNeg).1 = x.1 + 7 + 2 + 1 + hz_dg r2.toNatClampNeg := rfl
      refine hz_y_widen (z1 := ((100, 41500), (18 + 10 * (k + 1), 9804 + 3924 * (k + 1)))) rfl (by simp only [hz_zn]; omega) (by simp only [hz_zn]; omega) ⟨(by show 18 + 10 * (k + 1) ≤ 100; omega), (by show 9804 + 3924 * (k + 1) ≤ 41500; omega)⟩ ?_
      exact ih (k + 1) (hz_tG x k r2.toNatClampNeg) (hz_set M2 (b + 6) k r2) (by omega) (by omega) (by omega) (hz_asc_G ha (by omega) g2.2) h S5 hT5
    refine hz_y_if_ne (tgt := 368) hO dL_begins_360 (by decide) (fun hc1 => ?_) (fun hc1 => ?_)
    · refine hz_y_bipush (v := (100 : Int32)) hO dL_begins_368 (by decide) ?_
      exact key _ (by rw [if_neg hc1])
    · refine hz_y_bipush (v := (30 : Int32)) hO dL_begins_363 (by decide) ?_
      refine hz_y_goto (tgt := 370) hO dL_begins_365 (by decide) ?_
      exact key _ (by rw [if_pos hc1])
def f_L_begE (b : Nat) (x : hz_TX) (M : hz_M) : hz_O := hz_ct (f_L_feeds x.1 (fun j => nI (x.2 j)) M) fun r1 M1 => f_L_begD b r1 M1
def f_L_begins (b : Nat) (xs : Nat → Int32) (L : Nat) (M : hz_M) : hz_O :=
  f_L_begA b xs L (fun M1 => hz_gd ((List.range 8).all fun k => hz_in (M1 b k) 100) <| f_L_begC b (f_L_begG b xs L (f_L_begE b) hz_FU 0 (hz_hd M1 b)) M1) M
set_option maxRecDepth 100000 in
set_option maxHeartbeats 4000000 in
theorem c_L_begins (l : Launch) (w : hz_C) {N : Nat} (hN : 178 ≤ N) {b : Nat} (hB : hz_Own N b) {xs : Nat → Int32} {L : Nat} (hsc : hz_scx w = xs ∧ hz_scl w = L) {M : hz_M} {rE : Int32} {ME : hz_M} (h : f_L_begins b xs L M = some (rE, ME)) : Met l yL_begins (Cond.code yL_begins cL_begins 5 (some .boolean) :: hz_TB) (hz_rm 9 ((100, 41500), (0, 0))) (hz_Pre w N [.ref (hz_ad w 0), .ref (hz_ad w b), .ref (hz_scb w)] M) (hz_Qi w N rE ME) 100 41500 (hz_A w) := by
  refine Met.ofW (cc := cL_begins) (maxL := 5) (ret := (some .boolean)) (by decide) rfl ?_
  intro p e s m args below meth c s₁ B hml hv
  obtain ⟨rfl, hWd, hX⟩ := hv
  have hts0 := atoms_spec (ws := Cond.code yL_begins cL_begins 5 (some .boolean) :: hz_TB) B.pre
  have hown : s.vm.findClass RL = some m.cls := findClass_of_methodNamed B.named
  have hl := lv_entry [.ref (hz_ad w 0), .ref (hz_ad w b), .ref (hz_scb w)] (n := 5) (Nat.le_of_ble_eq_true rfl)
  have hO : hz_Ok p s m ([.ref (hz_ad w 0), .ref (hz_ad w b), .ref (hz_scb w)] : List Value).toArray meth c w cL_begins 5 RL (some .boolean) := ⟨⟨B.exec, B.bytes, hml, hown, fun q hq => hts0 q (List.mem_cons_of_mem _ hq)⟩, B.returns, B.notSynchronized, hX, hWd.2.2.2⟩
  rw [lg_entry_eq]
  have key : ∀ (args : Array Value), hz_Ok p s m args meth c w cL_begins 5 RL (some .boolean) → hz_G p l e 9 ((100, 41500), (0, 0)) s m args below meth c w N 5 (MQ below (hz_Qi w N rE ME) args s 100 41500 (hz_A w)) M 0 [(0, .ref (hz_ad w 0)), (1, .ref (hz_ad w b)), (2, .ref (hz_scb w))] [] := by
    intro args hO
    refine g_L_begA hN hB hsc hO (fun M1 h => ?_) M h
    obtain ⟨hv, h⟩ := hz_gd_e h
    have hv : ∀ k, k < 8 → hz_in (M1 b k) 100 = true := fun k hk => List.all_eq_true.mp hv k (List.mem_range.mpr hk)
    have hx := hz_hd_ok hv
    refine g_L_begB hN hB hO M1 hv (fun sb S hT => ?_)
    refine g_L_begC hN hB hO (fun M2 h => ?_) M1 h
    refine hz_y_iconst (v := nI 0) hO dL_begins_326 (by decide) ?_
    refine hz_y_istore (ls1 := [(4, .int (nI 0)), (3, .ref sb), (0, .ref (hz_ad w 0)), (1, .ref (hz_ad w b)), (2, .ref (hz_scb w))]) hO dL_begins_327 (Nat.le_of_ble_eq_true rfl) rfl ?_
    refine g_L_begG hN hB hsc hO (fun x M3 hx1 hx2 hx3 h S hT => ?_) hz_FU 0 (hz_hd M1 b) M2 (by omega) (by omega) hx.2.1 hx.1 h S hT
    obtain ⟨r1, M4, h1, h⟩ := hz_ct_e h
    refine hz_y_aload_n hO dL_begins_411 rfl 1 rfl ?_
    refine hz_y_aload_n hO dL_begins_412 rfl 0 rfl ?_
    obtain ⟨va, m0, a, rfl, hnm, hm, hL, hf⟩ := hT
    refine hz_y_callVr (as := []) (rest := [.ref (hz_ad w 0)]) (hc := 5) (mc := 2) (ms := 304) hO (c_y_toS l w hnm hm hL hf) hx_cal_J4_toString_0e30d (hz_sel_w hO tw_7_48) hz_K_1 (j := 0) rfl tw_7_46 (Nat.le_of_ble_eq_true rfl) rfl rfl (Nat.le_of_ble_eq_true rfl) ⟨(Nat.le_of_ble_eq_true rfl), (Nat.le_of_ble_eq_true rfl)⟩ dL_begins_413 (fun q S1 hR => ?_)
    obtain ⟨v, f, rfl, hL2, hf2⟩ := hR
    have hfg : ∀ j, j < x.1 → f j = nI (x.2 j) := fun j hj => by rw [(hL2 j hj).2, hz_bI _ (hx3 j hj)]
    refine hz_y_callSi6 (g6 := fun j => nI (x.2 j)) (M1 := M4) (r := r1) (as := [.ref (hz_ad w 0), .ref q]) (rest := []) hO hfg (by omega) (c_L_feeds l (hz_w6 w q v x.1 (fun j => nI (x.2 j))) hN (sn := x.1) (sx := fun j => nI (x.2 j)) ⟨rfl, rfl, rfl⟩ h1) hz_cal_L_feeds tw_7_103 (Nat.le_of_ble_eq_true rfl) rfl rfl (Nat.le_of_ble_eq_true rfl) dL_begins_416 ?_
    exact hz_ls [1, 2] rfl (g_L_begD hN hB hO r1 M4 h)
  exact key _ hO ⟨Nat.zero_le _, Nat.zero_le _⟩ s.heap [] _ hWd va_S.rf hl
