theorem tw_3_173 : (Jvm.Cond.instantiable "HotStepsLaw$Own" (24 : Nat)) ∈ hz_TB := hz_tb (hz_t3 _ (List.mem_of_getElem? (i := 173) rfl)) rfl
theorem tw_3_175 : (Jvm.Cond.instanceMethod ({ cls := "HotStepsLaw$Own", name := "<init>", desc := "()V" } : Jvm.MethodName)) ∈ hz_TB := hz_tb (hz_t3 _ (List.mem_of_getElem? (i := 175) rfl)) rfl
theorem tw_3_176 : (Jvm.Cond.code ({ cls := "HotStepsLaw$Own", name := "<init>", desc := "()V" } : Jvm.MethodName) prog_13_method_1_code (1 : Nat) (Option.none : Option Jvm.ClassFile.FieldType)) ∈ hz_TB := hz_tb (hz_t3 _ (List.mem_of_getElem? (i := 176) rfl)) rfl
theorem tw_3_177 : (Jvm.Cond.methodLink "HotStepsLaw$Own" (1 : Nat) ({ cls := "java/lang/Object", name := "<init>", desc := "()V" } : Jvm.MethodName)) ∈ hz_TB := hz_tb (hz_t3 _ (List.mem_of_getElem? (i := 177) rfl)) rfl
theorem tw_4_37 : (Jvm.Cond.classLink "HotStepsLaw$Own" (8 : Nat) "HotStepsLaw$Own") ∈ hz_TB := hz_tb (hz_t4 _ (List.mem_of_getElem? (i := 37) rfl)) rfl
theorem tw_4_38 : (Jvm.Cond.methodLink "HotStepsLaw$Own" (47 : Nat) ({ cls := "HotStepsLaw$Own", name := "<init>", desc := "()V" } : Jvm.MethodName)) ∈ hz_TB := hz_tb (hz_t4 _ (List.mem_of_getElem? (i := 38) rfl)) rfl
/-- what a fresh bathhouse of the law's own holds, its place being b -/
def hz_oc (w : hz_C) (b : Nat) : List va_E := [.inr (11, [.int 0, .int 0, .int 0, .int 0, .int 0, .int 0, .int 0, .int 0, .int 0, .int 0, .int 0, .int (-1), .ref (hz_ad w (b + 1)), .ref (hz_ad w (b + 2)), .ref (hz_ad w (b + 3)), .ref (hz_ad w (b + 4)), .ref (hz_ad w (b + 5)), .ref (hz_ad w (b + 6)), .ref (hz_ad w (b + 7)), .ref (hz_ad w (b + 8)), .ref (hz_ad w (b + 9)), .ref (hz_ad w (b + 10)), .ref (hz_ad w (b + 11)), .int 0]), .inl (hz_tc w 0, 4, .inl (fun _ => 0)), .inl (hz_tc w 0, 16, .inl (fun _ => 0)), .inl (hz_tc w 0, 12, .inl (fun _ => 0)), .inl (hz_tc w 0, 16, .inl (fun _ => 0)), .inl (hz_tc w 0, 9, .inl (fun _ => 0)), .inl (hz_tc w 0, 16, .inl (fun _ => 0)), .inl (hz_tc w 0, 16, .inl (fun _ => 0)), .inl (hz_tc w 0, 16, .inl (fun _ => 0)), .inl (hz_tc w 0, 16, .inl (fun _ => 0)), .inl (hz_tc w 0, 16, .inl (fun _ => 0)), .inl (hz_tc w 0, 16, .inl (fun _ => 0))]
def hz_mo (N : Nat) (M : hz_M) : hz_M := fun a c => if a < N then M a c else if a = N ∧ c = 11 then -1 else 0
theorem hz_wl_len {w : hz_C} {N : Nat} {M : hz_M} (h : N ≤ 767) : (hz_wl w N M).length = N := by
  have e : hz_SH.length = 767 := by
    rw [hz_SH, List.length_append, List.length_map, List.length_range, hz_SHc_len]
  rw [hz_wl, List.length_mapIdx, List.length_take, e]
  omega
theorem hz_wl_at {w : hz_C} {N i : Nat} {M : hz_M} {sh : hz_S} (h : hz_SH[i]? = some sh) (hi : i < N) : (hz_wl w N M)[i]? = some (hz_cell w (M i) sh) := by
  simp [hz_wl, List.getElem?_mapIdx, List.getElem?_take, hi, h]
theorem hz_wl_none {w : hz_C} {N i : Nat} {M : hz_M} (hi : N ≤ i) : (hz_wl w N M)[i]? = none := by
  simp only [hz_wl, List.getElem?_mapIdx, List.getElem?_take]
  rw [if_neg (by omega)]
  rfl
theorem hz_oc_wl {w : hz_C} {N : Nat} {M : hz_M} (hN : N + 12 ≤ 767) (hB : hz_Own (N + 12) N) : hz_wl w N M ++ hz_oc w N = hz_wl w (N + 12) (hz_mo N M) := by
  have hl : (hz_wl w N M).length = N := hz_wl_len (by omega)
  apply List.ext_getElem?
  intro j
  by_cases h1 : j < N
  · rw [List.getElem?_append_left (by rw [hl]; exact h1)]
    simp only [hz_wl, List.getElem?_mapIdx, List.getElem?_take]
    rw [if_pos h1, if_pos (by omega)]
    have e : hz_mo N M j = M j := by
      funext c
      unfold hz_mo
      rw [if_pos h1]
    rw [e]
  · obtain ⟨k, rfl⟩ : ∃ k, j = N + k := ⟨j - N, by omega⟩
    rw [List.getElem?_append_right (by rw [hl]; omega), hl, show N + k - N = k by omega]
    have e0 : hz_mo N M N = fun c => if c = 11 then -1 else 0 := by
      funext c
      unfold hz_mo
      rw [if_neg (by omega)]
      simp
    have e1 : ∀ a, N < a → hz_mo N M a = fun _ => 0 := by
      intro a ha
      funext c
      unfold hz_mo
      rw [if_neg (by omega), if_neg (by omega)]
    match k with
    | 0 =>
      rw [show N + 0 = N by omega, hz_wl_at hB.1 (by omega), e0]
      simp [hz_oc, hz_cell, hz_fv, hz_os, List.mapIdx_cons, List.mapIdx_nil]
    | 1 =>
      rw [hz_wl_at (sh := .inr (.inl (0, 4))) hB.2.2.1 (by omega), e1 _ (by omega)]
      rfl
    | 2 =>
      rw [hz_wl_at (sh := .inr (.inl (0, 16))) hB.2.2.2.2.1 (by omega), e1 _ (by omega)]
      rfl
    | 3 =>
      rw [hz_wl_at (sh := .inr (.inl (0, 12))) hB.2.2.2.2.2.2.1 (by omega), e1 _ (by omega)]
      rfl
    | 4 =>
      rw [hz_wl_at (sh := .inr (.inl (0, 16))) hB.2.2.2.2.2.2.2.2.1 (by omega), e1 _ (by omega)]
      rfl
    | 5 =>
      rw [hz_wl_at (sh := .inr (.inl (0, 9))) hB.2.2.2.2.2.2.2.2.2.2.1 (by omega), e1 _ (by omega)]
      rfl
    | 6 =>
      rw [hz_wl_at (sh := .inr (.inl (0, 16))) hB.2.2.2.2.2.2.2.2.2.2.2.2.1 (by omega), e1 _ (by omega)]
      rfl
    | 7 =>
      rw [hz_wl_at (sh := .inr (.inl (0, 16))) hB.2.2.2.2.2.2.2.2.2.2.2.2.2.2.1 (by omega), e1 _ (by omega)]
      rfl
    | 8 =>
      rw [hz_wl_at (sh := .inr (.inl (0, 16))) hB.2.2.2.2.2.2.2.2.2.2.2.2.2.2.2.2.1 (by omega), e1 _ (by omega)]
      rfl
    | 9 =>
      rw [hz_wl_at (sh := .inr (.inl (0, 16))) hB.2.2.2.2.2.2.2.2.2.2.2.2.2.2.2.2.2.2.1 (by omega), e1 _ (by omega)]
      rfl
    | 10 =>
      rw [hz_wl_at (sh := .inr (.inl (0, 16))) hB.2.2.2.2.2.2.2.2.2.2.2.2.2.2.2.2.2.2.2.2.1 (by omega), e1 _ (by omega)]
      rfl
    | 11 =>
      rw [hz_wl_at (sh := .inr (.inl (0, 16))) hB.2.2.2.2.2.2.2.2.2.2.2.2.2.2.2.2.2.2.2.2.2.2.1 (by omega), e1 _ (by omega)]
      rfl
    | k + 12 =>
      rw [hz_wl_none (by omega)]
      rfl
def hz_Qo (w : hz_C) (N b : Nat) (M1 : hz_M) : Array Value → State → Outcome → State → Prop := va_Qr (fun (_ : Unit) => True) (fun _ q t => q = hz_ad w b ∧ hz_Wd w N M1 t t.heap) (hz_A w)
theorem hz_aretO {p : Program} {l : Launch} {e : Env} {h : Nat} {z : hz_Z} {s : State} {m : MethodId} {args : Array Value} {below : List Frame} {meth : Method} {c : Code} {w : hz_C} {N nL b : Nat} {M : hz_M} {pc : Nat} {ls : List (Nat × Value)} {cc : ByteArray} {own : String} (hO : hz_Ok p s m args meth c w cc nL own (some (.object "HotStepsLaw$Own"))) (hdg : decode cc pc = .ok (.areturn, 1)) : hz_G p l e h z s m args below meth c w N nL (MQ below (hz_Qo w N b M) args s z.2.1 z.2.2 (hz_A w)) M pc ls [.ref (hz_ad w b)] :=
  fun hzk H locs la hW hS hL => W.aret (v := .ref (hz_ad w b)) hO.1.1 hO.1.2.1 hO.2.1 (Or.inl ⟨_, rfl⟩) (Or.inr ⟨_, rfl⟩) (fun t ht hW9 => ⟨⟨(), _, rfl, trivial, rfl, hz_end ht hW hW9.alike⟩, hS.F ht⟩) hS.2.2 hdg hO.2.2.1
theorem hz_cal_X11_init : hz_CalI RX11 yX11_init cX11_init 1 0 := ⟨⟨tw_3_176, tw_1_16, ⟨rfl, by decide, by decide, by decide +kernel⟩, Nat.le_of_ble_eq_true rfl⟩, tw_3_175, rfl⟩
set_option maxRecDepth 100000 in
set_option maxHeartbeats 4000000 in
theorem c_X11_init (l : Launch) (w : hz_C) (L : List va_E) {b : Nat} (hb : L.length = b) : hz_CB l yX11_init cX11_init 1 1 11 153 w [.ref (hz_ad w b)] (L ++ [.inr (11, [.int 0, .int 0, .int 0, .int 0, .int 0, .int 0, .int 0, .int 0, .int 0, .int 0, .int 0, .int 0, .null, .null, .null, .null, .null, .null, .null, .null, .null, .null, .null, .int 0])]) (L ++ hz_oc w b) := by
  subst hb
  refine hz_b_ofW (by decide) rfl rfl (Nat.le_of_ble_eq_true rfl) tw_3_176 ?_
  intro p e s m args below meth c hO hin
  show hz_B p l e 1 ((11, 153), (0, 0)) s m args below meth c w 1 _ L [.inr (11, [.int 0, .int 0, .int 0, .int 0, .int 0, .int 0, .int 0, .int 0, .int 0, .int 0, .int 0, .int 0, .null, .null, .null, .null, .null, .null, .null, .null, .null, .null, .null, .int 0])] 0 [(0, .ref (hz_ad w L.length))] []
  refine hz_b_aload_n hO dX11_init_0 rfl 0 rfl ?_
  refine hz_b_obj hO tw_3_177 (Nat.le_of_ble_eq_true rfl) (Nat.le_of_ble_eq_true rfl) dX11_init_1 ?_
  refine hz_b_aload_n hO dX11_init_4 rfl 0 rfl ?_
  refine hz_b_iconst (v := (-1 : Int32)) hO dX11_init_5 (by decide) ?_
  refine hz_b_putN (j := 0) (k := 11) hO hz_K_11 tyX11_ok nmX11 rfl (Nat.le_of_ble_eq_true rfl) tw_3_200 rfl rfl rfl rfl (Nat.le_of_ble_eq_true rfl) dX11_init_6 ?_
  refine hz_b_S (S1 := [.inr (11, [.int 0, .int 0, .int 0, .int 0, .int 0, .int 0, .int 0, .int 0, .int 0, .int 0, .int 0, .int (-1 : Int32), .null, .null, .null, .null, .null, .null, .null, .null, .null, .null, .null, .int 0])]) rfl ?_
  refine hz_b_aload_n hO dX11_init_9 rfl 0 rfl ?_
  refine hz_b_iconst (v := (4 : Int32)) hO dX11_init_10 (by decide) ?_
  refine hz_b_newa (ty := .int) (t := 0) (n := 4) hO rfl (by decide) rfl rfl rfl tw_1_101 (by decide) (by decide) (Nat.le_of_ble_eq_true rfl) ⟨(Nat.le_of_ble_eq_true rfl), (Nat.le_of_ble_eq_true rfl)⟩ dX11_init_11 ?_
  refine hz_b_S (S1 := [.inr (11, [.int 0, .int 0, .int 0, .int 0, .int 0, .int 0, .int 0, .int 0, .int 0, .int 0, .int 0, .int (-1 : Int32), .null, .null, .null, .null, .null, .null, .null, .null, .null, .null, .null, .int 0]), .inl (hz_tc w 0, 4, .inl (fun _ => 0))]) rfl ?_
  refine hz_b_st (st1 := [.ref (hz_ad w (L.length + 1)), .ref (hz_ad w L.length)]) rfl ?_
  refine hz_b_put (j := 0) (k := 12) hO hin hz_K_11 tyX11_ok nmX11 rfl (Nat.le_of_ble_eq_true rfl) tw_3_201 rfl rfl rfl rfl rfl (Nat.le_of_ble_eq_true rfl) dX11_init_13 ?_
  refine hz_b_S (S1 := [.inr (11, [.int 0, .int 0, .int 0, .int 0, .int 0, .int 0, .int 0, .int 0, .int 0, .int 0, .int 0, .int (-1 : Int32), .ref (hz_ad w (L.length + 1)), .null, .null, .null, .null, .null, .null, .null, .null, .null, .null, .int 0]), .inl (hz_tc w 0, 4, .inl (fun _ => 0))]) rfl ?_
  refine hz_b_aload_n hO dX11_init_16 rfl 0 rfl ?_
  refine hz_b_bipush (v := (16 : Int32)) hO dX11_init_17 (by decide) ?_
  refine hz_b_newa (ty := .int) (t := 0) (n := 16) hO rfl (by decide) rfl rfl rfl tw_1_101 (by decide) (by decide) (Nat.le_of_ble_eq_true rfl) ⟨(Nat.le_of_ble_eq_true rfl), (Nat.le_of_ble_eq_true rfl)⟩ dX11_init_19 ?_
  refine hz_b_S (S1 := [.inr (11, [.int 0, .int 0, .int 0, .int 0, .int 0, .int 0, .int 0, .int 0, .int 0, .int 0, .int 0, .int (-1 : Int32), .ref (hz_ad w (L.length + 1)), .null, .null, .null, .null, .null, .null, .null, .null, .null, .null, .int 0]), .inl (hz_tc w 0, 4, .inl (fun _ => 0)), .inl (hz_tc w 0, 16, .inl (fun _ => 0))]) rfl ?_
  refine hz_b_st (st1 := [.ref (hz_ad w (L.length + 2)), .ref (hz_ad w L.length)]) rfl ?_
  refine hz_b_put (j := 0) (k := 13) hO hin hz_K_11 tyX11_ok nmX11 rfl (Nat.le_of_ble_eq_true rfl) tw_3_203 rfl rfl rfl rfl rfl (Nat.le_of_ble_eq_true rfl) dX11_init_21 ?_
  refine hz_b_S (S1 := [.inr (11, [.int 0, .int 0, .int 0, .int 0, .int 0, .int 0, .int 0, .int 0, .int 0, .int 0, .int 0, .int (-1 : Int32), .ref (hz_ad w (L.length + 1)), .ref (hz_ad w (L.length + 2)), .null, .null, .null, .null, .null, .null, .null, .null, .null, .int 0]), .inl (hz_tc w 0, 4, .inl (fun _ => 0)), .inl (hz_tc w 0, 16, .inl (fun _ => 0))]) rfl ?_
  refine hz_b_aload_n hO dX11_init_24 rfl 0 rfl ?_
  refine hz_b_bipush (v := (12 : Int32)) hO dX11_init_25 (by decide) ?_
  refine hz_b_newa (ty := .int) (t := 0) (n := 12) hO rfl (by decide) rfl rfl rfl tw_1_101 (by decide) (by decide) (Nat.le_of_ble_eq_true rfl) ⟨(Nat.le_of_ble_eq_true rfl), (Nat.le_of_ble_eq_true rfl)⟩ dX11_init_27 ?_
  refine hz_b_S (S1 := [.inr (11, [.int 0, .int 0, .int 0, .int 0, .int 0, .int 0, .int 0, .int 0, .int 0, .int 0, .int 0, .int (-1 : Int32), .ref (hz_ad w (L.length + 1)), .ref (hz_ad w (L.length + 2)), .null, .null, .null, .null, .null, .null, .null, .null, .null, .int 0]), .inl (hz_tc w 0, 4, .inl (fun _ => 0)), .inl (hz_tc w 0, 16, .inl (fun _ => 0)), .inl (hz_tc w 0, 12, .inl (fun _ => 0))]) rfl ?_
  refine hz_b_st (st1 := [.ref (hz_ad w (L.length + 3)), .ref (hz_ad w L.length)]) rfl ?_
  refine hz_b_put (j := 0) (k := 14) hO hin hz_K_11 tyX11_ok nmX11 rfl (Nat.le_of_ble_eq_true rfl) tw_3_205 rfl rfl rfl rfl rfl (Nat.le_of_ble_eq_true rfl) dX11_init_29 ?_
  refine hz_b_S (S1 := [.inr (11, [.int 0, .int 0, .int 0, .int 0, .int 0, .int 0, .int 0, .int 0, .int 0, .int 0, .int 0, .int (-1 : Int32), .ref (hz_ad w (L.length + 1)), .ref (hz_ad w (L.length + 2)), .ref (hz_ad w (L.length + 3)), .null, .null, .null, .null, .null, .null, .null, .null, .int 0]), .inl (hz_tc w 0, 4, .inl (fun _ => 0)), .inl (hz_tc w 0, 16, .inl (fun _ => 0)), .inl (hz_tc w 0, 12, .inl (fun _ => 0))]) rfl ?_
  refine hz_b_aload_n hO dX11_init_32 rfl 0 rfl ?_
  refine hz_b_bipush (v := (16 : Int32)) hO dX11_init_33 (by decide) ?_
  refine hz_b_newa (ty := .int) (t := 0) (n := 16) hO rfl (by decide) rfl rfl rfl tw_1_101 (by decide) (by decide) (Nat.le_of_ble_eq_true rfl) ⟨(Nat.le_of_ble_eq_true rfl), (Nat.le_of_ble_eq_true rfl)⟩ dX11_init_35 ?_
  refine hz_b_S (S1 := [.inr (11, [.int 0, .int 0, .int 0, .int 0, .int 0, .int 0, .int 0, .int 0, .int 0, .int 0, .int 0, .int (-1 : Int32), .ref (hz_ad w (L.length + 1)), .ref (hz_ad w (L.length + 2)), .ref (hz_ad w (L.length + 3)), .null, .null, .null, .null, .null, .null, .null, .null, .int 0]), .inl (hz_tc w 0, 4, .inl (fun _ => 0)), .inl (hz_tc w 0, 16, .inl (fun _ => 0)), .inl (hz_tc w 0, 12, .inl (fun _ => 0)), .inl (hz_tc w 0, 16, .inl (fun _ => 0))]) rfl ?_
  refine hz_b_st (st1 := [.ref (hz_ad w (L.length + 4)), .ref (hz_ad w L.length)]) rfl ?_
  refine hz_b_put (j := 0) (k := 15) hO hin hz_K_11 tyX11_ok nmX11 rfl (Nat.le_of_ble_eq_true rfl) tw_3_207 rfl rfl rfl rfl rfl (Nat.le_of_ble_eq_true rfl) dX11_init_37 ?_
  refine hz_b_S (S1 := [.inr (11, [.int 0, .int 0, .int 0, .int 0, .int 0, .int 0, .int 0, .int 0, .int 0, .int 0, .int 0, .int (-1 : Int32), .ref (hz_ad w (L.length + 1)), .ref (hz_ad w (L.length + 2)), .ref (hz_ad w (L.length + 3)), .ref (hz_ad w (L.length + 4)), .null, .null, .null, .null, .null, .null, .null, .int 0]), .inl (hz_tc w 0, 4, .inl (fun _ => 0)), .inl (hz_tc w 0, 16, .inl (fun _ => 0)), .inl (hz_tc w 0, 12, .inl (fun _ => 0)), .inl (hz_tc w 0, 16, .inl (fun _ => 0))]) rfl ?_
  refine hz_b_aload_n hO dX11_init_40 rfl 0 rfl ?_
  refine hz_b_bipush (v := (9 : Int32)) hO dX11_init_41 (by decide) ?_
  refine hz_b_newa (ty := .int) (t := 0) (n := 9) hO rfl (by decide) rfl rfl rfl tw_1_101 (by decide) (by decide) (Nat.le_of_ble_eq_true rfl) ⟨(Nat.le_of_ble_eq_true rfl), (Nat.le_of_ble_eq_true rfl)⟩ dX11_init_43 ?_
  refine hz_b_S (S1 := [.inr (11, [.int 0, .int 0, .int 0, .int 0, .int 0, .int 0, .int 0, .int 0, .int 0, .int 0, .int 0, .int (-1 : Int32), .ref (hz_ad w (L.length + 1)), .ref (hz_ad w (L.length + 2)), .ref (hz_ad w (L.length + 3)), .ref (hz_ad w (L.length + 4)), .null, .null, .null, .null, .null, .null, .null, .int 0]), .inl (hz_tc w 0, 4, .inl (fun _ => 0)), .inl (hz_tc w 0, 16, .inl (fun _ => 0)), .inl (hz_tc w 0, 12, .inl (fun _ => 0)), .inl (hz_tc w 0, 16, .inl (fun _ => 0)), .inl (hz_tc w 0, 9, .inl (fun _ => 0))]) rfl ?_
  refine hz_b_st (st1 := [.ref (hz_ad w (L.length + 5)), .ref (hz_ad w L.length)]) rfl ?_
  refine hz_b_put (j := 0) (k := 16) hO hin hz_K_11 tyX11_ok nmX11 rfl (Nat.le_of_ble_eq_true rfl) tw_3_209 rfl rfl rfl rfl rfl (Nat.le_of_ble_eq_true rfl) dX11_init_45 ?_
  refine hz_b_S (S1 := [.inr (11, [.int 0, .int 0, .int 0, .int 0, .int 0, .int 0, .int 0, .int 0, .int 0, .int 0, .int 0, .int (-1 : Int32), .ref (hz_ad w (L.length + 1)), .ref (hz_ad w (L.length + 2)), .ref (hz_ad w (L.length + 3)), .ref (hz_ad w (L.length + 4)), .ref (hz_ad w (L.length + 5)), .null, .null, .null, .null, .null, .null, .int 0]), .inl (hz_tc w 0, 4, .inl (fun _ => 0)), .inl (hz_tc w 0, 16, .inl (fun _ => 0)), .inl (hz_tc w 0, 12, .inl (fun _ => 0)), .inl (hz_tc w 0, 16, .inl (fun _ => 0)), .inl (hz_tc w 0, 9, .inl (fun _ => 0))]) rfl ?_
  refine hz_b_aload_n hO dX11_init_48 rfl 0 rfl ?_
  refine hz_b_bipush (v := (16 : Int32)) hO dX11_init_49 (by decide) ?_
  refine hz_b_newa (ty := .int) (t := 0) (n := 16) hO rfl (by decide) rfl rfl rfl tw_1_101 (by decide) (by decide) (Nat.le_of_ble_eq_true rfl) ⟨(Nat.le_of_ble_eq_true rfl), (Nat.le_of_ble_eq_true rfl)⟩ dX11_init_51 ?_
  refine hz_b_S (S1 := [.inr (11, [.int 0, .int 0, .int 0, .int 0, .int 0, .int 0, .int 0, .int 0, .int 0, .int 0, .int 0, .int (-1 : Int32), .ref (hz_ad w (L.length + 1)), .ref (hz_ad w (L.length + 2)), .ref (hz_ad w (L.length + 3)), .ref (hz_ad w (L.length + 4)), .ref (hz_ad w (L.length + 5)), .null, .null, .null, .null, .null, .null, .int 0]), .inl (hz_tc w 0, 4, .inl (fun _ => 0)), .inl (hz_tc w 0, 16, .inl (fun _ => 0)), .inl (hz_tc w 0, 12, .inl (fun _ => 0)), .inl (hz_tc w 0, 16, .inl (fun _ => 0)), .inl (hz_tc w 0, 9, .inl (fun _ => 0)), .inl (hz_tc w 0, 16, .inl (fun _ => 0))]) rfl ?_
  refine hz_b_st (st1 := [.ref (hz_ad w (L.length + 6)), .ref (hz_ad w L.length)]) rfl ?_
  refine hz_b_put (j := 0) (k := 17) hO hin hz_K_11 tyX11_ok nmX11 rfl (Nat.le_of_ble_eq_true rfl) tw_3_211 rfl rfl rfl rfl rfl (Nat.le_of_ble_eq_true rfl) dX11_init_53 ?_
  refine hz_b_S (S1 := [.inr (11, [.int 0, .int 0, .int 0, .int 0, .int 0, .int 0, .int 0, .int 0, .int 0, .int 0, .int 0, .int (-1 : Int32), .ref (hz_ad w (L.length + 1)), .ref (hz_ad w (L.length + 2)), .ref (hz_ad w (L.length + 3)), .ref (hz_ad w (L.length + 4)), .ref (hz_ad w (L.length + 5)), .ref (hz_ad w (L.length + 6)), .null, .null, .null, .null, .null, .int 0]), .inl (hz_tc w 0, 4, .inl (fun _ => 0)), .inl (hz_tc w 0, 16, .inl (fun _ => 0)), .inl (hz_tc w 0, 12, .inl (fun _ => 0)), .inl (hz_tc w 0, 16, .inl (fun _ => 0)), .inl (hz_tc w 0, 9, .inl (fun _ => 0)), .inl (hz_tc w 0, 16, .inl (fun _ => 0))]) rfl ?_
  refine hz_b_aload_n hO dX11_init_56 rfl 0 rfl ?_
  refine hz_b_bipush (v := (16 : Int32)) hO dX11_init_57 (by decide) ?_
  refine hz_b_newa (ty := .int) (t := 0) (n := 16) hO rfl (by decide) rfl rfl rfl tw_1_101 (by decide) (by decide) (Nat.le_of_ble_eq_true rfl) ⟨(Nat.le_of_ble_eq_true rfl), (Nat.le_of_ble_eq_true rfl)⟩ dX11_init_59 ?_
  refine hz_b_S (S1 := [.inr (11, [.int 0, .int 0, .int 0, .int 0, .int 0, .int 0, .int 0, .int 0, .int 0, .int 0, .int 0, .int (-1 : Int32), .ref (hz_ad w (L.length + 1)), .ref (hz_ad w (L.length + 2)), .ref (hz_ad w (L.length + 3)), .ref (hz_ad w (L.length + 4)), .ref (hz_ad w (L.length + 5)), .ref (hz_ad w (L.length + 6)), .null, .null, .null, .null, .null, .int 0]), .inl (hz_tc w 0, 4, .inl (fun _ => 0)), .inl (hz_tc w 0, 16, .inl (fun _ => 0)), .inl (hz_tc w 0, 12, .inl (fun _ => 0)), .inl (hz_tc w 0, 16, .inl (fun _ => 0)), .inl (hz_tc w 0, 9, .inl (fun _ => 0)), .inl (hz_tc w 0, 16, .inl (fun _ => 0)), .inl (hz_tc w 0, 16, .inl (fun _ => 0))]) rfl ?_
  refine hz_b_st (st1 := [.ref (hz_ad w (L.length + 7)), .ref (hz_ad w L.length)]) rfl ?_
  refine hz_b_put (j := 0) (k := 18) hO hin hz_K_11 tyX11_ok nmX11 rfl (Nat.le_of_ble_eq_true rfl) tw_3_213 rfl rfl rfl rfl rfl (Nat.le_of_ble_eq_true rfl) dX11_init_61 ?_
  refine hz_b_S (S1 := [.inr (11, [.int 0, .int 0, .int 0, .int 0, .int 0, .int 0, .int 0, .int 0, .int 0, .int 0, .int 0, .int (-1 : Int32), .ref (hz_ad w (L.length + 1)), .ref (hz_ad w (L.length + 2)), .ref (hz_ad w (L.length + 3)), .ref (hz_ad w (L.length + 4)), .ref (hz_ad w (L.length + 5)), .ref (hz_ad w (L.length + 6)), .ref (hz_ad w (L.length + 7)), .null, .null, .null, .null, .int 0]), .inl (hz_tc w 0, 4, .inl (fun _ => 0)), .inl (hz_tc w 0, 16, .inl (fun _ => 0)), .inl (hz_tc w 0, 12, .inl (fun _ => 0)), .inl (hz_tc w 0, 16, .inl (fun _ => 0)), .inl (hz_tc w 0, 9, .inl (fun _ => 0)), .inl (hz_tc w 0, 16, .inl (fun _ => 0)), .inl (hz_tc w 0, 16, .inl (fun _ => 0))]) rfl ?_
  refine hz_b_aload_n hO dX11_init_64 rfl 0 rfl ?_
  refine hz_b_bipush (v := (16 : Int32)) hO dX11_init_65 (by decide) ?_
  refine hz_b_newa (ty := .int) (t := 0) (n := 16) hO rfl (by decide) rfl rfl rfl tw_1_101 (by decide) (by decide) (Nat.le_of_ble_eq_true rfl) ⟨(Nat.le_of_ble_eq_true rfl), (Nat.le_of_ble_eq_true rfl)⟩ dX11_init_67 ?_
  refine hz_b_S (S1 := [.inr (11, [.int 0, .int 0, .int 0, .int 0, .int 0, .int 0, .int 0, .int 0, .int 0, .int 0, .int 0, .int (-1 : Int32), .ref (hz_ad w (L.length + 1)), .ref (hz_ad w (L.length + 2)), .ref (hz_ad w (L.length + 3)), .ref (hz_ad w (L.length + 4)), .ref (hz_ad w (L.length + 5)), .ref (hz_ad w (L.length + 6)), .ref (hz_ad w (L.length + 7)), .null, .null, .null, .null, .int 0]), .inl (hz_tc w 0, 4, .inl (fun _ => 0)), .inl (hz_tc w 0, 16, .inl (fun _ => 0)), .inl (hz_tc w 0, 12, .inl (fun _ => 0)), .inl (hz_tc w 0, 16, .inl (fun _ => 0)), .inl (hz_tc w 0, 9, .inl (fun _ => 0)), .inl (hz_tc w 0, 16, .inl (fun _ => 0)), .inl (hz_tc w 0, 16, .inl (fun _ => 0)), .inl (hz_tc w 0, 16, .inl (fun _ => 0))]) rfl ?_
  refine hz_b_st (st1 := [.ref (hz_ad w (L.length + 8)), .ref (hz_ad w L.length)]) rfl ?_
  refine hz_b_put (j := 0) (k := 19) hO hin hz_K_11 tyX11_ok nmX11 rfl (Nat.le_of_ble_eq_true rfl) tw_3_215 rfl rfl rfl rfl rfl (Nat.le_of_ble_eq_true rfl) dX11_init_69 ?_
  refine hz_b_S (S1 := [.inr (11, [.int 0, .int 0, .int 0, .int 0, .int 0, .int 0, .int 0, .int 0, .int 0, .int 0, .int 0, .int (-1 : Int32), .ref (hz_ad w (L.length + 1)), .ref (hz_ad w (L.length + 2)), .ref (hz_ad w (L.length + 3)), .ref (hz_ad w (L.length + 4)), .ref (hz_ad w (L.length + 5)), .ref (hz_ad w (L.length + 6)), .ref (hz_ad w (L.length + 7)), .ref (hz_ad w (L.length + 8)), .null, .null, .null, .int 0]), .inl (hz_tc w 0, 4, .inl (fun _ => 0)), .inl (hz_tc w 0, 16, .inl (fun _ => 0)), .inl (hz_tc w 0, 12, .inl (fun _ => 0)), .inl (hz_tc w 0, 16, .inl (fun _ => 0)), .inl (hz_tc w 0, 9, .inl (fun _ => 0)), .inl (hz_tc w 0, 16, .inl (fun _ => 0)), .inl (hz_tc w 0, 16, .inl (fun _ => 0)), .inl (hz_tc w 0, 16, .inl (fun _ => 0))]) rfl ?_
  refine hz_b_aload_n hO dX11_init_72 rfl 0 rfl ?_
  refine hz_b_bipush (v := (16 : Int32)) hO dX11_init_73 (by decide) ?_
  refine hz_b_newa (ty := .int) (t := 0) (n := 16) hO rfl (by decide) rfl rfl rfl tw_1_101 (by decide) (by decide) (Nat.le_of_ble_eq_true rfl) ⟨(Nat.le_of_ble_eq_true rfl), (Nat.le_of_ble_eq_true rfl)⟩ dX11_init_75 ?_
  refine hz_b_S (S1 := [.inr (11, [.int 0, .int 0, .int 0, .int 0, .int 0, .int 0, .int 0, .int 0, .int 0, .int 0, .int 0, .int (-1 : Int32), .ref (hz_ad w (L.length + 1)), .ref (hz_ad w (L.length + 2)), .ref (hz_ad w (L.length + 3)), .ref (hz_ad w (L.length + 4)), .ref (hz_ad w (L.length + 5)), .ref (hz_ad w (L.length + 6)), .ref (hz_ad w (L.length + 7)), .ref (hz_ad w (L.length + 8)), .null, .null, .null, .int 0]), .inl (hz_tc w 0, 4, .inl (fun _ => 0)), .inl (hz_tc w 0, 16, .inl (fun _ => 0)), .inl (hz_tc w 0, 12, .inl (fun _ => 0)), .inl (hz_tc w 0, 16, .inl (fun _ => 0)), .inl (hz_tc w 0, 9, .inl (fun _ => 0)), .inl (hz_tc w 0, 16, .inl (fun _ => 0)), .inl (hz_tc w 0, 16, .inl (fun _ => 0)), .inl (hz_tc w 0, 16, .inl (fun _ => 0)), .inl (hz_tc w 0, 16, .inl (fun _ => 0))]) rfl ?_
  refine hz_b_st (st1 := [.ref (hz_ad w (L.length + 9)), .ref (hz_ad w L.length)]) rfl ?_
  refine hz_b_put (j := 0) (k := 20) hO hin hz_K_11 tyX11_ok nmX11 rfl (Nat.le_of_ble_eq_true rfl) tw_3_217 rfl rfl rfl rfl rfl (Nat.le_of_ble_eq_true rfl) dX11_init_77 ?_
  refine hz_b_S (S1 := [.inr (11, [.int 0, .int 0, .int 0, .int 0, .int 0, .int 0, .int 0, .int 0, .int 0, .int 0, .int 0, .int (-1 : Int32), .ref (hz_ad w (L.length + 1)), .ref (hz_ad w (L.length + 2)), .ref (hz_ad w (L.length + 3)), .ref (hz_ad w (L.length + 4)), .ref (hz_ad w (L.length + 5)), .ref (hz_ad w (L.length + 6)), .ref (hz_ad w (L.length + 7)), .ref (hz_ad w (L.length + 8)), .ref (hz_ad w (L.length + 9)), .null, .null, .int 0]), .inl (hz_tc w 0, 4, .inl (fun _ => 0)), .inl (hz_tc w 0, 16, .inl (fun _ => 0)), .inl (hz_tc w 0, 12, .inl (fun _ => 0)), .inl (hz_tc w 0, 16, .inl (fun _ => 0)), .inl (hz_tc w 0, 9, .inl (fun _ => 0)), .inl (hz_tc w 0, 16, .inl (fun _ => 0)), .inl (hz_tc w 0, 16, .inl (fun _ => 0)), .inl (hz_tc w 0, 16, .inl (fun _ => 0)), .inl (hz_tc w 0, 16, .inl (fun _ => 0))]) rfl ?_
  refine hz_b_aload_n hO dX11_init_80 rfl 0 rfl ?_
  refine hz_b_bipush (v := (16 : Int32)) hO dX11_init_81 (by decide) ?_
  refine hz_b_newa (ty := .int) (t := 0) (n := 16) hO rfl (by decide) rfl rfl rfl tw_1_101 (by decide) (by decide) (Nat.le_of_ble_eq_true rfl) ⟨(Nat.le_of_ble_eq_true rfl), (Nat.le_of_ble_eq_true rfl)⟩ dX11_init_83 ?_
  refine hz_b_S (S1 := [.inr (11, [.int 0, .int 0, .int 0, .int 0, .int 0, .int 0, .int 0, .int 0, .int 0, .int 0, .int 0, .int (-1 : Int32), .ref (hz_ad w (L.length + 1)), .ref (hz_ad w (L.length + 2)), .ref (hz_ad w (L.length + 3)), .ref (hz_ad w (L.length + 4)), .ref (hz_ad w (L.length + 5)), .ref (hz_ad w (L.length + 6)), .ref (hz_ad w (L.length + 7)), .ref (hz_ad w (L.length + 8)), .ref (hz_ad w (L.length + 9)), .null, .null, .int 0]), .inl (hz_tc w 0, 4, .inl (fun _ => 0)), .inl (hz_tc w 0, 16, .inl (fun _ => 0)), .inl (hz_tc w 0, 12, .inl (fun _ => 0)), .inl (hz_tc w 0, 16, .inl (fun _ => 0)), .inl (hz_tc w 0, 9, .inl (fun _ => 0)), .inl (hz_tc w 0, 16, .inl (fun _ => 0)), .inl (hz_tc w 0, 16, .inl (fun _ => 0)), .inl (hz_tc w 0, 16, .inl (fun _ => 0)), .inl (hz_tc w 0, 16, .inl (fun _ => 0)), .inl (hz_tc w 0, 16, .inl (fun _ => 0))]) rfl ?_
  refine hz_b_st (st1 := [.ref (hz_ad w (L.length + 10)), .ref (hz_ad w L.length)]) rfl ?_
  refine hz_b_put (j := 0) (k := 21) hO hin hz_K_11 tyX11_ok nmX11 rfl (Nat.le_of_ble_eq_true rfl) tw_3_219 rfl rfl rfl rfl rfl (Nat.le_of_ble_eq_true rfl) dX11_init_85 ?_
  refine hz_b_S (S1 := [.inr (11, [.int 0, .int 0, .int 0, .int 0, .int 0, .int 0, .int 0, .int 0, .int 0, .int 0, .int 0, .int (-1 : Int32), .ref (hz_ad w (L.length + 1)), .ref (hz_ad w (L.length + 2)), .ref (hz_ad w (L.length + 3)), .ref (hz_ad w (L.length + 4)), .ref (hz_ad w (L.length + 5)), .ref (hz_ad w (L.length + 6)), .ref (hz_ad w (L.length + 7)), .ref (hz_ad w (L.length + 8)), .ref (hz_ad w (L.length + 9)), .ref (hz_ad w (L.length + 10)), .null, .int 0]), .inl (hz_tc w 0, 4, .inl (fun _ => 0)), .inl (hz_tc w 0, 16, .inl (fun _ => 0)), .inl (hz_tc w 0, 12, .inl (fun _ => 0)), .inl (hz_tc w 0, 16, .inl (fun _ => 0)), .inl (hz_tc w 0, 9, .inl (fun _ => 0)), .inl (hz_tc w 0, 16, .inl (fun _ => 0)), .inl (hz_tc w 0, 16, .inl (fun _ => 0)), .inl (hz_tc w 0, 16, .inl (fun _ => 0)), .inl (hz_tc w 0, 16, .inl (fun _ => 0)), .inl (hz_tc w 0, 16, .inl (fun _ => 0))]) rfl ?_
  refine hz_b_aload_n hO dX11_init_88 rfl 0 rfl ?_
  refine hz_b_bipush (v := (16 : Int32)) hO dX11_init_89 (by decide) ?_
  refine hz_b_newa (ty := .int) (t := 0) (n := 16) hO rfl (by decide) rfl rfl rfl tw_1_101 (by decide) (by decide) (Nat.le_of_ble_eq_true rfl) ⟨(Nat.le_of_ble_eq_true rfl), (Nat.le_of_ble_eq_true rfl)⟩ dX11_init_91 ?_
  refine hz_b_S (S1 := [.inr (11, [.int 0, .int 0, .int 0, .int 0, .int 0, .int 0, .int 0, .int 0, .int 0, .int 0, .int 0, .int (-1 : Int32), .ref (hz_ad w (L.length + 1)), .ref (hz_ad w (L.length + 2)), .ref (hz_ad w (L.length + 3)), .ref (hz_ad w (L.length + 4)), .ref (hz_ad w (L.length + 5)), .ref (hz_ad w (L.length + 6)), .ref (hz_ad w (L.length + 7)), .ref (hz_ad w (L.length + 8)), .ref (hz_ad w (L.length + 9)), .ref (hz_ad w (L.length + 10)), .null, .int 0]), .inl (hz_tc w 0, 4, .inl (fun _ => 0)), .inl (hz_tc w 0, 16, .inl (fun _ => 0)), .inl (hz_tc w 0, 12, .inl (fun _ => 0)), .inl (hz_tc w 0, 16, .inl (fun _ => 0)), .inl (hz_tc w 0, 9, .inl (fun _ => 0)), .inl (hz_tc w 0, 16, .inl (fun _ => 0)), .inl (hz_tc w 0, 16, .inl (fun _ => 0)), .inl (hz_tc w 0, 16, .inl (fun _ => 0)), .inl (hz_tc w 0, 16, .inl (fun _ => 0)), .inl (hz_tc w 0, 16, .inl (fun _ => 0)), .inl (hz_tc w 0, 16, .inl (fun _ => 0))]) rfl ?_
  refine hz_b_st (st1 := [.ref (hz_ad w (L.length + 11)), .ref (hz_ad w L.length)]) rfl ?_
  refine hz_b_put (j := 0) (k := 22) hO hin hz_K_11 tyX11_ok nmX11 rfl (Nat.le_of_ble_eq_true rfl) tw_3_221 rfl rfl rfl rfl rfl (Nat.le_of_ble_eq_true rfl) dX11_init_93 ?_
  refine hz_b_S (S1 := [.inr (11, [.int 0, .int 0, .int 0, .int 0, .int 0, .int 0, .int 0, .int 0, .int 0, .int 0, .int 0, .int (-1 : Int32), .ref (hz_ad w (L.length + 1)), .ref (hz_ad w (L.length + 2)), .ref (hz_ad w (L.length + 3)), .ref (hz_ad w (L.length + 4)), .ref (hz_ad w (L.length + 5)), .ref (hz_ad w (L.length + 6)), .ref (hz_ad w (L.length + 7)), .ref (hz_ad w (L.length + 8)), .ref (hz_ad w (L.length + 9)), .ref (hz_ad w (L.length + 10)), .ref (hz_ad w (L.length + 11)), .int 0]), .inl (hz_tc w 0, 4, .inl (fun _ => 0)), .inl (hz_tc w 0, 16, .inl (fun _ => 0)), .inl (hz_tc w 0, 12, .inl (fun _ => 0)), .inl (hz_tc w 0, 16, .inl (fun _ => 0)), .inl (hz_tc w 0, 9, .inl (fun _ => 0)), .inl (hz_tc w 0, 16, .inl (fun _ => 0)), .inl (hz_tc w 0, 16, .inl (fun _ => 0)), .inl (hz_tc w 0, 16, .inl (fun _ => 0)), .inl (hz_tc w 0, 16, .inl (fun _ => 0)), .inl (hz_tc w 0, 16, .inl (fun _ => 0)), .inl (hz_tc w 0, 16, .inl (fun _ => 0))]) rfl ?_
  refine hz_b_S (S1 := hz_oc w L.length) rfl ?_
  exact hz_b_vret hO dX11_init_96
def f_X11_copy_L183 (b : Nat) (b2 : Nat) : Nat → Int32 → hz_M → hz_O
  | 0, _, _ => none
  | n + 1, v2_16, M17 =>
    if (16 : Int32) ≤ v2_16 then
      some (0, M17)
    else
      hz_gd (hz_in v2_16 16) <|
      hz_gd (hz_in v2_16 16) <|
      hz_lm (hz_set M17 (b2 + 2) (Int32.toNatClampNeg v2_16) (M17 (b + 2) (Int32.toNatClampNeg v2_16))) fun M21 =>
      hz_gd (hz_in v2_16 16) <|
      hz_gd (hz_in v2_16 16) <|
      hz_lm (hz_set M21 (b2 + 4) (Int32.toNatClampNeg v2_16) (M21 (b + 4) (Int32.toNatClampNeg v2_16))) fun M24 =>
      hz_gd (hz_in v2_16 16) <|
      hz_gd (hz_in v2_16 16) <|
      hz_lm (hz_set M24 (b2 + 6) (Int32.toNatClampNeg v2_16) (M24 (b + 6) (Int32.toNatClampNeg v2_16))) fun M27 =>
      hz_gd (hz_in v2_16 16) <|
      hz_gd (hz_in v2_16 16) <|
      hz_lm (hz_set M27 (b2 + 7) (Int32.toNatClampNeg v2_16) (M27 (b + 7) (Int32.toNatClampNeg v2_16))) fun M30 =>
      hz_gd (hz_in v2_16 16) <|
      hz_gd (hz_in v2_16 16) <|
      hz_lm (hz_set M30 (b2 + 8) (Int32.toNatClampNeg v2_16) (M30 (b + 8) (Int32.toNatClampNeg v2_16))) fun M33 =>
      hz_gd (hz_in v2_16 16) <|
      hz_gd (hz_in v2_16 16) <|
      hz_lm (hz_set M33 (b2 + 9) (Int32.toNatClampNeg v2_16) (M33 (b + 9) (Int32.toNatClampNeg v2_16))) fun M36 =>
      hz_gd (hz_in v2_16 16) <|
      hz_gd (hz_in v2_16 16) <|
      hz_lm (hz_set M36 (b2 + 10) (Int32.toNatClampNeg v2_16) (M36 (b + 10) (Int32.toNatClampNeg v2_16))) fun M39 =>
      hz_gd (hz_in v2_16 16) <|
      hz_gd (hz_in v2_16 16) <|
      hz_lm (hz_set M39 (b2 + 11) (Int32.toNatClampNeg v2_16) (M39 (b + 11) (Int32.toNatClampNeg v2_16))) fun M42 =>
      hz_lt (v2_16 + (1 : Int32)) fun x43 =>
      f_X11_copy_L183 b b2 n x43 M42
def f_X11_copy_L157 (b : Nat) (b2 : Nat) (kk181 : hz_M → hz_O) : Nat → Int32 → hz_M → hz_O
  | 0, _, _ => none
  | n + 1, v2_45, M46 =>
    if (9 : Int32) ≤ v2_45 then
      kk181 M46
    else
      hz_gd (hz_in v2_45 9) <|
      hz_gd (hz_in v2_45 9) <|
      hz_lm (hz_set M46 (b2 + 5) (Int32.toNatClampNeg v2_45) (M46 (b + 5) (Int32.toNatClampNeg v2_45))) fun M50 =>
      hz_lt (v2_45 + (1 : Int32)) fun x51 =>
      f_X11_copy_L157 b b2 kk181 n x51 M50
def f_X11_copy_L131 (b : Nat) (b2 : Nat) (kk155 : hz_M → hz_O) : Nat → Int32 → hz_M → hz_O
  | 0, _, _ => none
  | n + 1, v2_53, M54 =>
    if (12 : Int32) ≤ v2_53 then
      kk155 M54
    else
      hz_gd (hz_in v2_53 12) <|
      hz_gd (hz_in v2_53 12) <|
      hz_lm (hz_set M54 (b2 + 3) (Int32.toNatClampNeg v2_53) (M54 (b + 3) (Int32.toNatClampNeg v2_53))) fun M58 =>
      hz_lt (v2_53 + (1 : Int32)) fun x59 =>
      f_X11_copy_L131 b b2 kk155 n x59 M58
def f_X11_copy_L106 (b : Nat) (b2 : Nat) (kk129 : hz_M → hz_O) : Nat → Int32 → hz_M → hz_O
  | 0, _, _ => none
  | n + 1, v2_61, M62 =>
    if (4 : Int32) ≤ v2_61 then
      kk129 M62
    else
      hz_gd (hz_in v2_61 4) <|
      hz_gd (hz_in v2_61 4) <|
      hz_lm (hz_set M62 (b2 + 1) (Int32.toNatClampNeg v2_61) (M62 (b + 1) (Int32.toNatClampNeg v2_61))) fun M66 =>
      hz_lt (v2_61 + (1 : Int32)) fun x67 =>
      f_X11_copy_L106 b b2 kk129 n x67 M66
def f_X11_copy (b b2 : Nat) (M : hz_M) : hz_O :=
  hz_lm (hz_set M b2 0 (M b 0)) fun M1 =>
  hz_lm (hz_set M1 b2 1 (M1 b 1)) fun M2 =>
  hz_lm (hz_set M2 b2 2 (M2 b 2)) fun M3 =>
  hz_lm (hz_set M3 b2 3 (M3 b 3)) fun M4 =>
  hz_lm (hz_set M4 b2 4 (M4 b 4)) fun M5 =>
  hz_lm (hz_set M5 b2 5 (M5 b 5)) fun M6 =>
  hz_lm (hz_set M6 b2 6 (M6 b 6)) fun M7 =>
  hz_lm (hz_set M7 b2 7 (M7 b 7)) fun M8 =>
  hz_lm (hz_set M8 b2 8 (M8 b 8)) fun M9 =>
  hz_lm (hz_set M9 b2 9 (M9 b 9)) fun M10 =>
  hz_lm (hz_set M10 b2 10 (M10 b 10)) fun M11 =>
  hz_lm (hz_set M11 b2 11 (M11 b 11)) fun M12 =>
  hz_jn (fun  (M13 : hz_M) =>
    hz_jn (fun  (M14 : hz_M) =>
      hz_jn (fun  (M15 : hz_M) =>
        f_X11_copy_L183 b b2 hz_FU (0 : Int32) M15
        ) fun k44 =>
      f_X11_copy_L157 b b2 k44 hz_FU (0 : Int32) M14
      ) fun k52 =>
    f_X11_copy_L131 b b2 k52 hz_FU (0 : Int32) M13
    ) fun k60 =>
  f_X11_copy_L106 b b2 k60 hz_FU (0 : Int32) M12
set_option maxRecDepth 100000 in
set_option maxHeartbeats 4000000 in
theorem g_X11_copy_L183 {p : Program} {l : Launch} {e : Env} {s : State} {m : MethodId} {args : Array Value} {below : List Frame} {meth : Method} {c : Code} {w : hz_C} {N : Nat} (hN : 178 ≤ N) {b : Nat} (hB : hz_Own N b) {b2 : Nat} (hB2 : hz_Own N b2) {rE : Int32} {ME : hz_M} (hO : hz_Ok p s m args meth c w cX11_copy 3 RX11 (some (.object "HotStepsLaw$Own"))) : ∀ (n : Nat) (v2_16 : Int32) (M17 : hz_M), f_X11_copy_L183 b b2 n v2_16 M17 = some (rE, ME) → hz_G p l e 2 ((12, 177), (12, 177)) s m args below meth c w N 3 (MQ below (hz_Qo w N b2 ME) args s 12 177 (hz_A w)) M17 183 [(0, .ref (hz_ad w b)), (1, .ref (hz_ad w b2)), (2, .int v2_16)] [] := by
  intro n
  induction n with
  | zero =>
    intro v2_16 M17 h
    rw [f_X11_copy_L183] at h
    cases h
  | succ n ih =>
    intro v2_16 M17 h
    rw [f_X11_copy_L183] at h
    refine hz_iload_n hO dX11_copy_183 rfl 2 rfl ?_
    refine hz_bipush (v := (16 : Int32)) hO dX11_copy_184 (by decide) ?_
    refine hz_icmp_ge (tgt := 291) hO dX11_copy_186 (by decide) (fun hc18 => ?_) (fun hc18 => ?_)
    · rw [if_pos hc18] at h
      refine hz_aload_n hO dX11_copy_291 rfl 1 rfl ?_
      exact hz_nameM (hz_some_e h).2.symm (hz_aretO hO dX11_copy_292)
    · rw [if_neg hc18] at h
      refine hz_aload_n hO dX11_copy_189 rfl 1 rfl ?_
      refine hz_getR (k := 13) hO (b2 + 2) hz_K_11 hB2.1 hB2.2.1 rfl (Nat.le_of_ble_eq_true rfl) tw_3_203 rfl dX11_copy_190 ?_
      refine hz_iload_n hO dX11_copy_193 rfl 2 rfl ?_
      refine hz_aload_n hO dX11_copy_194 rfl 0 rfl ?_
      refine hz_getR (k := 13) hO (b + 2) hz_K_11 hB.1 hB.2.1 rfl (Nat.le_of_ble_eq_true rfl) tw_3_203 rfl dX11_copy_195 ?_
      refine hz_iload_n hO dX11_copy_198 rfl 2 rfl ?_
      obtain ⟨hg19, h⟩ := hz_gd_e h
      refine hz_iald hO hB.2.2.2.2.1 hB.2.2.2.2.2.1 hg19 dX11_copy_199 ?_
      obtain ⟨hg20, h⟩ := hz_gd_e h
      obtain ⟨M21, h_M21, h⟩ := hz_lm_e h
      refine hz_iast hO hB2.2.2.2.2.1 hB2.2.2.2.2.2.1 hg20 dX11_copy_200 ?_
      refine hz_nameM h_M21 ?_
      refine hz_aload_n hO dX11_copy_201 rfl 1 rfl ?_
      refine hz_getR (k := 15) hO (b2 + 4) hz_K_11 hB2.1 hB2.2.1 rfl (Nat.le_of_ble_eq_true rfl) tw_3_207 rfl dX11_copy_202 ?_
      refine hz_iload_n hO dX11_copy_205 rfl 2 rfl ?_
      refine hz_aload_n hO dX11_copy_206 rfl 0 rfl ?_
      refine hz_getR (k := 15) hO (b + 4) hz_K_11 hB.1 hB.2.1 rfl (Nat.le_of_ble_eq_true rfl) tw_3_207 rfl dX11_copy_207 ?_
      refine hz_iload_n hO dX11_copy_210 rfl 2 rfl ?_
      obtain ⟨hg22, h⟩ := hz_gd_e h
      refine hz_iald hO hB.2.2.2.2.2.2.2.2.1 hB.2.2.2.2.2.2.2.2.2.1 hg22 dX11_copy_211 ?_
      obtain ⟨hg23, h⟩ := hz_gd_e h
      obtain ⟨M24, h_M24, h⟩ := hz_lm_e h
      refine hz_iast hO hB2.2.2.2.2.2.2.2.2.1 hB2.2.2.2.2.2.2.2.2.2.1 hg23 dX11_copy_212 ?_
      refine hz_nameM h_M24 ?_
      refine hz_aload_n hO dX11_copy_213 rfl 1 rfl ?_
      refine hz_getR (k := 17) hO (b2 + 6) hz_K_11 hB2.1 hB2.2.1 rfl (Nat.le_of_ble_eq_true rfl) tw_3_211 rfl dX11_copy_214 ?_
      refine hz_iload_n hO dX11_copy_217 rfl 2 rfl ?_
      refine hz_aload_n hO dX11_copy_218 rfl 0 rfl ?_
      refine hz_getR (k := 17) hO (b + 6) hz_K_11 hB.1 hB.2.1 rfl (Nat.le_of_ble_eq_true rfl) tw_3_211 rfl dX11_copy_219 ?_
      refine hz_iload_n hO dX11_copy_222 rfl 2 rfl ?_
      obtain ⟨hg25, h⟩ := hz_gd_e h
      refine hz_iald hO hB.2.2.2.2.2.2.2.2.2.2.2.2.1 hB.2.2.2.2.2.2.2.2.2.2.2.2.2.1 hg25 dX11_copy_223 ?_
      obtain ⟨hg26, h⟩ := hz_gd_e h
      obtain ⟨M27, h_M27, h⟩ := hz_lm_e h
      refine hz_iast hO hB2.2.2.2.2.2.2.2.2.2.2.2.2.1 hB2.2.2.2.2.2.2.2.2.2.2.2.2.2.1 hg26 dX11_copy_224 ?_
      refine hz_nameM h_M27 ?_
      refine hz_aload_n hO dX11_copy_225 rfl 1 rfl ?_
      refine hz_getR (k := 18) hO (b2 + 7) hz_K_11 hB2.1 hB2.2.1 rfl (Nat.le_of_ble_eq_true rfl) tw_3_213 rfl dX11_copy_226 ?_
      refine hz_iload_n hO dX11_copy_229 rfl 2 rfl ?_
      refine hz_aload_n hO dX11_copy_230 rfl 0 rfl ?_
      refine hz_getR (k := 18) hO (b + 7) hz_K_11 hB.1 hB.2.1 rfl (Nat.le_of_ble_eq_true rfl) tw_3_213 rfl dX11_copy_231 ?_
      refine hz_iload_n hO dX11_copy_234 rfl 2 rfl ?_
      obtain ⟨hg28, h⟩ := hz_gd_e h
      refine hz_iald hO hB.2.2.2.2.2.2.2.2.2.2.2.2.2.2.1 hB.2.2.2.2.2.2.2.2.2.2.2.2.2.2.2.1 hg28 dX11_copy_235 ?_
      obtain ⟨hg29, h⟩ := hz_gd_e h
      obtain ⟨M30, h_M30, h⟩ := hz_lm_e h
      refine hz_iast hO hB2.2.2.2.2.2.2.2.2.2.2.2.2.2.2.1 hB2.2.2.2.2.2.2.2.2.2.2.2.2.2.2.2.1 hg29 dX11_copy_236 ?_
      refine hz_nameM h_M30 ?_
      refine hz_aload_n hO dX11_copy_237 rfl 1 rfl ?_
      refine hz_getR (k := 19) hO (b2 + 8) hz_K_11 hB2.1 hB2.2.1 rfl (Nat.le_of_ble_eq_true rfl) tw_3_215 rfl dX11_copy_238 ?_
      refine hz_iload_n hO dX11_copy_241 rfl 2 rfl ?_
      refine hz_aload_n hO dX11_copy_242 rfl 0 rfl ?_
      refine hz_getR (k := 19) hO (b + 8) hz_K_11 hB.1 hB.2.1 rfl (Nat.le_of_ble_eq_true rfl) tw_3_215 rfl dX11_copy_243 ?_
      refine hz_iload_n hO dX11_copy_246 rfl 2 rfl ?_
      obtain ⟨hg31, h⟩ := hz_gd_e h
      refine hz_iald hO hB.2.2.2.2.2.2.2.2.2.2.2.2.2.2.2.2.1 hB.2.2.2.2.2.2.2.2.2.2.2.2.2.2.2.2.2.1 hg31 dX11_copy_247 ?_
      obtain ⟨hg32, h⟩ := hz_gd_e h
      obtain ⟨M33, h_M33, h⟩ := hz_lm_e h
      refine hz_iast hO hB2.2.2.2.2.2.2.2.2.2.2.2.2.2.2.2.2.1 hB2.2.2.2.2.2.2.2.2.2.2.2.2.2.2.2.2.2.1 hg32 dX11_copy_248 ?_
      refine hz_nameM h_M33 ?_
      refine hz_aload_n hO dX11_copy_249 rfl 1 rfl ?_
      refine hz_getR (k := 20) hO (b2 + 9) hz_K_11 hB2.1 hB2.2.1 rfl (Nat.le_of_ble_eq_true rfl) tw_3_217 rfl dX11_copy_250 ?_
      refine hz_iload_n hO dX11_copy_253 rfl 2 rfl ?_
      refine hz_aload_n hO dX11_copy_254 rfl 0 rfl ?_
      refine hz_getR (k := 20) hO (b + 9) hz_K_11 hB.1 hB.2.1 rfl (Nat.le_of_ble_eq_true rfl) tw_3_217 rfl dX11_copy_255 ?_
      refine hz_iload_n hO dX11_copy_258 rfl 2 rfl ?_
      obtain ⟨hg34, h⟩ := hz_gd_e h
      refine hz_iald hO hB.2.2.2.2.2.2.2.2.2.2.2.2.2.2.2.2.2.2.1 hB.2.2.2.2.2.2.2.2.2.2.2.2.2.2.2.2.2.2.2.1 hg34 dX11_copy_259 ?_
      obtain ⟨hg35, h⟩ := hz_gd_e h
      obtain ⟨M36, h_M36, h⟩ := hz_lm_e h
      refine hz_iast hO hB2.2.2.2.2.2.2.2.2.2.2.2.2.2.2.2.2.2.2.1 hB2.2.2.2.2.2.2.2.2.2.2.2.2.2.2.2.2.2.2.2.1 hg35 dX11_copy_260 ?_
      refine hz_nameM h_M36 ?_
      refine hz_aload_n hO dX11_copy_261 rfl 1 rfl ?_
      refine hz_getR (k := 21) hO (b2 + 10) hz_K_11 hB2.1 hB2.2.1 rfl (Nat.le_of_ble_eq_true rfl) tw_3_219 rfl dX11_copy_262 ?_
      refine hz_iload_n hO dX11_copy_265 rfl 2 rfl ?_
      refine hz_aload_n hO dX11_copy_266 rfl 0 rfl ?_
      refine hz_getR (k := 21) hO (b + 10) hz_K_11 hB.1 hB.2.1 rfl (Nat.le_of_ble_eq_true rfl) tw_3_219 rfl dX11_copy_267 ?_
      refine hz_iload_n hO dX11_copy_270 rfl 2 rfl ?_
      obtain ⟨hg37, h⟩ := hz_gd_e h
      refine hz_iald hO hB.2.2.2.2.2.2.2.2.2.2.2.2.2.2.2.2.2.2.2.2.1 hB.2.2.2.2.2.2.2.2.2.2.2.2.2.2.2.2.2.2.2.2.2.1 hg37 dX11_copy_271 ?_
      obtain ⟨hg38, h⟩ := hz_gd_e h
      obtain ⟨M39, h_M39, h⟩ := hz_lm_e h
      refine hz_iast hO hB2.2.2.2.2.2.2.2.2.2.2.2.2.2.2.2.2.2.2.2.2.1 hB2.2.2.2.2.2.2.2.2.2.2.2.2.2.2.2.2.2.2.2.2.2.1 hg38 dX11_copy_272 ?_
      refine hz_nameM h_M39 ?_
      refine hz_aload_n hO dX11_copy_273 rfl 1 rfl ?_
      refine hz_getR (k := 22) hO (b2 + 11) hz_K_11 hB2.1 hB2.2.1 rfl (Nat.le_of_ble_eq_true rfl) tw_3_221 rfl dX11_copy_274 ?_
      refine hz_iload_n hO dX11_copy_277 rfl 2 rfl ?_
      refine hz_aload_n hO dX11_copy_278 rfl 0 rfl ?_
      refine hz_getR (k := 22) hO (b + 11) hz_K_11 hB.1 hB.2.1 rfl (Nat.le_of_ble_eq_true rfl) tw_3_221 rfl dX11_copy_279 ?_
      refine hz_iload_n hO dX11_copy_282 rfl 2 rfl ?_
      obtain ⟨hg40, h⟩ := hz_gd_e h
      refine hz_iald hO hB.2.2.2.2.2.2.2.2.2.2.2.2.2.2.2.2.2.2.2.2.2.2.1 hB.2.2.2.2.2.2.2.2.2.2.2.2.2.2.2.2.2.2.2.2.2.2.2 hg40 dX11_copy_283 ?_
      obtain ⟨hg41, h⟩ := hz_gd_e h
      obtain ⟨M42, h_M42, h⟩ := hz_lm_e h
      refine hz_iast hO hB2.2.2.2.2.2.2.2.2.2.2.2.2.2.2.2.2.2.2.2.2.2.2.1 hB2.2.2.2.2.2.2.2.2.2.2.2.2.2.2.2.2.2.2.2.2.2.2.2 hg41 dX11_copy_284 ?_
      refine hz_nameM h_M42 ?_
      obtain ⟨x43, h_x43, h⟩ := hz_lt_e h
      refine hz_iinc (k := 2) (v := x43) (ls1 := [(2, .int x43), (0, .ref (hz_ad w b)), (1, .ref (hz_ad w b2))]) hO dX11_copy_285 rfl (by rw [h_x43]; rfl) (Nat.le_of_ble_eq_true rfl) rfl ?_
      refine hz_goto (tgt := 183) hO dX11_copy_288 (by decide) ?_
      exact hz_ls [1, 2, 0] rfl (ih x43 M42 h)
set_option maxRecDepth 100000 in
set_option maxHeartbeats 4000000 in
theorem g_X11_copy_L157 {p : Program} {l : Launch} {e : Env} {s : State} {m : MethodId} {args : Array Value} {below : List Frame} {meth : Method} {c : Code} {w : hz_C} {N : Nat} (hN : 178 ≤ N) {b : Nat} (hB : hz_Own N b) {b2 : Nat} (hB2 : hz_Own N b2) {rE : Int32} {ME : hz_M} (hO : hz_Ok p s m args meth c w cX11_copy 3 RX11 (some (.object "HotStepsLaw$Own"))) (kk181 : hz_M → hz_O) (gkk181 : ∀  (M : hz_M), kk181 M = some (rE, ME) → hz_G p l e 2 ((12, 177), (12, 177)) s m args below meth c w N 3 (MQ below (hz_Qo w N b2 ME) args s 12 177 (hz_A w)) M 181 [(0, .ref (hz_ad w b)), (1, .ref (hz_ad w b2))] []) : ∀ (n : Nat) (v2_45 : Int32) (M46 : hz_M), f_X11_copy_L157 b b2 kk181 n v2_45 M46 = some (rE, ME) → hz_G p l e 2 ((12, 177), (12, 177)) s m args below meth c w N 3 (MQ below (hz_Qo w N b2 ME) args s 12 177 (hz_A w)) M46 157 [(0, .ref (hz_ad w b)), (1, .ref (hz_ad w b2)), (2, .int v2_45)] [] := by
  intro n
  induction n with
  | zero =>
    intro v2_45 M46 h
    rw [f_X11_copy_L157] at h
    cases h
  | succ n ih =>
    intro v2_45 M46 h
    rw [f_X11_copy_L157] at h
    refine hz_iload_n hO dX11_copy_157 rfl 2 rfl ?_
    refine hz_bipush (v := (9 : Int32)) hO dX11_copy_158 (by decide) ?_
    refine hz_icmp_ge (tgt := 181) hO dX11_copy_160 (by decide) (fun hc47 => ?_) (fun hc47 => ?_)
    · rw [if_pos hc47] at h
      exact hz_ls [0, 1] rfl (gkk181 M46 h)
    · rw [if_neg hc47] at h
      refine hz_aload_n hO dX11_copy_163 rfl 1 rfl ?_
      refine hz_getR (k := 16) hO (b2 + 5) hz_K_11 hB2.1 hB2.2.1 rfl (Nat.le_of_ble_eq_true rfl) tw_3_209 rfl dX11_copy_164 ?_
      refine hz_iload_n hO dX11_copy_167 rfl 2 rfl ?_
      refine hz_aload_n hO dX11_copy_168 rfl 0 rfl ?_
      refine hz_getR (k := 16) hO (b + 5) hz_K_11 hB.1 hB.2.1 rfl (Nat.le_of_ble_eq_true rfl) tw_3_209 rfl dX11_copy_169 ?_
      refine hz_iload_n hO dX11_copy_172 rfl 2 rfl ?_
      obtain ⟨hg48, h⟩ := hz_gd_e h
      refine hz_iald hO hB.2.2.2.2.2.2.2.2.2.2.1 hB.2.2.2.2.2.2.2.2.2.2.2.1 hg48 dX11_copy_173 ?_
      obtain ⟨hg49, h⟩ := hz_gd_e h
      obtain ⟨M50, h_M50, h⟩ := hz_lm_e h
      refine hz_iast hO hB2.2.2.2.2.2.2.2.2.2.2.1 hB2.2.2.2.2.2.2.2.2.2.2.2.1 hg49 dX11_copy_174 ?_
      refine hz_nameM h_M50 ?_
      obtain ⟨x51, h_x51, h⟩ := hz_lt_e h
      refine hz_iinc (k := 2) (v := x51) (ls1 := [(2, .int x51), (0, .ref (hz_ad w b)), (1, .ref (hz_ad w b2))]) hO dX11_copy_175 rfl (by rw [h_x51]; rfl) (Nat.le_of_ble_eq_true rfl) rfl ?_
      refine hz_goto (tgt := 157) hO dX11_copy_178 (by decide) ?_
      exact hz_ls [1, 2, 0] rfl (ih x51 M50 h)
set_option maxRecDepth 100000 in
set_option maxHeartbeats 4000000 in
theorem g_X11_copy_L131 {p : Program} {l : Launch} {e : Env} {s : State} {m : MethodId} {args : Array Value} {below : List Frame} {meth : Method} {c : Code} {w : hz_C} {N : Nat} (hN : 178 ≤ N) {b : Nat} (hB : hz_Own N b) {b2 : Nat} (hB2 : hz_Own N b2) {rE : Int32} {ME : hz_M} (hO : hz_Ok p s m args meth c w cX11_copy 3 RX11 (some (.object "HotStepsLaw$Own"))) (kk155 : hz_M → hz_O) (gkk155 : ∀  (M : hz_M), kk155 M = some (rE, ME) → hz_G p l e 2 ((12, 177), (12, 177)) s m args below meth c w N 3 (MQ below (hz_Qo w N b2 ME) args s 12 177 (hz_A w)) M 155 [(0, .ref (hz_ad w b)), (1, .ref (hz_ad w b2))] []) : ∀ (n : Nat) (v2_53 : Int32) (M54 : hz_M), f_X11_copy_L131 b b2 kk155 n v2_53 M54 = some (rE, ME) → hz_G p l e 2 ((12, 177), (12, 177)) s m args below meth c w N 3 (MQ below (hz_Qo w N b2 ME) args s 12 177 (hz_A w)) M54 131 [(0, .ref (hz_ad w b)), (1, .ref (hz_ad w b2)), (2, .int v2_53)] [] := by
  intro n
  induction n with
  | zero =>
    intro v2_53 M54 h
    rw [f_X11_copy_L131] at h
    cases h
  | succ n ih =>
    intro v2_53 M54 h
    rw [f_X11_copy_L131] at h
    refine hz_iload_n hO dX11_copy_131 rfl 2 rfl ?_
    refine hz_bipush (v := (12 : Int32)) hO dX11_copy_132 (by decide) ?_
    refine hz_icmp_ge (tgt := 155) hO dX11_copy_134 (by decide) (fun hc55 => ?_) (fun hc55 => ?_)
    · rw [if_pos hc55] at h
      exact hz_ls [0, 1] rfl (gkk155 M54 h)
    · rw [if_neg hc55] at h
      refine hz_aload_n hO dX11_copy_137 rfl 1 rfl ?_
      refine hz_getR (k := 14) hO (b2 + 3) hz_K_11 hB2.1 hB2.2.1 rfl (Nat.le_of_ble_eq_true rfl) tw_3_205 rfl dX11_copy_138 ?_
      refine hz_iload_n hO dX11_copy_141 rfl 2 rfl ?_
      refine hz_aload_n hO dX11_copy_142 rfl 0 rfl ?_
      refine hz_getR (k := 14) hO (b + 3) hz_K_11 hB.1 hB.2.1 rfl (Nat.le_of_ble_eq_true rfl) tw_3_205 rfl dX11_copy_143 ?_
      refine hz_iload_n hO dX11_copy_146 rfl 2 rfl ?_
      obtain ⟨hg56, h⟩ := hz_gd_e h
      refine hz_iald hO hB.2.2.2.2.2.2.1 hB.2.2.2.2.2.2.2.1 hg56 dX11_copy_147 ?_
      obtain ⟨hg57, h⟩ := hz_gd_e h
      obtain ⟨M58, h_M58, h⟩ := hz_lm_e h
      refine hz_iast hO hB2.2.2.2.2.2.2.1 hB2.2.2.2.2.2.2.2.1 hg57 dX11_copy_148 ?_
      refine hz_nameM h_M58 ?_
      obtain ⟨x59, h_x59, h⟩ := hz_lt_e h
      refine hz_iinc (k := 2) (v := x59) (ls1 := [(2, .int x59), (0, .ref (hz_ad w b)), (1, .ref (hz_ad w b2))]) hO dX11_copy_149 rfl (by rw [h_x59]; rfl) (Nat.le_of_ble_eq_true rfl) rfl ?_
      refine hz_goto (tgt := 131) hO dX11_copy_152 (by decide) ?_
      exact hz_ls [1, 2, 0] rfl (ih x59 M58 h)
set_option maxRecDepth 100000 in
set_option maxHeartbeats 4000000 in
theorem g_X11_copy_L106 {p : Program} {l : Launch} {e : Env} {s : State} {m : MethodId} {args : Array Value} {below : List Frame} {meth : Method} {c : Code} {w : hz_C} {N : Nat} (hN : 178 ≤ N) {b : Nat} (hB : hz_Own N b) {b2 : Nat} (hB2 : hz_Own N b2) {rE : Int32} {ME : hz_M} (hO : hz_Ok p s m args meth c w cX11_copy 3 RX11 (some (.object "HotStepsLaw$Own"))) (kk129 : hz_M → hz_O) (gkk129 : ∀  (M : hz_M), kk129 M = some (rE, ME) → hz_G p l e 2 ((12, 177), (12, 177)) s m args below meth c w N 3 (MQ below (hz_Qo w N b2 ME) args s 12 177 (hz_A w)) M 129 [(0, .ref (hz_ad w b)), (1, .ref (hz_ad w b2))] []) : ∀ (n : Nat) (v2_61 : Int32) (M62 : hz_M), f_X11_copy_L106 b b2 kk129 n v2_61 M62 = some (rE, ME) → hz_G p l e 2 ((12, 177), (12, 177)) s m args below meth c w N 3 (MQ below (hz_Qo w N b2 ME) args s 12 177 (hz_A w)) M62 106 [(0, .ref (hz_ad w b)), (1, .ref (hz_ad w b2)), (2, .int v2_61)] [] := by
  intro n
  induction n with
  | zero =>
    intro v2_61 M62 h
    rw [f_X11_copy_L106] at h
    cases h
  | succ n ih =>
    intro v2_61 M62 h
    rw [f_X11_copy_L106] at h
    refine hz_iload_n hO dX11_copy_106 rfl 2 rfl ?_
    refine hz_iconst (v := (4 : Int32)) hO dX11_copy_107 (by decide) ?_
    refine hz_icmp_ge (tgt := 129) hO dX11_copy_108 (by decide) (fun hc63 => ?_) (fun hc63 => ?_)
    · rw [if_pos hc63] at h
      exact hz_ls [0, 1] rfl (gkk129 M62 h)
    · rw [if_neg hc63] at h
      refine hz_aload_n hO dX11_copy_111 rfl 1 rfl ?_
      refine hz_getR (k := 12) hO (b2 + 1) hz_K_11 hB2.1 hB2.2.1 rfl (Nat.le_of_ble_eq_true rfl) tw_3_201 rfl dX11_copy_112 ?_
      refine hz_iload_n hO dX11_copy_115 rfl 2 rfl ?_
      refine hz_aload_n hO dX11_copy_116 rfl 0 rfl ?_
      refine hz_getR (k := 12) hO (b + 1) hz_K_11 hB.1 hB.2.1 rfl (Nat.le_of_ble_eq_true rfl) tw_3_201 rfl dX11_copy_117 ?_
      refine hz_iload_n hO dX11_copy_120 rfl 2 rfl ?_
      obtain ⟨hg64, h⟩ := hz_gd_e h
      refine hz_iald hO hB.2.2.1 hB.2.2.2.1 hg64 dX11_copy_121 ?_
      obtain ⟨hg65, h⟩ := hz_gd_e h
      obtain ⟨M66, h_M66, h⟩ := hz_lm_e h
      refine hz_iast hO hB2.2.2.1 hB2.2.2.2.1 hg65 dX11_copy_122 ?_
      refine hz_nameM h_M66 ?_
      obtain ⟨x67, h_x67, h⟩ := hz_lt_e h
      refine hz_iinc (k := 2) (v := x67) (ls1 := [(2, .int x67), (0, .ref (hz_ad w b)), (1, .ref (hz_ad w b2))]) hO dX11_copy_123 rfl (by rw [h_x67]; rfl) (Nat.le_of_ble_eq_true rfl) rfl ?_
      refine hz_goto (tgt := 106) hO dX11_copy_126 (by decide) ?_
      exact hz_ls [1, 2, 0] rfl (ih x67 M66 h)
theorem hz_own_le {N N1 b : Nat} (h : N ≤ N1) (hB : hz_Own N b) : hz_Own N1 b := ⟨hB.1, Nat.lt_of_lt_of_le hB.2.1 h, hB.2.2.1, Nat.lt_of_lt_of_le hB.2.2.2.1 h, hB.2.2.2.2.1, Nat.lt_of_lt_of_le hB.2.2.2.2.2.1 h, hB.2.2.2.2.2.2.1, Nat.lt_of_lt_of_le hB.2.2.2.2.2.2.2.1 h, hB.2.2.2.2.2.2.2.2.1, Nat.lt_of_lt_of_le hB.2.2.2.2.2.2.2.2.2.1 h, hB.2.2.2.2.2.2.2.2.2.2.1, Nat.lt_of_lt_of_le hB.2.2.2.2.2.2.2.2.2.2.2.1 h, hB.2.2.2.2.2.2.2.2.2.2.2.2.1, Nat.lt_of_lt_of_le hB.2.2.2.2.2.2.2.2.2.2.2.2.2.1 h, hB.2.2.2.2.2.2.2.2.2.2.2.2.2.2.1, Nat.lt_of_lt_of_le hB.2.2.2.2.2.2.2.2.2.2.2.2.2.2.2.1 h, hB.2.2.2.2.2.2.2.2.2.2.2.2.2.2.2.2.1, Nat.lt_of_lt_of_le hB.2.2.2.2.2.2.2.2.2.2.2.2.2.2.2.2.2.1 h, hB.2.2.2.2.2.2.2.2.2.2.2.2.2.2.2.2.2.2.1, Nat.lt_of_lt_of_le hB.2.2.2.2.2.2.2.2.2.2.2.2.2.2.2.2.2.2.2.1 h, hB.2.2.2.2.2.2.2.2.2.2.2.2.2.2.2.2.2.2.2.2.1, Nat.lt_of_lt_of_le hB.2.2.2.2.2.2.2.2.2.2.2.2.2.2.2.2.2.2.2.2.2.1 h, hB.2.2.2.2.2.2.2.2.2.2.2.2.2.2.2.2.2.2.2.2.2.2.1, Nat.lt_of_lt_of_le hB.2.2.2.2.2.2.2.2.2.2.2.2.2.2.2.2.2.2.2.2.2.2.2 h⟩
/-- a method that makes one bathhouse more -/
def hz_CtA (l : Launch) (y : MethodName) (b : ByteArray) (nL : Nat) (ret : Option FieldType) (h mc ms : Nat) (w : hz_C) (N : Nat) (as : List Value) (M : hz_M) (Qc : Array Value → State → Outcome → State → Prop) : Prop :=
  Met l y (Cond.code y b nL ret :: hz_TB) (hz_rm h ((mc, ms), (0, 0))) (va_Pc as (fun U => (hz_Wd w N M U U.heap ∧ ∀ i, hz_ad w (N + i) = U.heap.size + i) ∧ hz_X w U U.heap)) Qc mc ms (hz_A w)
theorem hz_al_B {w : hz_C} {N : Nat} {M : hz_M} {U : State} {H : Heap} (hN : N ≤ 767) (hW : hz_Wd w N M U H) (ha : ∀ i, hz_ad w (N + i) = H.size + i) : hz_Bd w (hz_wl w N M) U H := by
  refine ⟨?_, hW.2.1, ?_, hW.2.2.2, ?_⟩
  · rw [← hz_ws_wl]
    exact hW.1
  · rw [← hz_ws_wl]
    exact hW.2.2.1
  · intro i
    rw [hz_wl_len hN]
    exact ha i
set_option maxRecDepth 100000 in
set_option maxHeartbeats 4000000 in
theorem c_X11_copy (l : Launch) (w : hz_C) {N0 b : Nat} (hN : 178 ≤ N0) (hN9 : N0 + 12 ≤ 767) (hB0 : hz_Own N0 b) (hB2 : hz_Own (N0 + 12) N0) {M0 : hz_M} {rE : Int32} {ME : hz_M} (h : f_X11_copy b N0 (hz_mo N0 M0) = some (rE, ME)) : hz_CtA l yX11_copy cX11_copy 3 (some (.object "HotStepsLaw$Own")) 2 12 177 w N0 [.ref (hz_ad w b)] M0 (hz_Qo w (N0 + 12) N0 ME) := by
  refine Met.ofW (cc := cX11_copy) (maxL := 3) (ret := (some (.object "HotStepsLaw$Own"))) (by decide) rfl ?_
  intro p e s m args below meth c s₁ B hml hv
  obtain ⟨rfl, ⟨hWd, hal⟩, hX⟩ := hv
  have hts0 := atoms_spec (ws := Cond.code yX11_copy cX11_copy 3 (some (.object "HotStepsLaw$Own")) :: hz_TB) B.pre
  have hown : s.vm.findClass "HotStepsLaw$Own" = some m.cls := findClass_of_methodNamed B.named
  have hl := lv_entry [.ref (hz_ad w b)] (n := 3) (Nat.le_of_ble_eq_true rfl)
  have hO : hz_Ok p s m ([.ref (hz_ad w b)] : List Value).toArray meth c w cX11_copy 3 "HotStepsLaw$Own" (some (.object "HotStepsLaw$Own")) := ⟨⟨B.exec, B.bytes, hml, hown, fun q hq => hts0 q (List.mem_cons_of_mem _ hq)⟩, B.returns, B.notSynchronized, hX, hWd.2.2.2⟩
  have e0 : (hz_wl w N0 M0).length = N0 := hz_wl_len (by omega)
  rw [lg_entry_eq]
  have key : ∀ (args : Array Value), hz_Ok p s m args meth c w cX11_copy 3 "HotStepsLaw$Own" (some (.object "HotStepsLaw$Own")) → hz_B p l e 2 ((12, 177), (0, 0)) s m args below meth c w 3 (MQ below (hz_Qo w (N0 + 12) N0 ME) args s 12 177 (hz_A w)) (hz_wl w N0 M0) [] 0 [(0, .ref (hz_ad w b))] [] := by
    intro args hO
    refine hz_b_new hO hz_K_11 tyX11 tyX11_ok tw_4_37 tw_3_173 tw_1_16 (fs := [.int 0, .int 0, .int 0, .int 0, .int 0, .int 0, .int 0, .int 0, .int 0, .int 0, .int 0, .int 0, .null, .null, .null, .null, .null, .null, .null, .null, .null, .null, .null, .int 0]) (by decide) ⟨(Nat.le_of_ble_eq_true rfl), (Nat.le_of_ble_eq_true rfl)⟩ dX11_copy_0 ?_
    refine hz_b_S (S1 := [.inr (11, [.int 0, .int 0, .int 0, .int 0, .int 0, .int 0, .int 0, .int 0, .int 0, .int 0, .int 0, .int 0, .null, .null, .null, .null, .null, .null, .null, .null, .null, .null, .null, .int 0])]) rfl ?_
    refine hz_b_st (st1 := [.ref (hz_ad w N0)]) (by rw [List.length_nil, Nat.add_zero, e0]) ?_
    refine hz_b_dup hO dX11_copy_3 rfl ?_
    refine hz_b_call (mc := 11) (ms := 153) (hc := 1) (x := hz_ad w N0) (as := []) (rest := [.ref (hz_ad w N0)]) (S1 := hz_oc w N0) hO (c_X11_init l w (hz_wl w N0 M0) e0) hz_cal_X11_init tw_4_38 (Nat.le_of_ble_eq_true rfl) rfl rfl (Nat.le_of_ble_eq_true rfl) ⟨(Nat.le_of_ble_eq_true rfl), (Nat.le_of_ble_eq_true rfl)⟩ rfl dX11_copy_4 ?_
    refine hz_b_z (z1 := ((12, 177), (12, 177))) rfl ?_
    refine hz_b_toG (N := N0 + 12) (M := hz_mo N0 M0) (hz_oc_wl hN9 hB2) ?_
    have hB : hz_Own (N0 + 12) b := hz_own_le (by omega) hB0
    refine hz_astore_n (ls1 := [(1, .ref (hz_ad w N0)), (0, .ref (hz_ad w b))]) hO dX11_copy_7 rfl (Nat.le_of_ble_eq_true rfl) rfl ?_
    have key2 : ∀ (N b2 : Nat) (hN : 178 ≤ N) (hB : hz_Own N b) (hB2 : hz_Own N b2) (M : hz_M), f_X11_copy b b2 M = some (rE, ME) → hz_G p l e 2 ((12, 177), (12, 177)) s m args below meth c w N 3 (MQ below (hz_Qo w N b2 ME) args s 12 177 (hz_A w)) M 8 [(1, .ref (hz_ad w b2)), (0, .ref (hz_ad w b))] [] := by
      intro N b2 hN hB hB2 M h
      unfold f_X11_copy at h
      refine hz_aload_n hO dX11_copy_8 rfl 0 rfl ?_
      refine hz_aload_n hO dX11_copy_9 rfl 1 rfl ?_
      refine hz_getI (k := 0) hO hz_K_11 hB.1 hB.2.1 rfl (Nat.le_of_ble_eq_true rfl) tw_3_178 rfl dX11_copy_10 ?_
      obtain ⟨M1, h_M1, h⟩ := hz_lm_e h
      refine hz_putI (k := 0) (ty := .int) hO hz_K_11 tyX11_ok nmX11 hB2.1 hB2.2.1 rfl (Nat.le_of_ble_eq_true rfl) tw_3_178 rfl rfl rfl rfl rfl dX11_copy_13 ?_
      refine hz_nameM h_M1 ?_
      refine hz_aload_n hO dX11_copy_16 rfl 0 rfl ?_
      refine hz_aload_n hO dX11_copy_17 rfl 1 rfl ?_
      refine hz_getI (k := 1) hO hz_K_11 hB.1 hB.2.1 rfl (Nat.le_of_ble_eq_true rfl) tw_3_180 rfl dX11_copy_18 ?_
      obtain ⟨M2, h_M2, h⟩ := hz_lm_e h
      refine hz_putI (k := 1) (ty := .int) hO hz_K_11 tyX11_ok nmX11 hB2.1 hB2.2.1 rfl (Nat.le_of_ble_eq_true rfl) tw_3_180 rfl rfl rfl rfl rfl dX11_copy_21 ?_
      refine hz_nameM h_M2 ?_
      refine hz_aload_n hO dX11_copy_24 rfl 0 rfl ?_
      refine hz_aload_n hO dX11_copy_25 rfl 1 rfl ?_
      refine hz_getI (k := 2) hO hz_K_11 hB.1 hB.2.1 rfl (Nat.le_of_ble_eq_true rfl) tw_3_182 rfl dX11_copy_26 ?_
      obtain ⟨M3, h_M3, h⟩ := hz_lm_e h
      refine hz_putI (k := 2) (ty := .int) hO hz_K_11 tyX11_ok nmX11 hB2.1 hB2.2.1 rfl (Nat.le_of_ble_eq_true rfl) tw_3_182 rfl rfl rfl rfl rfl dX11_copy_29 ?_
      refine hz_nameM h_M3 ?_
      refine hz_aload_n hO dX11_copy_32 rfl 0 rfl ?_
      refine hz_aload_n hO dX11_copy_33 rfl 1 rfl ?_
      refine hz_getI (k := 3) hO hz_K_11 hB.1 hB.2.1 rfl (Nat.le_of_ble_eq_true rfl) tw_3_184 rfl dX11_copy_34 ?_
      obtain ⟨M4, h_M4, h⟩ := hz_lm_e h
      refine hz_putI (k := 3) (ty := .int) hO hz_K_11 tyX11_ok nmX11 hB2.1 hB2.2.1 rfl (Nat.le_of_ble_eq_true rfl) tw_3_184 rfl rfl rfl rfl rfl dX11_copy_37 ?_
      refine hz_nameM h_M4 ?_
      refine hz_aload_n hO dX11_copy_40 rfl 0 rfl ?_
      refine hz_aload_n hO dX11_copy_41 rfl 1 rfl ?_
      refine hz_getI (k := 4) hO hz_K_11 hB.1 hB.2.1 rfl (Nat.le_of_ble_eq_true rfl) tw_3_186 rfl dX11_copy_42 ?_
      obtain ⟨M5, h_M5, h⟩ := hz_lm_e h
      refine hz_putI (k := 4) (ty := .int) hO hz_K_11 tyX11_ok nmX11 hB2.1 hB2.2.1 rfl (Nat.le_of_ble_eq_true rfl) tw_3_186 rfl rfl rfl rfl rfl dX11_copy_45 ?_
      refine hz_nameM h_M5 ?_
      refine hz_aload_n hO dX11_copy_48 rfl 0 rfl ?_
      refine hz_aload_n hO dX11_copy_49 rfl 1 rfl ?_
      refine hz_getI (k := 5) hO hz_K_11 hB.1 hB.2.1 rfl (Nat.le_of_ble_eq_true rfl) tw_3_188 rfl dX11_copy_50 ?_
      obtain ⟨M6, h_M6, h⟩ := hz_lm_e h
      refine hz_putI (k := 5) (ty := .int) hO hz_K_11 tyX11_ok nmX11 hB2.1 hB2.2.1 rfl (Nat.le_of_ble_eq_true rfl) tw_3_188 rfl rfl rfl rfl rfl dX11_copy_53 ?_
      refine hz_nameM h_M6 ?_
      refine hz_aload_n hO dX11_copy_56 rfl 0 rfl ?_
      refine hz_aload_n hO dX11_copy_57 rfl 1 rfl ?_
      refine hz_getI (k := 6) hO hz_K_11 hB.1 hB.2.1 rfl (Nat.le_of_ble_eq_true rfl) tw_3_190 rfl dX11_copy_58 ?_
      obtain ⟨M7, h_M7, h⟩ := hz_lm_e h
      refine hz_putI (k := 6) (ty := .int) hO hz_K_11 tyX11_ok nmX11 hB2.1 hB2.2.1 rfl (Nat.le_of_ble_eq_true rfl) tw_3_190 rfl rfl rfl rfl rfl dX11_copy_61 ?_
      refine hz_nameM h_M7 ?_
      refine hz_aload_n hO dX11_copy_64 rfl 0 rfl ?_
      refine hz_aload_n hO dX11_copy_65 rfl 1 rfl ?_
      refine hz_getI (k := 7) hO hz_K_11 hB.1 hB.2.1 rfl (Nat.le_of_ble_eq_true rfl) tw_3_192 rfl dX11_copy_66 ?_
      obtain ⟨M8, h_M8, h⟩ := hz_lm_e h
      refine hz_putI (k := 7) (ty := .int) hO hz_K_11 tyX11_ok nmX11 hB2.1 hB2.2.1 rfl (Nat.le_of_ble_eq_true rfl) tw_3_192 rfl rfl rfl rfl rfl dX11_copy_69 ?_
      refine hz_nameM h_M8 ?_
      refine hz_aload_n hO dX11_copy_72 rfl 0 rfl ?_
      refine hz_aload_n hO dX11_copy_73 rfl 1 rfl ?_
      refine hz_getI (k := 8) hO hz_K_11 hB.1 hB.2.1 rfl (Nat.le_of_ble_eq_true rfl) tw_3_194 rfl dX11_copy_74 ?_
      obtain ⟨M9, h_M9, h⟩ := hz_lm_e h
      refine hz_putI (k := 8) (ty := .int) hO hz_K_11 tyX11_ok nmX11 hB2.1 hB2.2.1 rfl (Nat.le_of_ble_eq_true rfl) tw_3_194 rfl rfl rfl rfl rfl dX11_copy_77 ?_
      refine hz_nameM h_M9 ?_
      refine hz_aload_n hO dX11_copy_80 rfl 0 rfl ?_
      refine hz_aload_n hO dX11_copy_81 rfl 1 rfl ?_
      refine hz_getI (k := 9) hO hz_K_11 hB.1 hB.2.1 rfl (Nat.le_of_ble_eq_true rfl) tw_3_196 rfl dX11_copy_82 ?_
      obtain ⟨M10, h_M10, h⟩ := hz_lm_e h
      refine hz_putI (k := 9) (ty := .int) hO hz_K_11 tyX11_ok nmX11 hB2.1 hB2.2.1 rfl (Nat.le_of_ble_eq_true rfl) tw_3_196 rfl rfl rfl rfl rfl dX11_copy_85 ?_
      refine hz_nameM h_M10 ?_
      refine hz_aload_n hO dX11_copy_88 rfl 0 rfl ?_
      refine hz_aload_n hO dX11_copy_89 rfl 1 rfl ?_
      refine hz_getI (k := 10) hO hz_K_11 hB.1 hB.2.1 rfl (Nat.le_of_ble_eq_true rfl) tw_3_198 rfl dX11_copy_90 ?_
      obtain ⟨M11, h_M11, h⟩ := hz_lm_e h
      refine hz_putI (k := 10) (ty := .int) hO hz_K_11 tyX11_ok nmX11 hB2.1 hB2.2.1 rfl (Nat.le_of_ble_eq_true rfl) tw_3_198 rfl rfl rfl rfl rfl dX11_copy_93 ?_
      refine hz_nameM h_M11 ?_
      refine hz_aload_n hO dX11_copy_96 rfl 0 rfl ?_
      refine hz_aload_n hO dX11_copy_97 rfl 1 rfl ?_
      refine hz_getI (k := 11) hO hz_K_11 hB.1 hB.2.1 rfl (Nat.le_of_ble_eq_true rfl) tw_3_200 rfl dX11_copy_98 ?_
      obtain ⟨M12, h_M12, h⟩ := hz_lm_e h
      refine hz_putI (k := 11) (ty := .int) hO hz_K_11 tyX11_ok nmX11 hB2.1 hB2.2.1 rfl (Nat.le_of_ble_eq_true rfl) tw_3_200 rfl rfl rfl rfl rfl dX11_copy_101 ?_
      refine hz_nameM h_M12 ?_
      refine hz_iconst (v := (0 : Int32)) hO dX11_copy_104 (by decide) ?_
      refine hz_istore_n (ls1 := [(2, .int (0 : Int32)), (1, .ref (hz_ad w b2)), (0, .ref (hz_ad w b))]) hO dX11_copy_105 rfl (Nat.le_of_ble_eq_true rfl) rfl ?_
      obtain ⟨k60, hk60, h⟩ := hz_jn_e h
      have gk60 : ∀  (M13 : hz_M), k60 M13 = some (rE, ME) → hz_G p l e 2 ((12, 177), (12, 177)) s m args below meth c w N 3 (MQ below (hz_Qo w N b2 ME) args s 12 177 (hz_A w)) M13 129 [(0, .ref (hz_ad w b)), (1, .ref (hz_ad w b2))] [] := by
        intro M13 h
        rw [hk60] at h
        dsimp only at h
        refine hz_iconst (v := (0 : Int32)) hO dX11_copy_129 (by decide) ?_
        refine hz_istore_n (ls1 := [(2, .int (0 : Int32)), (0, .ref (hz_ad w b)), (1, .ref (hz_ad w b2))]) hO dX11_copy_130 rfl (Nat.le_of_ble_eq_true rfl) rfl ?_
        obtain ⟨k52, hk52, h⟩ := hz_jn_e h
        have gk52 : ∀  (M14 : hz_M), k52 M14 = some (rE, ME) → hz_G p l e 2 ((12, 177), (12, 177)) s m args below meth c w N 3 (MQ below (hz_Qo w N b2 ME) args s 12 177 (hz_A w)) M14 155 [(0, .ref (hz_ad w b)), (1, .ref (hz_ad w b2))] [] := by
          intro M14 h
          rw [hk52] at h
          dsimp only at h
          refine hz_iconst (v := (0 : Int32)) hO dX11_copy_155 (by decide) ?_
          refine hz_istore_n (ls1 := [(2, .int (0 : Int32)), (0, .ref (hz_ad w b)), (1, .ref (hz_ad w b2))]) hO dX11_copy_156 rfl (Nat.le_of_ble_eq_true rfl) rfl ?_
          obtain ⟨k44, hk44, h⟩ := hz_jn_e h
          have gk44 : ∀  (M15 : hz_M), k44 M15 = some (rE, ME) → hz_G p l e 2 ((12, 177), (12, 177)) s m args below meth c w N 3 (MQ below (hz_Qo w N b2 ME) args s 12 177 (hz_A w)) M15 181 [(0, .ref (hz_ad w b)), (1, .ref (hz_ad w b2))] [] := by
            intro M15 h
            rw [hk44] at h
            dsimp only at h
            refine hz_iconst (v := (0 : Int32)) hO dX11_copy_181 (by decide) ?_
            refine hz_istore_n (ls1 := [(2, .int (0 : Int32)), (0, .ref (hz_ad w b)), (1, .ref (hz_ad w b2))]) hO dX11_copy_182 rfl (Nat.le_of_ble_eq_true rfl) rfl ?_
            exact hz_ls [1, 2, 0] rfl (g_X11_copy_L183 hN hB hB2 hO _ (0 : Int32) M15 h)
          clear hk44
          exact hz_ls [1, 2, 0] rfl (g_X11_copy_L157 hN hB hB2 hO _ gk44 _ (0 : Int32) M14 h)
        clear hk52
        exact hz_ls [1, 2, 0] rfl (g_X11_copy_L131 hN hB hB2 hO _ gk52 _ (0 : Int32) M13 h)
      clear hk60
      exact hz_ls [2, 1, 0] rfl (g_X11_copy_L106 hN hB hB2 hO _ gk60 _ (0 : Int32) M12 h)
    exact key2 _ _ (by omega) hB hB2 _ h
  exact key _ hO ⟨Nat.zero_le _, Nat.zero_le _⟩ s.heap [] _ ⟨by rw [List.append_nil]; exact hz_al_B (by omega) hWd hal, rfl⟩ va_S.rf hl
