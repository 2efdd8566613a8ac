theorem tw_3_153 : (Jvm.Cond.methodLink "HotStepsLaw" (342 : Nat) ({ cls := "HotSteps", name := "undo", desc := "()I" } : Jvm.MethodName)) ∈ hz_TB := hz_tb (hz_t3 _ (List.mem_of_getElem? (i := 153) rfl)) rfl
theorem tw_4_47 : (Jvm.Cond.methodLink "HotStepsLaw" (331 : Nat) ({ cls := "HotStepsLaw", name := "isAs", desc := "(LHotSteps;LHotStepsLaw$Own;I)Z" } : Jvm.MethodName)) ∈ hz_TB := hz_tb (hz_t4 _ (List.mem_of_getElem? (i := 47) rfl)) rfl
theorem tw_5_80 : (Jvm.Cond.methodLink "HotStepsLaw" (334 : Nat) ({ cls := "HotStepsLaw", name := "isForetold", desc := "(LHotSteps;LHotStepsLaw$Own;III)Z" } : Jvm.MethodName)) ∈ hz_TB := hz_tb (hz_t5 _ (List.mem_of_getElem? (i := 80) rfl)) rfl
theorem tw_5_81 : (Jvm.Cond.static ({ cls := "HotStepsLaw", name := "isForetold", desc := "(LHotSteps;LHotStepsLaw$Own;III)Z" } : Jvm.MethodName)) ∈ hz_TB := hz_tb (hz_t5 _ (List.mem_of_getElem? (i := 81) rfl)) rfl
theorem tw_5_82 : (Jvm.Cond.code ({ cls := "HotStepsLaw", name := "isForetold", desc := "(LHotSteps;LHotStepsLaw$Own;III)Z" } : Jvm.MethodName) method_10_code (11 : Nat) (Option.some Jvm.ClassFile.FieldType.boolean)) ∈ hz_TB := hz_tb (hz_t5 _ (List.mem_of_getElem? (i := 82) rfl)) rfl
theorem tw_5_138 : (Jvm.Cond.methodLink "HotStepsLaw" (338 : Nat) ({ cls := "HotStepsLaw", name := "acts", desc := "(LHotSteps;LHotStepsLaw$Own;[II)I" } : Jvm.MethodName)) ∈ hz_TB := hz_tb (hz_t5 _ (List.mem_of_getElem? (i := 138) rfl)) rfl
theorem tw_6_102 : (Jvm.Cond.static ({ cls := "HotStepsLaw", name := "begins", desc := "(LHotSteps;LHotStepsLaw$Own;[I)Z" } : Jvm.MethodName)) ∈ hz_TB := hz_tb (hz_t6 _ (List.mem_of_getElem? (i := 102) rfl)) rfl
theorem tw_6_103 : (Jvm.Cond.code ({ cls := "HotStepsLaw", name := "begins", desc := "(LHotSteps;LHotStepsLaw$Own;[I)Z" } : Jvm.MethodName) method_13_code (5 : Nat) (Option.some Jvm.ClassFile.FieldType.boolean)) ∈ hz_TB := hz_tb (hz_t6 _ (List.mem_of_getElem? (i := 103) rfl)) rfl
theorem hz_cal_L_isForetold : hz_CalS RL yL_isForetold cL_isForetold 11 (some .boolean) 5 := ⟨⟨tw_5_82, tw_1_0, ⟨rfl, by decide, by decide, by decide +kernel⟩, Nat.le_of_ble_eq_true rfl⟩, tw_5_81⟩
theorem hz_cal_L_begins : hz_CalS RL yL_begins cL_begins 5 (some .boolean) 3 := ⟨⟨tw_6_103, tw_1_0, ⟨rfl, by decide, by decide, by decide +kernel⟩, Nat.le_of_ble_eq_true rfl⟩, tw_6_102⟩
def hz_Nt (t : Nat) : Nat := 191 + 12 * (t + 2 * (t / 6))
def hz_Np (t : Nat) : Nat := 191 + 12 * (t + 2 * ((t + 1) / 6))
theorem hz_k20 (t : Nat) : (20 : Int32) + 6 * nI t = nI (20 + 6 * t) := by
  show nI 20 + nI 6 * nI t = nI (20 + 6 * t)
  rw [← nI_add]
  exact congrArg (nI 20 + ·) (Int32.ofNat_mul 6 t).symm
theorem hz_r6 : ∀ t, t < 36 → nI t - nI t / 6 * 6 = nI (t % 6) := by decide +kernel
theorem hz_r65 : ∀ t, t < 36 → (nI (t % 6) = 5 ↔ t % 6 = 5) := by decide +kernel
def f_lawF (xs : Nat → Int32) (L t bo : Nat) (kz : hz_M → hz_O) (M : hz_M) : hz_O :=
  if t % 6 = 5 then
    hz_ct (f_L_pick xs L (nI (20 + 6 * t) + 3) (9 : Int32) M) fun r1 M1 =>
    hz_ct (f_L_pick xs L (nI (20 + 6 * t) + 4) (9 : Int32) M1) fun r2 M2 =>
    hz_ct (f_L_pick xs L (nI (20 + 6 * t) + 5) (201 : Int32) M2) fun r3 M3 =>
    hz_ct (f_L_isForetold bo (hz_Nt t) r1 r2 r3 M3) fun r4 M4 =>
    hz_gd (hz_nz r4) <| kz M4
  else kz M
def f_lawL (xs : Nat → Int32) (L : Nat) (kz : Nat → Nat → Int32 → hz_M → hz_O) : Nat → Nat → Nat → Nat → Int32 → hz_M → hz_O
  | 0, _, _, _, _, _ => none
  | n + 1, t, bo, kept, rf, M =>
    if 36 ≤ t then kz bo kept rf M else
    hz_ct (f_L_isAs bo rf M) fun r0 M0 =>
    hz_gd (hz_nz r0) <|
    f_lawF xs L t bo (fun M1 =>
      hz_ct (f_X11_copy bo (hz_Np t) (hz_mo (hz_Np t) M1)) fun _ M2 =>
      hz_ct (f_L_acts (hz_Np t) xs L (nI (20 + 6 * t)) M2) fun r3 M3 =>
      hz_gd (hz_nz r3) <|
      if 0 ≤ r3 then
        hz_ct (f_X10_size (16 : Int32) (hz_set M3 190 kept (nI (bo + 1)))) fun r5 M5 =>
        hz_gd (r5 == (if nI (kept + 1) < 8 then nI (kept + 1) else 8)) <|
        f_lawL xs L kz n (t + 1) (hz_Np t) (kept + 1) rf M5
      else f_lawL xs L kz n (t + 1) bo kept (rf + 1) M3) M0
def f_lawU (rf : Int32) : Nat → Int32 → Int32 → hz_M → hz_O
  | 0, _, _, _ => none
  | n + 1, lf, k, M =>
    if lf ≤ 0 then
      hz_ct (f_X10_undo M) fun r M1 => hz_gd (r == (-1 : Int32)) <| some ((1 : Int32), M1)
    else
      hz_ct (f_X10_undo M) fun r M1 =>
      hz_gd (r == lf + Int32.ofInt (-1)) <|
      hz_gd (hz_in k 40) <|
      hz_gd (hz_bo (M1 190 k.toNatClampNeg)) <|
      hz_ct (f_L_isAs (hz_pl (M1 190 k.toNatClampNeg)) rf M1) fun r2 M2 =>
      hz_gd (hz_nz r2) <|
      f_lawU rf n (lf + Int32.ofInt (-1)) (k + Int32.ofInt (-1)) M2
def f_lawE (bo kept : Nat) (rf : Int32) (M : hz_M) : hz_O :=
  hz_ct (f_L_isAs bo rf M) fun r0 M0 =>
  hz_gd (hz_nz r0) <|
  f_lawU rf hz_FU (if nI kept < 8 then nI kept else 8) (nI kept - 1) M0
def hz_m3 (M : hz_M) : hz_M := fun a b => if a = 190 then 0 else M a b
def f_law (xs : Nat → Int32) (L : Nat) (M : hz_M) : hz_O :=
  hz_ct (f_L_begins 178 xs L M) fun r M1 =>
  hz_gd (hz_nz r) <|
  f_lawL xs L f_lawE 40 0 178 0 0 (hz_m3 M1)
set_option maxRecDepth 100000 in
set_option maxHeartbeats 4000000 in
theorem g_lawU {p : Program} {l : Launch} {e : Env} {s : State} {m : MethodId} {below : List Frame} {meth : Method} {c : Code} {w : hz_C} {b L : Nat} {xs : Nat → Int32} (hO : hz_Ok p s m #[Value.ref b] meth c w cL_law 10 "HotStepsLaw" (some .boolean)) (hsc : hz_scx w = xs ∧ hz_scl w = L) (hA : ∀ q, hz_A w q → s.heap.size ≤ q) {kc ks bo kept : Nat} {rf rE : Int32} {ME : hz_M} (hz9 : kc ≤ 600086 ∧ ks ≤ 7301442) : ∀ (n : Nat) (lf k : Int32) (M : hz_M), f_lawU rf n lf k M = some (rE, ME) → hz_G p l e 10 ((600086, 7301442), (kc, ks)) s m #[Value.ref b] below meth c w 767 10 (lw_Z below #[Value.ref b] s) M 216 [(0, .ref (hz_scb w)), (1, .ref (hz_ad w 0)), (2, .ref (hz_ad w bo)), (3, .ref (hz_ad w 190)), (4, .int (nI kept)), (5, .int rf), (6, .int lf), (7, .int k)] [] := by
  intro n
  induction n with
  | zero =>
    intro lf k M h
    rw [f_lawU] at h
    cases h
  | succ n ih =>
    intro lf k M h
    rw [f_lawU] at h
    refine hz_iload hO dL_law_216 6 rfl ?_
    refine hz_if_le (tgt := 254) hO dL_law_218 (by decide) (fun hc => ?_) (fun hc => ?_)
    · rw [if_pos hc] at h
      obtain ⟨r, M1, h1, h⟩ := hz_ct_e h
      obtain ⟨hr, h⟩ := hz_gd_e h
      have hr : r = (-1 : Int32) := by simpa using hr
      refine hz_aload_n hO dL_law_254 rfl 1 rfl ?_
      refine hz_callVi (as := []) (rest := []) hO (c_X10_undo l w (by decide) h1) hz_cal_X10_undo hz_K_10 hz_sh_0 (hz_lt_0 (by decide)) tw_3_153 (Nat.le_of_ble_eq_true rfl) rfl rfl (Nat.le_of_ble_eq_true rfl) dL_law_255 ?_
      refine hz_iconst (v := (-1 : Int32)) hO dL_law_258 (by decide) ?_
      refine hz_icmp_ne (tgt := 266) hO dL_law_259 (by decide) (fun hc => absurd hr hc) (fun _ => ?_)
      refine hz_iconst (v := (1 : Int32)) hO dL_law_262 (by decide) ?_
      refine hz_goto (tgt := 267) hO dL_law_263 (by decide) ?_
      exact hz_lret hO hA hz9 dL_law_267
    rw [if_neg hc] at h
    obtain ⟨r, M1, h1, h⟩ := hz_ct_e h
    obtain ⟨hr, h⟩ := hz_gd_e h
    have hr : r = lf + Int32.ofInt (-1) := by simpa using hr
    obtain ⟨hin, h⟩ := hz_gd_e h
    obtain ⟨hbo, h⟩ := hz_gd_e h
    obtain ⟨r2, M2, h2, h⟩ := hz_ct_e h
    obtain ⟨hr2, h⟩ := hz_gd_e h
    refine hz_iinc (k := 6) (v := lf + Int32.ofInt (-1)) (ls1 := [(6, .int (lf + Int32.ofInt (-1))), (0, .ref (hz_scb w)), (1, .ref (hz_ad w 0)), (2, .ref (hz_ad w bo)), (3, .ref (hz_ad w 190)), (4, .int (nI kept)), (5, .int rf), (7, .int k)]) hO dL_law_221 rfl rfl (Nat.le_of_ble_eq_true rfl) rfl ?_
    refine hz_aload_n hO dL_law_224 rfl 2 rfl ?_
    refine hz_callVi (as := []) (rest := []) hO (c_X10_undo l w (by decide) h1) hz_cal_X10_undo hz_K_10 hz_sh_0 (hz_lt_0 (by decide)) tw_3_153 (Nat.le_of_ble_eq_true rfl) rfl rfl (Nat.le_of_ble_eq_true rfl) dL_law_225 ?_
    refine hz_iload hO dL_law_228 0 rfl ?_
    refine hz_icmp_ne (tgt := 246) hO dL_law_230 (by decide) (fun hc => absurd hr hc) (fun _ => ?_)
    refine hz_aload_n hO dL_law_233 rfl 2 rfl ?_
    refine hz_aload_n hO dL_law_234 rfl 4 rfl ?_
    refine hz_iload hO dL_law_235 7 rfl ?_
    refine hz_paald hO (by decide) hin hbo dL_law_237 ?_
    refine hz_iload hO dL_law_238 6 rfl ?_
    refine hz_callSi (as := [.ref (hz_ad w 0), .ref (hz_ad w (hz_pl (M1 190 k.toNatClampNeg))), .int rf]) (rest := []) hO (c_L_isAs l w (by decide) (hz_bo_e hbo).2 rf h2) hz_cal_L_isAs tw_4_47 (Nat.le_of_ble_eq_true rfl) rfl rfl (Nat.le_of_ble_eq_true rfl) dL_law_240 ?_
    refine hz_if_ne (tgt := 248) hO dL_law_243 (by decide) (fun _ => ?_) (fun hc => absurd hc (hz_nz_e hr2))
    refine hz_iinc (k := 7) (v := k + Int32.ofInt (-1)) (ls1 := [(7, .int (k + Int32.ofInt (-1))), (6, .int (lf + Int32.ofInt (-1))), (0, .ref (hz_scb w)), (1, .ref (hz_ad w 0)), (2, .ref (hz_ad w bo)), (3, .ref (hz_ad w 190)), (4, .int (nI kept)), (5, .int rf)]) hO dL_law_248 rfl rfl (Nat.le_of_ble_eq_true rfl) rfl ?_
    refine hz_goto (tgt := 216) hO dL_law_251 (by decide) ?_
    exact hz_ls [2, 3, 4, 5, 6, 7, 1, 0] rfl (ih _ _ M2 h)
set_option maxRecDepth 100000 in
set_option maxHeartbeats 4000000 in
theorem g_lawE {p : Program} {l : Launch} {e : Env} {s : State} {m : MethodId} {below : List Frame} {meth : Method} {c : Code} {w : hz_C} {b L : Nat} {xs : Nat → Int32} (hO : hz_Ok p s m #[Value.ref b] meth c w cL_law 10 "HotStepsLaw" (some .boolean)) (hsc : hz_scx w = xs ∧ hz_scl w = L) (hA : ∀ q, hz_A w q → s.heap.size ≤ q) {kc ks : Nat} (hz9 : kc ≤ 600086 ∧ ks ≤ 7301442) {bo kept : Nat} {rf rE : Int32} {ME : hz_M} (hB : hz_Own 767 bo) (M : hz_M) (h : f_lawE bo kept rf M = some (rE, ME)) : hz_G p l e 10 ((600086, 7301442), (kc, ks)) s m #[Value.ref b] below meth c w 767 10 (lw_Z below #[Value.ref b] s) M 189 [(0, .ref (hz_scb w)), (1, .ref (hz_ad w 0)), (2, .ref (hz_ad w bo)), (3, .ref (hz_ad w 190)), (4, .int (nI kept)), (5, .int rf)] [] := by
  obtain ⟨r0, M0, h0, h⟩ := hz_ct_e h
  obtain ⟨hr0, h⟩ := hz_gd_e h
  refine hz_aload_n hO dL_law_189 rfl 1 rfl ?_
  refine hz_aload_n hO dL_law_190 rfl 2 rfl ?_
  refine hz_iload hO dL_law_191 5 rfl ?_
  refine hz_callSi (as := [.ref (hz_ad w 0), .ref (hz_ad w bo), .int rf]) (rest := []) hO (c_L_isAs l w (by decide) hB rf h0) hz_cal_L_isAs tw_4_47 (Nat.le_of_ble_eq_true rfl) rfl rfl (Nat.le_of_ble_eq_true rfl) dL_law_193 ?_
  refine hz_if_ne (tgt := 201) hO dL_law_196 (by decide) (fun _ => ?_) (fun hc => absurd hc (hz_nz_e hr0))
  refine hz_bipush (v := (8 : Int32)) hO dL_law_201 (by decide) ?_
  refine hz_iload hO dL_law_203 4 rfl ?_
  refine hz_mmin hO tw_4_168 (Nat.le_of_ble_eq_true rfl) (by decide) dL_law_205 ?_
  refine hz_istore (ls1 := [(6, .int (if nI kept < 8 then nI kept else 8)), (0, .ref (hz_scb w)), (1, .ref (hz_ad w 0)), (2, .ref (hz_ad w bo)), (3, .ref (hz_ad w 190)), (4, .int (nI kept)), (5, .int rf)]) hO dL_law_208 (Nat.le_of_ble_eq_true rfl) rfl ?_
  refine hz_iload hO dL_law_210 5 rfl ?_
  refine hz_iconst (v := (1 : Int32)) hO dL_law_212 (by decide) ?_
  refine hz_isub hO dL_law_213 ?_
  refine hz_istore (ls1 := [(7, .int (nI kept - 1)), (6, .int (if nI kept < 8 then nI kept else 8)), (0, .ref (hz_scb w)), (1, .ref (hz_ad w 0)), (2, .ref (hz_ad w bo)), (3, .ref (hz_ad w 190)), (4, .int (nI kept)), (5, .int rf)]) hO dL_law_214 (Nat.le_of_ble_eq_true rfl) rfl ?_
  exact hz_ls [2, 3, 4, 5, 6, 7, 1, 0] rfl (g_lawU hO hsc hA hz9 hz_FU _ _ M0 h)
set_option maxRecDepth 100000 in
set_option maxHeartbeats 8000000 in
theorem g_lawL {p : Program} {l : Launch} {e : Env} {s : State} {m : MethodId} {below : List Frame} {meth : Method} {c : Code} {w : hz_C} {b L : Nat} {xs : Nat → Int32} (hO : hz_Ok p s m #[Value.ref b] meth c w cL_law 10 "HotStepsLaw" (some .boolean)) (hsc : hz_scx w = xs ∧ hz_scl w = L) (hA : ∀ q, hz_A w q → s.heap.size ≤ q) {rE : Int32} {ME : hz_M} : ∀ (n t bo kept : Nat) (rf : Int32) (M : hz_M) (kc ks : Nat), t ≤ 36 → kept ≤ t → hz_Own (hz_Nt t) bo → kc ≤ 300 + 12 * t + 24 * (t / 6) → ks ≤ 46000 + 177 * t + 354 * (t / 6) → f_lawL xs L f_lawE n t bo kept rf M = some (rE, ME) → hz_H p l e 10 ((600086, 7301442), (kc, ks)) s m #[Value.ref b] below meth c w (hz_Nt t) 10 (lw_Z below #[Value.ref b] s) M 42 [(0, .ref (hz_scb w)), (1, .ref (hz_ad w 0)), (2, .ref (hz_ad w bo)), (3, .ref (hz_ad w 190)), (4, .int (nI kept)), (5, .int rf), (6, .int (nI t))] [] := by
  intro n
  induction n with
  | zero =>
    intro t bo kept rf M kc ks _ _ _ _ _ h
    rw [f_lawL] at h
    cases h
  | succ n ih =>
    intro t bo kept rf M kc ks ht hkt hB hkc hks h
    rw [f_lawL] at h
    refine hz_h_iload hO dL_law_42 6 rfl ?_
    refine hz_h_bipush (v := (36 : Int32)) hO dL_law_44 (by decide) ?_
    have h36 : (36 : Int32) ≤ nI t ↔ 36 ≤ t := nI_leI (a := 36) (by decide) (by omega)
    refine hz_h_icmp_ge (tgt := 189) hO dL_law_46 (by decide) (fun hc => ?_) (fun hc => ?_)
    · rw [if_pos (h36.mp hc)] at h
      have e36 : t = 36 := by have := h36.mp hc; omega
      subst e36
      exact hz_h_ls [0, 1, 2, 3, 4, 5] rfl (hz_h_toG (g_lawE hO hsc hA ⟨by omega, by omega⟩ hB M h))
    have ht36 : t < 36 := Nat.not_le.mp (fun q => hc (h36.mpr q))
    rw [if_neg (by omega)] at h
    obtain ⟨r0, M0, h0, h⟩ := hz_ct_e h
    obtain ⟨hr0, h⟩ := hz_gd_e h
    have hNt : 178 ≤ hz_Nt t := by unfold hz_Nt; omega
    refine hz_h_bipush (v := (20 : Int32)) hO dL_law_49 (by decide) ?_
    refine hz_h_bipush (v := (6 : Int32)) hO dL_law_51 (by decide) ?_
    refine hz_h_iload hO dL_law_53 6 rfl ?_
    refine hz_h_imul hO dL_law_55 ?_
    refine hz_h_iadd hO dL_law_56 ?_
    refine hz_h_name (y := nI (20 + 6 * t)) (hz_k20 t).symm ?_
    refine hz_h_istore (ls1 := [(7, .int (nI (20 + 6 * t))), (0, .ref (hz_scb w)), (1, .ref (hz_ad w 0)), (2, .ref (hz_ad w bo)), (3, .ref (hz_ad w 190)), (4, .int (nI kept)), (5, .int rf), (6, .int (nI t))]) hO dL_law_57 (Nat.le_of_ble_eq_true rfl) rfl ?_
    refine hz_h_ls (ls1 := [(0, .ref (hz_scb w)), (1, .ref (hz_ad w 0)), (2, .ref (hz_ad w bo)), (3, .ref (hz_ad w 190)), (4, .int (nI kept)), (5, .int rf), (6, .int (nI t)), (7, .int (nI (20 + 6 * t)))]) [1, 2, 3, 4, 5, 6, 7, 0] rfl ?_
    refine hz_h_aload_n hO dL_law_59 rfl 1 rfl ?_
    refine hz_h_aload_n hO dL_law_60 rfl 2 rfl ?_
    refine hz_h_iload hO dL_law_61 5 rfl ?_
    refine hz_h_callSi (as := [.ref (hz_ad w 0), .ref (hz_ad w bo), .int rf]) (rest := []) hO (c_L_isAs l w hNt hB rf h0) hz_cal_L_isAs tw_4_47 (Nat.le_of_ble_eq_true rfl) rfl rfl (Nat.le_of_ble_eq_true rfl) dL_law_63 ?_
    refine hz_h_if_eq (tgt := 117) hO dL_law_66 (by decide) (fun hc => absurd hc (hz_nz_e hr0)) (fun _ => ?_)
    have hNp : 178 ≤ hz_Np t := by unfold hz_Np; omega
    have hNp9 : hz_Np t + 12 ≤ 767 := by unfold hz_Np; omega
    have hNp1 : hz_Np t + 12 = hz_Nt (t + 1) := by unfold hz_Np hz_Nt; omega
    have hNNp : hz_Nt t ≤ hz_Np t := by unfold hz_Np hz_Nt; omega
    have hBn : hz_Own (hz_Np t + 12) (hz_Np t) := hz_own_n (t + 2 * ((t + 1) / 6)) (by omega) rfl (by omega)
    have key : ∀ (M1 : hz_M) (kc1 ks1 : Nat), kc1 ≤ 300 + 12 * t + 24 * ((t + 1) / 6) → ks1 ≤ 46000 + 177 * t + 354 * ((t + 1) / 6) → (hz_ct (f_X11_copy bo (hz_Np t) (hz_mo (hz_Np t) M1)) fun _ M2 => hz_ct (f_L_acts (hz_Np t) xs L (nI (20 + 6 * t)) M2) fun r3 M3 => hz_gd (hz_nz r3) <| if 0 ≤ r3 then hz_ct (f_X10_size (16 : Int32) (hz_set M3 190 kept (nI (bo + 1)))) fun r5 M5 => hz_gd (r5 == (if nI (kept + 1) < 8 then nI (kept + 1) else 8)) <| f_lawL xs L f_lawE n (t + 1) (hz_Np t) (kept + 1) rf M5 else f_lawL xs L f_lawE n (t + 1) bo kept (rf + 1) M3) = some (rE, ME) → hz_H p l e 10 ((600086, 7301442), (kc1, ks1)) s m #[Value.ref b] below meth c w (hz_Np t) 10 (lw_Z below #[Value.ref b] s) M1 119 [(0, .ref (hz_scb w)), (1, .ref (hz_ad w 0)), (2, .ref (hz_ad w bo)), (3, .ref (hz_ad w 190)), (4, .int (nI kept)), (5, .int rf), (6, .int (nI t)), (7, .int (nI (20 + 6 * t)))] [] := by
      intro M1 kc1 ks1 hk1 hs1 h
      obtain ⟨r2, M2, h2, h⟩ := hz_ct_e h
      obtain ⟨r3, M3, h3, h⟩ := hz_ct_e h
      obtain ⟨hr3, h⟩ := hz_gd_e h
      have hB1 : hz_Own (hz_Np t) bo := hz_own_le hNNp hB
      have hB2 : hz_Own (hz_Np t + 12) bo := hz_own_le (by omega) hB1
      refine hz_h_aload_n hO dL_law_119 rfl 2 rfl ?_
      refine hz_h_copy (rest := []) (hc := 2) (mc := 12) (ms := 177) hO rfl (c_X11_copy l w hNp hNp9 hB1 hBn h2) hB1 hBn tw_4_33 (Nat.le_of_ble_eq_true rfl) (Nat.le_of_ble_eq_true rfl) ⟨by show kc1 + 12 ≤ 600086; omega, by show ks1 + 177 ≤ 7301442; omega⟩ dL_law_120 ?_
      refine hz_h_astore (ls1 := [(8, .ref (hz_ad w (hz_Np t))), (0, .ref (hz_scb w)), (1, .ref (hz_ad w 0)), (2, .ref (hz_ad w bo)), (3, .ref (hz_ad w 190)), (4, .int (nI kept)), (5, .int rf), (6, .int (nI t)), (7, .int (nI (20 + 6 * t)))]) hO dL_law_123 (Nat.le_of_ble_eq_true rfl) rfl ?_
      refine hz_h_aload_n hO dL_law_125 rfl 2 rfl ?_
      refine hz_h_aload hO dL_law_126 0 rfl ?_
      refine hz_h_aload_n hO dL_law_128 rfl 1 rfl ?_
      refine hz_h_iload hO dL_law_129 8 rfl ?_
      refine hz_h_callSi (as := [.ref (hz_ad w 0), .ref (hz_ad w (hz_Np t)), .ref (hz_scb w), .int (nI (20 + 6 * t))]) (rest := []) hO (c_L_acts l w (by omega) hBn hsc (nI (20 + 6 * t)) h3) hz_cal_L_acts tw_5_138 (Nat.le_of_ble_eq_true rfl) rfl rfl (Nat.le_of_ble_eq_true rfl) dL_law_131 ?_
      refine hz_h_istore (ls1 := [(9, .int r3), (8, .ref (hz_ad w (hz_Np t))), (0, .ref (hz_scb w)), (1, .ref (hz_ad w 0)), (2, .ref (hz_ad w bo)), (3, .ref (hz_ad w 190)), (4, .int (nI kept)), (5, .int rf), (6, .int (nI t)), (7, .int (nI (20 + 6 * t)))]) hO dL_law_134 (Nat.le_of_ble_eq_true rfl) rfl ?_
      refine hz_h_iload hO dL_law_136 0 rfl ?_
      refine hz_h_if_ne (tgt := 143) hO dL_law_138 (by decide) (fun _ => ?_) (fun hc => absurd hc (hz_nz_e hr3))
      refine hz_h_iload hO dL_law_143 0 rfl ?_
      refine hz_h_if_ge (tgt := 154) hO dL_law_145 (by decide) (fun hc => ?_) (fun hc => ?_)
      · rw [if_pos hc] at h
        obtain ⟨r5, M5, h5, h⟩ := hz_ct_e h
        obtain ⟨hr5, h⟩ := hz_gd_e h
        have hr5 : r5 = (if nI (kept + 1) < 8 then nI (kept + 1) else 8) := by simpa using hr5
        have hik : hz_in (nI kept) 40 = true := by
          have := nI_toInt (n := kept) (by omega)
          simp only [hz_in, this, Bool.and_eq_true, decide_eq_true_eq]
          omega
        have hck : (nI kept).toNatClampNeg = kept := nI_clamp (by omega)
        refine hz_h_aload_n hO dL_law_154 rfl 5 rfl ?_
        refine hz_h_iload hO dL_law_155 6 rfl ?_
        refine hz_h_aload_n hO dL_law_157 rfl 4 rfl ?_
        refine hz_h_past hO (by unfold hz_Np; omega) hNp9 hB2 hik dL_law_158 ?_
        rw [hck]
        refine hz_h_iinc (k := 6) (v := nI (kept + 1)) (ls1 := [(4, .int (nI (kept + 1))), (9, .int r3), (8, .ref (hz_ad w (hz_Np t))), (0, .ref (hz_scb w)), (1, .ref (hz_ad w 0)), (2, .ref (hz_ad w bo)), (3, .ref (hz_ad w 190)), (5, .int rf), (6, .int (nI t)), (7, .int (nI (20 + 6 * t)))]) hO dL_law_159 rfl (nI_1 kept) (Nat.le_of_ble_eq_true rfl) rfl ?_
        refine hz_h_aload hO dL_law_162 2 rfl ?_
        refine hz_h_astore_n (ls1 := [(2, .ref (hz_ad w (hz_Np t))), (4, .int (nI (kept + 1))), (9, .int r3), (8, .ref (hz_ad w (hz_Np t))), (0, .ref (hz_scb w)), (1, .ref (hz_ad w 0)), (3, .ref (hz_ad w 190)), (5, .int rf), (6, .int (nI t)), (7, .int (nI (20 + 6 * t)))]) hO dL_law_164 rfl (Nat.le_of_ble_eq_true rfl) rfl ?_
        refine hz_h_aload_n hO dL_law_165 rfl 5 rfl ?_
        refine hz_h_bipush (v := (16 : Int32)) hO dL_law_166 (by decide) ?_
        refine hz_h_callVi (as := [.int (16 : Int32)]) (rest := []) hO (c_X10_size l w (by omega) (16 : Int32) h5) hz_cal_X10_size hz_K_10 hz_sh_0 (hz_lt_0 (by omega)) tw_3_60 (Nat.le_of_ble_eq_true rfl) rfl rfl (Nat.le_of_ble_eq_true rfl) dL_law_168 ?_
        refine hz_h_bipush (v := (8 : Int32)) hO dL_law_171 (by decide) ?_
        refine hz_h_iload hO dL_law_173 1 rfl ?_
        refine hz_h_mmin hO tw_4_168 (Nat.le_of_ble_eq_true rfl) (Nat.le_of_ble_eq_true rfl) dL_law_175 ?_
        refine hz_h_icmp_eq (tgt := 183) hO dL_law_178 (by decide) (fun _ => ?_) (fun hc => absurd hr5 hc)
        refine hz_h_iinc (k := 8) (v := nI (t + 1)) (ls1 := [(6, .int (nI (t + 1))), (2, .ref (hz_ad w (hz_Np t))), (4, .int (nI (kept + 1))), (9, .int r3), (8, .ref (hz_ad w (hz_Np t))), (0, .ref (hz_scb w)), (1, .ref (hz_ad w 0)), (3, .ref (hz_ad w 190)), (5, .int rf), (7, .int (nI (20 + 6 * t)))]) hO dL_law_183 rfl (nI_1 t) (Nat.le_of_ble_eq_true rfl) rfl ?_
        refine hz_h_goto (tgt := 42) hO dL_law_186 (by decide) ?_
        refine hz_h_ls (ls1 := [(0, .ref (hz_scb w)), (1, .ref (hz_ad w 0)), (2, .ref (hz_ad w (hz_Np t))), (3, .ref (hz_ad w 190)), (4, .int (nI (kept + 1))), (5, .int rf), (6, .int (nI (t + 1)))]) [5, 6, 1, 7, 2, 8, 0] rfl ?_
        rw [hNp1] at hBn ⊢
        exact ih (t + 1) (hz_Np t) (kept + 1) rf M5 (kc1 + 12) (ks1 + 177) (by omega) (by omega) hBn (by omega) (by omega) h
      · rw [if_neg hc] at h
        refine hz_h_iinc (k := 7) (v := rf + 1) (ls1 := [(5, .int (rf + 1)), (9, .int r3), (8, .ref (hz_ad w (hz_Np t))), (0, .ref (hz_scb w)), (1, .ref (hz_ad w 0)), (2, .ref (hz_ad w bo)), (3, .ref (hz_ad w 190)), (4, .int (nI kept)), (6, .int (nI t)), (7, .int (nI (20 + 6 * t)))]) hO dL_law_148 rfl rfl (Nat.le_of_ble_eq_true rfl) rfl ?_
        refine hz_h_goto (tgt := 183) hO dL_law_151 (by decide) ?_
        refine hz_h_iinc (k := 8) (v := nI (t + 1)) (ls1 := [(6, .int (nI (t + 1))), (5, .int (rf + 1)), (9, .int r3), (8, .ref (hz_ad w (hz_Np t))), (0, .ref (hz_scb w)), (1, .ref (hz_ad w 0)), (2, .ref (hz_ad w bo)), (3, .ref (hz_ad w 190)), (4, .int (nI kept)), (7, .int (nI (20 + 6 * t)))]) hO dL_law_183 rfl (nI_1 t) (Nat.le_of_ble_eq_true rfl) rfl ?_
        refine hz_h_goto (tgt := 42) hO dL_law_186 (by decide) ?_
        refine hz_h_ls (ls1 := [(0, .ref (hz_scb w)), (1, .ref (hz_ad w 0)), (2, .ref (hz_ad w bo)), (3, .ref (hz_ad w 190)), (4, .int (nI kept)), (5, .int (rf + 1)), (6, .int (nI (t + 1)))]) [4, 5, 6, 7, 8, 1, 0] rfl ?_
        rw [hNp1] at hB2 ⊢
        exact ih (t + 1) bo kept (rf + 1) M3 (kc1 + 12) (ks1 + 177) (by omega) (by omega) hB2 (by omega) (by omega) h
    unfold f_lawF at h
    refine hz_h_iload hO dL_law_69 6 rfl ?_
    refine hz_h_bipush (v := (6 : Int32)) hO dL_law_71 (by decide) ?_
    refine hz_h_irem hO dL_law_73 (by decide) ?_
    refine hz_h_name (y := nI (t % 6)) (hz_r6 t ht36).symm ?_
    refine hz_h_iconst (v := (5 : Int32)) hO dL_law_74 (by decide) ?_
    refine hz_h_icmp_ne (tgt := 119) hO dL_law_75 (by decide) (fun hc => ?_) (fun hc => ?_)
    · have h5 : ¬ t % 6 = 5 := fun q => hc ((hz_r65 t ht36).mpr q)
      rw [if_neg h5] at h
      have eN : hz_Nt t = hz_Np t := by unfold hz_Nt hz_Np; omega
      rw [eN]
      exact key M0 kc ks (by omega) (by omega) h
    · have h5 : t % 6 = 5 := (hz_r65 t ht36).mp hc
      rw [if_pos h5] at h
      have eN : hz_Nt t + 24 = hz_Np t := by unfold hz_Nt hz_Np; omega
      obtain ⟨r1, M1, h1, h⟩ := hz_ct_e h
      obtain ⟨r2, M2, h2, h⟩ := hz_ct_e h
      obtain ⟨r3, M3, h3, h⟩ := hz_ct_e h
      obtain ⟨r4, M4, h4, h⟩ := hz_ct_e h
      obtain ⟨hr4, h⟩ := hz_gd_e h
      refine hz_h_aload_n hO dL_law_78 rfl 1 rfl ?_
      refine hz_h_aload_n hO dL_law_79 rfl 2 rfl ?_
      refine hz_h_aload_n hO dL_law_80 rfl 0 rfl ?_
      refine hz_h_iload hO dL_law_81 7 rfl ?_
      refine hz_h_iconst (v := (3 : Int32)) hO dL_law_83 (by decide) ?_
      refine hz_h_iadd hO dL_law_84 ?_
      refine hz_h_bipush (v := (9 : Int32)) hO dL_law_85 (by decide) ?_
      refine hz_h_callSi (as := [.ref (hz_scb w), .int (nI (20 + 6 * t) + 3), .int (9 : Int32)]) (rest := [.ref (hz_ad w bo), .ref (hz_ad w 0)]) hO (c_L_pick l w hNt hsc (nI (20 + 6 * t) + 3) (9 : Int32) h1) hz_cal_L_pick tw_4_39 (Nat.le_of_ble_eq_true rfl) rfl rfl (Nat.le_of_ble_eq_true rfl) dL_law_87 ?_
      refine hz_h_aload_n hO dL_law_90 rfl 0 rfl ?_
      refine hz_h_iload hO dL_law_91 7 rfl ?_
      refine hz_h_iconst (v := (4 : Int32)) hO dL_law_93 (by decide) ?_
      refine hz_h_iadd hO dL_law_94 ?_
      refine hz_h_bipush (v := (9 : Int32)) hO dL_law_95 (by decide) ?_
      refine hz_h_callSi (as := [.ref (hz_scb w), .int (nI (20 + 6 * t) + 4), .int (9 : Int32)]) (rest := [.int r1, .ref (hz_ad w bo), .ref (hz_ad w 0)]) hO (c_L_pick l w hNt hsc (nI (20 + 6 * t) + 4) (9 : Int32) h2) hz_cal_L_pick tw_4_39 (Nat.le_of_ble_eq_true rfl) rfl rfl (Nat.le_of_ble_eq_true rfl) dL_law_97 ?_
      refine hz_h_aload_n hO dL_law_100 rfl 0 rfl ?_
      refine hz_h_iload hO dL_law_101 7 rfl ?_
      refine hz_h_iconst (v := (5 : Int32)) hO dL_law_103 (by decide) ?_
      refine hz_h_iadd hO dL_law_104 ?_
      refine hz_h_sipush (v := (201 : Int32)) hO dL_law_105 (by decide) ?_
      refine hz_h_callSi (as := [.ref (hz_scb w), .int (nI (20 + 6 * t) + 5), .int (201 : Int32)]) (rest := [.int r2, .int r1, .ref (hz_ad w bo), .ref (hz_ad w 0)]) hO (c_L_pick l w hNt hsc (nI (20 + 6 * t) + 5) (201 : Int32) h3) hz_cal_L_pick tw_4_39 (Nat.le_of_ble_eq_true rfl) rfl rfl (Nat.le_of_ble_eq_true rfl) dL_law_108 ?_
      have hBa : hz_Own (hz_Nt t + 12) (hz_Nt t) := hz_own_n (t + 2 * (t / 6)) (by omega) rfl (by omega)
      have hBb : hz_Own (hz_Nt t + 24) (hz_Nt t + 12) := hz_own_n (t + 2 * (t / 6) + 1) (by omega) (by unfold hz_Nt; omega) (by omega)
      have hla : hz_SH[hz_Nt t + 23]? = some (hz_os (hz_Nt t + 12) 11) := hBb.2.2.2.2.2.2.2.2.2.2.2.2.2.2.2.2.2.2.2.2.2.2.1
      refine hz_h_fore (d := 23) (mc := 24) (ms := 354) (as := [.ref (hz_ad w 0), .ref (hz_ad w bo), .int r1, .int r2, .int r3]) (rest := []) hO rfl hla (c_L_isForetold l w hNt (by omega) hB hBa hBb r1 r2 r3 h4) hz_cal_L_isForetold tw_5_80 (Nat.le_of_ble_eq_true rfl) rfl rfl (Nat.le_of_ble_eq_true rfl) ⟨by show kc + 24 ≤ 600086; omega, by show ks + 354 ≤ 7301442; omega⟩ dL_law_111 ?_
      refine hz_h_if_ne (tgt := 119) hO dL_law_114 (by decide) (fun _ => ?_) (fun hc => absurd hc (hz_nz_e hr4))
      rw [eN]
      exact key M4 (kc + 24) (ks + 354) (by omega) (by omega) h
