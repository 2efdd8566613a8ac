theorem tw_1_17 : (Jvm.Cond.initialized "java/lang/AbstractStringBuilder") ∈ hz_TB := hz_tb (hz_t1 _ (List.mem_of_getElem? (i := 17) rfl)) rfl
theorem tw_6_105 : (Jvm.Cond.instantiable "java/lang/StringBuilder" (4 : Nat)) ∈ hz_TB := hz_tb (hz_t6 _ (List.mem_of_getElem? (i := 105) rfl)) rfl
theorem tw_6_142 : (Jvm.Cond.methodLink "java/lang/AbstractStringBuilder" (100 : Nat) ({ cls := "java/lang/AbstractStringBuilder", name := "ensureCapacityInternal", desc := "(I)V" } : Jvm.MethodName)) ∈ hz_TB := hz_tb (hz_t6 _ (List.mem_of_getElem? (i := 142) rfl)) rfl
theorem tw_6_144 : (Jvm.Cond.instanceMethod ({ cls := "java/lang/AbstractStringBuilder", name := "ensureCapacityInternal", desc := "(I)V" } : Jvm.MethodName)) ∈ hz_TB := hz_tb (hz_t6 _ (List.mem_of_getElem? (i := 144) rfl)) rfl
theorem tw_6_145 : (Jvm.Cond.code ({ cls := "java/lang/AbstractStringBuilder", name := "ensureCapacityInternal", desc := "(I)V" } : Jvm.MethodName) prog_15_method_9_code (3 : Nat) (Option.none : Option Jvm.ClassFile.FieldType)) ∈ hz_TB := hz_tb (hz_t6 _ (List.mem_of_getElem? (i := 145) rfl)) rfl
theorem tw_6_146 : (Jvm.Cond.methodLink "java/lang/AbstractStringBuilder" (104 : Nat) ({ cls := "java/lang/AbstractStringBuilder", name := "newCapacity", desc := "(I)I" } : Jvm.MethodName)) ∈ hz_TB := hz_tb (hz_t6 _ (List.mem_of_getElem? (i := 146) rfl)) rfl
theorem tw_6_148 : (Jvm.Cond.instanceMethod ({ cls := "java/lang/AbstractStringBuilder", name := "newCapacity", desc := "(I)I" } : Jvm.MethodName)) ∈ hz_TB := hz_tb (hz_t6 _ (List.mem_of_getElem? (i := 148) rfl)) rfl
theorem tw_6_158 : (Jvm.Cond.methodLink "java/lang/AbstractStringBuilder" (108 : Nat) ({ cls := "java/util/Arrays", name := "copyOf", desc := "([BI)[B" } : Jvm.MethodName)) ∈ hz_TB := hz_tb (hz_t6 _ (List.mem_of_getElem? (i := 158) rfl)) rfl
theorem tw_6_159 : (Jvm.Cond.static ({ cls := "java/util/Arrays", name := "copyOf", desc := "([BI)[B" } : Jvm.MethodName)) ∈ hz_TB := hz_tb (hz_t6 _ (List.mem_of_getElem? (i := 159) rfl)) rfl
theorem tw_6_170 : (Jvm.Cond.methodLink "java/lang/AbstractStringBuilder" (83 : Nat) ({ cls := "java/lang/AbstractStringBuilder", name := "isLatin1", desc := "()Z" } : Jvm.MethodName)) ∈ hz_TB := hz_tb (hz_t6 _ (List.mem_of_getElem? (i := 170) rfl)) rfl
theorem tw_6_171 : (Jvm.Cond.instanceMethod ({ cls := "java/lang/AbstractStringBuilder", name := "isLatin1", desc := "()Z" } : Jvm.MethodName)) ∈ hz_TB := hz_tb (hz_t6 _ (List.mem_of_getElem? (i := 171) rfl)) rfl
theorem tw_6_173 : (Jvm.Cond.selects "java/lang/StringBuilder" ({ cls := "java/lang/AbstractStringBuilder", name := "isLatin1", desc := "()Z" } : Jvm.MethodName) ({ cls := "java/lang/AbstractStringBuilder", name := "isLatin1", desc := "()Z" } : Jvm.MethodName)) ∈ hz_TB := hz_tb (hz_t6 _ (List.mem_of_getElem? (i := 173) rfl)) rfl
theorem tw_6_227 : (Jvm.Cond.fieldLink "java/lang/AbstractStringBuilder" (79 : Nat) "java/lang/AbstractStringBuilder" "count" "I") ∈ hz_TB := hz_tb (hz_t6 _ (List.mem_of_getElem? (i := 227) rfl)) rfl
theorem tw_7_27 : (Jvm.Cond.code ({ cls := "java/lang/AbstractStringBuilder", name := "append", desc := "(C)Ljava/lang/AbstractStringBuilder;" } : Jvm.MethodName) prog_15_method_31_code (2 : Nat) (Option.some (Jvm.ClassFile.FieldType.object "java/lang/AbstractStringBuilder"))) ∈ hz_TB := hz_tb (hz_t7 _ (List.mem_of_getElem? (i := 27) rfl)) rfl
theorem tw_7_28 : (Jvm.Cond.methodLink "java/lang/AbstractStringBuilder" (191 : Nat) ({ cls := "java/lang/StringLatin1", name := "canEncode", desc := "(C)Z" } : Jvm.MethodName)) ∈ hz_TB := hz_tb (hz_t7 _ (List.mem_of_getElem? (i := 28) rfl)) rfl
theorem tw_7_29 : (Jvm.Cond.static ({ cls := "java/lang/StringLatin1", name := "canEncode", desc := "(C)Z" } : Jvm.MethodName)) ∈ hz_TB := hz_tb (hz_t7 _ (List.mem_of_getElem? (i := 29) rfl)) rfl
theorem tw_7_30 : (Jvm.Cond.code ({ cls := "java/lang/StringLatin1", name := "canEncode", desc := "(C)Z" } : Jvm.MethodName) prog_27_method_3_code (1 : Nat) (Option.some Jvm.ClassFile.FieldType.boolean)) ∈ hz_TB := hz_tb (hz_t7 _ (List.mem_of_getElem? (i := 30) rfl)) rfl
theorem tw_7_146 : (Jvm.Cond.sameMethod "java/lang/AbstractStringBuilder" "java/lang/AbstractStringBuilder" "ensureCapacityInternal" "(I)V") ∈ hz_TB := hz_tb (hz_t7 _ (List.mem_of_getElem? (i := 146) rfl)) rfl
theorem tw_7_147 : (Jvm.Cond.sameMethod "java/lang/AbstractStringBuilder" "java/lang/AbstractStringBuilder" "newCapacity" "(I)I") ∈ hz_TB := hz_tb (hz_t7 _ (List.mem_of_getElem? (i := 147) rfl)) rfl
theorem hx_cal_J1_canEncode_fc78d : hz_CalXS yJ1_canEncode_fc78d cJ1_canEncode_fc78d 1 (some .boolean) 1 := ⟨⟨tw_7_30, tw_1_11, ⟨by decide, by decide, by decide +kernel⟩, Nat.le_of_ble_eq_true rfl⟩, tw_7_29⟩
theorem hx_cal_J5_ensureCapacityInternal_d00df : hz_CalXV yJ5_ensureCapacityInternal_d00df cJ5_ensureCapacityInternal_d00df 3 none 1 := ⟨⟨tw_6_145, tw_1_17, ⟨by decide, by decide, by decide +kernel⟩, Nat.le_of_ble_eq_true rfl⟩, tw_6_144⟩
theorem hx_cal_J5_isLatin1_aae02 : hz_CalXV yJ5_isLatin1_aae02 cJ5_isLatin1_aae02 1 (some .boolean) 0 := ⟨⟨tw_6_174, tw_1_17, ⟨by decide, by decide, by decide +kernel⟩, Nat.le_of_ble_eq_true rfl⟩, tw_6_171⟩
theorem hx_cal_J5_newCapacity_0f7a4 : hz_CalXV yJ5_newCapacity_0f7a4 cJ5_newCapacity_0f7a4 6 (some .int) 1 := ⟨⟨tw_6_149, tw_1_17, ⟨by decide, by decide, by decide +kernel⟩, Nat.le_of_ble_eq_true rfl⟩, tw_6_148⟩
theorem hx_cal_J7_copyOf_9075b : hz_CalXS yJ7_copyOf_9075b cJ7_copyOf_9075b 3 (some (.array Jvm.ClassFile.FieldType.byte)) 2 := ⟨⟨tw_6_160, tw_1_15, ⟨by decide, by decide, by decide +kernel⟩, Nat.le_of_ble_eq_true rfl⟩, tw_6_159⟩
theorem hz_sle {q m : Nat} (h : q ≤ m) (hm : m ≤ 262) (hq : q ≤ 130) : nI q - nI m ≤ (0 : Int32) := by
  have e1 : (nI q - Int32.ofNat m).toInt = (q : Int) - m := pk_sub_toInt (by omega) (by omega)
  exact Int32.le_iff_toInt_le.mpr (by rw [show nI m = Int32.ofNat m from rfl, e1, Int32.toInt_zero]; omega)
theorem hz_sgt {q m : Nat} (h : m < q) (hq : q ≤ 130) : ¬ nI q - nI m ≤ (0 : Int32) := by
  have e1 : (nI q - Int32.ofNat m).toInt = (q : Int) - m := pk_sub_toInt (by omega) (by omega)
  intro hc
  have := Int32.le_iff_toInt_le.mp hc
  rw [show nI m = Int32.ofNat m from rfl, e1, Int32.toInt_zero] at this
  omega
set_option maxRecDepth 100000 in
set_option maxHeartbeats 4000000 in
theorem c_y_ensure (l : Launch) (w : hz_C) {X0 : va_W} {sb va m n : Nat} {a : Nat → Int32} {q : Nat} (hf : sb_Fit a) (hm0 : 0 < m) (hm : m ≤ 262) (hq : q ≤ 130) : hz_CY l yJ5_ensureCapacityInternal_d00df cJ5_ensureCapacityInternal_d00df 3 none 3 1 600 w [.ref sb, .int (nI q)] (X0 ++ [(sb, .inr (1, [.ref va, .int 0, .int 0, .int (nI n)])), (va, .inl (hz_tc w 5, m, .inl a))]) (hz_YQv w (fun S1 => ∃ (va1 : Nat) (a1 : Nat → Int32), sb_Fit a1 ∧ (∀ j, j < m → a1 j = a j) ∧ S1 = hz_sb w sb va1 (sb_cap q m) a1 n) X0) := by
  refine hz_y_ofW (by decide) rfl (Nat.le_of_ble_eq_true rfl) tw_6_145 ?_
  intro p e s m1 args below meth c hO hin
  show hz_Y p l e 3 ((1, 600), (0, 0)) s m1 args below meth c w 3 _ X0 [(sb, .inr (1, [.ref va, .int 0, .int 0, .int (nI n)])), (va, .inl (hz_tc w 5, m, .inl a))] 0 [(0, .ref sb), (1, .int (nI q))] []
  refine hz_y_aload_n hO dJ5_ensureCapacityInternal_d00df_0 rfl 0 rfl ?_
  refine hz_y_get (j := 0) (k := 0) hO hz_K_1 rfl rfl (Nat.le_of_ble_eq_true rfl) tw_6_224 rfl dJ5_ensureCapacityInternal_d00df_1 ?_
  refine hz_y_alen (j := 1) (v := nI m) hO rfl rfl dJ5_ensureCapacityInternal_d00df_4 ?_
  refine hz_y_aload_n hO dJ5_ensureCapacityInternal_d00df_5 rfl 0 rfl ?_
  refine hz_y_get (j := 0) (k := 1) hO hz_K_1 rfl rfl (Nat.le_of_ble_eq_true rfl) tw_6_225 rfl dJ5_ensureCapacityInternal_d00df_6 ?_
  refine hz_y_ishr hO dJ5_ensureCapacityInternal_d00df_9 ?_
  refine hz_y_name (y := nI m) (sb_shr0 _).symm ?_
  refine hz_y_istore_n (ls1 := [(2, .int (nI m)), (0, .ref sb), (1, .int (nI q))]) hO dJ5_ensureCapacityInternal_d00df_10 rfl (Nat.le_of_ble_eq_true rfl) rfl ?_
  refine hz_y_iload_n hO dJ5_ensureCapacityInternal_d00df_11 rfl 2 rfl ?_
  refine hz_y_iload_n hO dJ5_ensureCapacityInternal_d00df_12 rfl 0 rfl ?_
  refine hz_y_isub hO dJ5_ensureCapacityInternal_d00df_13 ?_
  refine hz_y_name (y := (nI q - nI m)) rfl ?_
  by_cases hc0 : q ≤ m
  · have ecap : sb_cap q m = m := by unfold sb_cap; rw [if_pos hc0]
    refine hz_y_if_le (tgt := 38) hO dJ5_ensureCapacityInternal_d00df_14 (by decide) (fun _ => ?_) (fun hc => absurd (hz_sle hc0 hm hq) hc)
    refine hz_y_widen (z1 := ((1, 600), (1, 600))) rfl (Nat.le_of_ble_eq_true rfl) (Nat.le_of_ble_eq_true rfl) ⟨Nat.le_refl _, Nat.le_refl _⟩ ?_
    exact hz_y_vret hO ⟨va, a, hf, fun _ _ => rfl, by rw [ecap]⟩ dJ5_ensureCapacityInternal_d00df_38
  · have hmq : m < q := by omega
    have hcap := hz_cap_le hm hq
    refine hz_y_if_le (tgt := 38) hO dJ5_ensureCapacityInternal_d00df_14 (by decide) (fun hc => absurd hc (hz_sgt hmq hq)) (fun _ => ?_)
    refine hz_y_aload_n hO dJ5_ensureCapacityInternal_d00df_17 rfl 1 rfl ?_
    refine hz_y_aload_n hO dJ5_ensureCapacityInternal_d00df_18 rfl 1 rfl ?_
    refine hz_y_get (j := 0) (k := 0) hO hz_K_1 rfl rfl (Nat.le_of_ble_eq_true rfl) tw_6_224 rfl dJ5_ensureCapacityInternal_d00df_19 ?_
    refine hz_y_aload_n hO dJ5_ensureCapacityInternal_d00df_22 rfl 1 rfl ?_
    refine hz_y_iload_n hO dJ5_ensureCapacityInternal_d00df_23 rfl 2 rfl ?_
    refine hz_y_callVi (as := [.int (nI q)]) (rest := [.ref va, .ref sb]) (hc := 2) (mc := 0) (ms := 0) hO (c_y_newCap l w hm0 hm (by omega) hmq) hx_cal_J5_newCapacity_0f7a4 (hz_sel_p hO (n := 4) (by decide) tw_6_105 tw_7_147 (List.mem_of_getElem? (i := 1) rfl) tw_6_148) hz_K_1 (j := 0) rfl tw_6_146 (Nat.le_of_ble_eq_true rfl) rfl rfl (Nat.le_of_ble_eq_true rfl) ⟨(Nat.le_of_ble_eq_true rfl), (Nat.le_of_ble_eq_true rfl)⟩ dJ5_ensureCapacityInternal_d00df_24 (fun r S1 hR => ?_)
    obtain ⟨rfl, rfl⟩ := hR
    refine hz_y_aload_n hO dJ5_ensureCapacityInternal_d00df_27 rfl 1 rfl ?_
    refine hz_y_get (j := 0) (k := 1) hO hz_K_1 rfl rfl (Nat.le_of_ble_eq_true rfl) tw_6_225 rfl dJ5_ensureCapacityInternal_d00df_28 ?_
    refine hz_y_ishl hO dJ5_ensureCapacityInternal_d00df_31 ?_
    refine hz_y_name (y := nI (sb_cap q m)) (sb_shl0 _).symm ?_
    refine hz_y_callSr (as := [.ref va, .int (nI (sb_cap q m))]) (rest := [.ref sb]) (hc := 1) (mc := 1) (ms := 600) hO (c_y_copyOf l w hf hm (by omega) (by have := sb_cap_ge q m; omega)) hx_cal_J7_copyOf_9075b tw_6_158 (Nat.le_of_ble_eq_true rfl) rfl rfl (Nat.le_of_ble_eq_true rfl) ⟨(Nat.le_of_ble_eq_true rfl), (Nat.le_of_ble_eq_true rfl)⟩ dJ5_ensureCapacityInternal_d00df_32 (fun b S1 hR => ?_)
    subst hR
    refine hz_y_put (j := 0) (k := 0) (S1 := [(sb, .inr (1, [.ref b, .int 0, .int 0, .int (nI n)])), (va, .inl (hz_tc w 5, m, .inl a)), (b, .inl (hz_tc w 5, (sb_cap q m), .inl (va_cpy a (fun _ => 0) 0 0 m)))]) hO hz_K_1 tyJ4_ok nmJ4 rfl (Nat.le_of_ble_eq_true rfl) tw_6_224 rfl rfl rfl rfl rfl (Nat.le_of_ble_eq_true rfl) rfl dJ5_ensureCapacityInternal_d00df_35 ?_
    refine hz_y_sub (X1 := X0) (S1 := hz_sb w sb b (sb_cap q m) (va_cpy a (fun _ => 0) 0 0 m) n) (fun k => if k ≤ X0.length then k else k + 1) hz_drop1 hz_drop1i ?_
    exact hz_y_vret hO ⟨b, _, sb_fitC hf sb_fit0, fun j hj => sb_cpy0 hj, rfl⟩ dJ5_ensureCapacityInternal_d00df_38
set_option maxRecDepth 100000 in
set_option maxHeartbeats 4000000 in
theorem c_y_canEnc (l : Launch) (w : hz_C) {X0 : va_W} {S : va_W} {c0 : Nat} (hc : c0 < 128) : hz_CY l yJ1_canEncode_fc78d cJ1_canEncode_fc78d 1 (some .boolean) 0 0 0 w [.int (nI c0)] (X0 ++ S) (hz_YQi w (fun r S1 => r = 1 ∧ S1 = S) X0) := by
  refine hz_y_ofW (by decide) rfl (Nat.le_of_ble_eq_true rfl) tw_7_30 ?_
  intro p e s m1 args below meth c hO hin
  show hz_Y p l e 0 ((0, 0), (0, 0)) s m1 args below meth c w 1 _ X0 S 0 [(0, .int (nI c0))] []
  refine hz_y_iload_n hO dJ1_canEncode_fc78d_0 rfl 0 rfl ?_
  refine hz_y_sipush (v := (255 : Int32)) hO dJ1_canEncode_fc78d_1 (by decide) ?_
  refine hz_y_icmp_gt (tgt := 11) hO dJ1_canEncode_fc78d_4 (by decide) (fun hc => absurd hc (nI_nlt (a := 255) (by omega) (by decide))) (fun _ => ?_)
  refine hz_y_iconst (v := (1 : Int32)) hO dJ1_canEncode_fc78d_7 (by decide) ?_
  refine hz_y_goto (tgt := 12) hO dJ1_canEncode_fc78d_8 (by decide) ?_
  exact hz_y_nret hO rfl ⟨rfl, rfl⟩ dJ1_canEncode_fc78d_12
theorem hz_i2b : ∀ {c : Nat}, c < 128 → (nI c).toInt8.toInt32 = nI c := by
  have h : ∀ c, c < 128 → (nI c).toInt8.toInt32 = nI c := by decide +kernel
  exact fun {c} hc => h c hc
theorem hz_sbb {c : Nat} (hc : c < 128) : sb_b c = nI c := hz_i2b hc
theorem hz_nar : ∀ {c : Nat}, c < 128 → vp_nar .byte (nI c) = nI c := by
  have h : ∀ c, c < 128 → vp_nar .byte (nI c) = nI c := by decide +kernel
  exact fun {c} hc => h c hc
theorem hz_fit1 : ∀ {c : Nat}, c < 128 → fits .byte (.int (nI c)) = true := by
  have h : ∀ c, c < 128 → fits .byte (.int (nI c)) = true := by decide +kernel
  exact fun {c} hc => h c hc
theorem hz_put1 {t : Nat → Nat} {n c m : Nat} {a1 : Nat → Int32} (hc : c < 128) (hL : sb_Lat t n a1) : sb_Lat (sb_cat t n (fun _ => c)) (n + 1) (upd a1 n (nI c)) :=
  sb_latPut (s := fun _ => c) (w := 1) hL (fun j hj => pk_un (by omega)) (fun i hi => ⟨by omega, by
    obtain rfl : i = 0 := by omega
    rw [hz_sbb hc]
    exact pk_us⟩)
set_option maxRecDepth 100000 in
set_option maxHeartbeats 4000000 in
theorem c_y_appC (l : Launch) (w : hz_C) {X0 : va_W} {sb va m n : Nat} {a : Nat → Int32} {t : Nat → Nat} {c0 : Nat} (hnm : n ≤ m) (hm0 : 0 < m) (hm : m ≤ 262) (hL : sb_Lat t n a) (hf : sb_Fit a) (hn : n + 1 ≤ 130) (hc : c0 < 128) : hz_CY l yJ5_append_3fe6f cJ5_append_3fe6f 2 (some (.object "java/lang/AbstractStringBuilder")) 4 1 600 w [.ref sb, .int (nI c0)] (X0 ++ [(sb, .inr (1, [.ref va, .int 0, .int 0, .int (nI n)])), (va, .inl (hz_tc w 5, m, .inl a))]) (hz_YQr w (fun b S1 => b = sb ∧ hz_sbT w sb (sb_cat t n (fun _ => c0)) (n + 1) S1) X0) := by
  refine hz_y_ofW (by decide) rfl (Nat.le_of_ble_eq_true rfl) tw_7_27 ?_
  intro p e s m1 args below meth c hO hin
  show hz_Y p l e 4 ((1, 600), (0, 0)) s m1 args below meth c w 2 _ X0 [(sb, .inr (1, [.ref va, .int 0, .int 0, .int (nI n)])), (va, .inl (hz_tc w 5, m, .inl a))] 0 [(0, .ref sb), (1, .int (nI c0))] []
  refine hz_y_aload_n hO dJ5_append_3fe6f_0 rfl 0 rfl ?_
  refine hz_y_aload_n hO dJ5_append_3fe6f_1 rfl 0 rfl ?_
  refine hz_y_get (j := 0) (k := 3) hO hz_K_1 rfl rfl (Nat.le_of_ble_eq_true rfl) tw_6_227 rfl dJ5_append_3fe6f_2 ?_
  refine hz_y_iconst (v := (1 : Int32)) hO dJ5_append_3fe6f_5 (by decide) ?_
  refine hz_y_iadd hO dJ5_append_3fe6f_6 ?_
  refine hz_y_name (y := nI (n + 1)) (nI_add n 1).symm ?_
  refine hz_y_callVv (as := [.int (nI (n + 1))]) (rest := []) (hc := 3) (mc := 1) (ms := 600) hO (c_y_ensure l w hf hm0 hm (q := n + 1) (by omega)) hx_cal_J5_ensureCapacityInternal_d00df (hz_sel_p hO (n := 4) (by decide) tw_6_105 tw_7_146 (List.mem_of_getElem? (i := 0) rfl) tw_6_144) hz_K_1 (j := 0) rfl tw_6_142 (Nat.le_of_ble_eq_true rfl) rfl rfl (Nat.le_of_ble_eq_true rfl) ⟨(Nat.le_of_ble_eq_true rfl), (Nat.le_of_ble_eq_true rfl)⟩ dJ5_append_3fe6f_7 (fun S1 hR => ?_)
  obtain ⟨va1, a1, hf1, hk1, rfl⟩ := hR
  have hc1 := hz_cap_le (q := n + 1) hm (by omega)
  have hc2 := sb_cap_ge (n + 1) m
  have hL1 := sb_latKeep hL (fun j hj => hk1 j (by omega))
  refine hz_y_aload_n hO dJ5_append_3fe6f_10 rfl 0 rfl ?_
  refine hz_y_callVi (as := []) (rest := []) (hc := 0) (mc := 0) (ms := 0) hO (c_y_isL1 l w) hx_cal_J5_isLatin1_aae02 (hz_sel_w hO tw_6_173) hz_K_1 (j := 0) rfl tw_6_170 (Nat.le_of_ble_eq_true rfl) rfl rfl (Nat.le_of_ble_eq_true rfl) ⟨(Nat.le_of_ble_eq_true rfl), (Nat.le_of_ble_eq_true rfl)⟩ dJ5_append_3fe6f_11 (fun r S1 hR => ?_)
  obtain ⟨rfl, rfl⟩ := hR
  refine hz_y_if_eq (tgt := 45) hO dJ5_append_3fe6f_14 (by decide) (fun hc => absurd hc (by decide)) (fun _ => ?_)
  refine hz_y_iload_n hO dJ5_append_3fe6f_17 rfl 1 rfl ?_
  refine hz_y_callSi (as := [.int (nI c0)]) (rest := []) (hc := 0) (mc := 0) (ms := 0) hO (c_y_canEnc l w hc) hx_cal_J1_canEncode_fc78d tw_7_28 (Nat.le_of_ble_eq_true rfl) rfl rfl (Nat.le_of_ble_eq_true rfl) ⟨(Nat.le_of_ble_eq_true rfl), (Nat.le_of_ble_eq_true rfl)⟩ dJ5_append_3fe6f_18 (fun r S1 hR => ?_)
  obtain ⟨rfl, rfl⟩ := hR
  refine hz_y_if_eq (tgt := 45) hO dJ5_append_3fe6f_21 (by decide) (fun hc => absurd hc (by decide)) (fun _ => ?_)
  refine hz_y_aload_n hO dJ5_append_3fe6f_24 rfl 0 rfl ?_
  refine hz_y_get (j := 0) (k := 0) hO hz_K_1 rfl rfl (Nat.le_of_ble_eq_true rfl) tw_6_224 rfl dJ5_append_3fe6f_25 ?_
  refine hz_y_aload_n hO dJ5_append_3fe6f_28 rfl 0 rfl ?_
  refine hz_y_dup hO dJ5_append_3fe6f_29 rfl ?_
  refine hz_y_get (j := 0) (k := 3) hO hz_K_1 rfl rfl (Nat.le_of_ble_eq_true rfl) tw_6_227 rfl dJ5_append_3fe6f_30 ?_
  refine hz_y_dup_x1 hO dJ5_append_3fe6f_33 rfl rfl ?_
  refine hz_y_iconst (v := (1 : Int32)) hO dJ5_append_3fe6f_34 (by decide) ?_
  refine hz_y_iadd hO dJ5_append_3fe6f_35 ?_
  refine hz_y_name (y := nI (n + 1)) (nI_add n 1).symm ?_
  refine hz_y_put (j := 0) (k := 3) (S1 := [(sb, .inr (1, [.ref va1, .int 0, .int 0, .int (nI (n + 1))])), (va1, .inl (hz_tc w 5, (sb_cap (n + 1) m), .inl a1))]) hO hz_K_1 tyJ4_ok nmJ4 rfl (Nat.le_of_ble_eq_true rfl) tw_6_227 rfl rfl rfl rfl rfl (Nat.le_of_ble_eq_true rfl) rfl dJ5_append_3fe6f_36 ?_
  refine hz_y_iload_n hO dJ5_append_3fe6f_39 rfl 1 rfl ?_
  refine hz_y_i2b (v := (nI c0)) hO dJ5_append_3fe6f_40 (hz_i2b hc) ?_
  refine hz_y_bast (j := 1) (S1 := [(sb, .inr (1, [.ref va1, .int 0, .int 0, .int (nI (n + 1))])), (va1, .inl (hz_tc w 5, (sb_cap (n + 1) m), .inl (upd a1 n (nI c0))))]) hO rfl (vp_in_nI (by omega) (by omega)) (by rw [nI_clamp (by omega), hz_nar hc]; rfl) dJ5_append_3fe6f_41 ?_
  refine hz_y_goto (tgt := 75) hO dJ5_append_3fe6f_42 (by decide) ?_
  refine hz_y_aload_n hO dJ5_append_3fe6f_75 rfl 0 rfl ?_
  exact hz_y_aret hO (Or.inl ⟨_, rfl⟩) ⟨rfl, va1, _, _, rfl, by omega, by omega, hz_put1 (m := m) hc hL1, sb_fitU hf1 (hz_fit1 hc)⟩ dJ5_append_3fe6f_76
