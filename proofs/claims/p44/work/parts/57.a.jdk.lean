theorem tw_1_19 : (Jvm.Cond.initialized "jdk/internal/util/ArraysSupport") ∈ hz_TB := hz_tb (hz_t1 _ (List.mem_of_getElem? (i := 19) rfl)) rfl
theorem tw_6_116 : (Jvm.Cond.constant "java/lang/AbstractStringBuilder" (39 : Nat) (2147483647 : Int32)) ∈ hz_TB := hz_tb (hz_t6 _ (List.mem_of_getElem? (i := 116) rfl)) rfl
theorem tw_6_149 : (Jvm.Cond.code ({ cls := "java/lang/AbstractStringBuilder", name := "newCapacity", desc := "(I)I" } : Jvm.MethodName) prog_15_method_10_code (6 : Nat) (Option.some Jvm.ClassFile.FieldType.int)) ∈ hz_TB := hz_tb (hz_t6 _ (List.mem_of_getElem? (i := 149) rfl)) rfl
theorem tw_6_150 : (Jvm.Cond.methodLink "java/lang/AbstractStringBuilder" (114 : Nat) ({ cls := "jdk/internal/util/ArraysSupport", name := "newLength", desc := "(III)I" } : Jvm.MethodName)) ∈ hz_TB := hz_tb (hz_t6 _ (List.mem_of_getElem? (i := 150) rfl)) rfl
theorem tw_6_151 : (Jvm.Cond.static ({ cls := "jdk/internal/util/ArraysSupport", name := "newLength", desc := "(III)I" } : Jvm.MethodName)) ∈ hz_TB := hz_tb (hz_t6 _ (List.mem_of_getElem? (i := 151) rfl)) rfl
theorem tw_6_152 : (Jvm.Cond.code ({ cls := "jdk/internal/util/ArraysSupport", name := "newLength", desc := "(III)I" } : Jvm.MethodName) prog_32_method_27_code (4 : Nat) (Option.some Jvm.ClassFile.FieldType.int)) ∈ hz_TB := hz_tb (hz_t6 _ (List.mem_of_getElem? (i := 152) rfl)) rfl
theorem tw_6_153 : (Jvm.Cond.methodLink "jdk/internal/util/ArraysSupport" (194 : Nat) ({ cls := "java/lang/Math", name := "max", desc := "(II)I" } : Jvm.MethodName)) ∈ hz_TB := hz_tb (hz_t6 _ (List.mem_of_getElem? (i := 153) rfl)) rfl
theorem tw_6_154 : (Jvm.Cond.constant "jdk/internal/util/ArraysSupport" (200 : Nat) (2147483639 : Int32)) ∈ hz_TB := hz_tb (hz_t6 _ (List.mem_of_getElem? (i := 154) rfl)) rfl
theorem tw_6_160 : (Jvm.Cond.code ({ cls := "java/util/Arrays", name := "copyOf", desc := "([BI)[B" } : Jvm.MethodName) prog_31_method_121_code (3 : Nat) (Option.some (Jvm.ClassFile.FieldType.array Jvm.ClassFile.FieldType.byte))) ∈ hz_TB := hz_tb (hz_t6 _ (List.mem_of_getElem? (i := 160) rfl)) rfl
theorem tw_6_168 : (Jvm.Cond.methodLink "java/util/Arrays" (304 : Nat) ({ cls := "java/lang/Math", name := "min", desc := "(II)I" } : Jvm.MethodName)) ∈ hz_TB := hz_tb (hz_t6 _ (List.mem_of_getElem? (i := 168) rfl)) rfl
theorem tw_6_169 : (Jvm.Cond.methodLink "java/util/Arrays" (150 : Nat) ({ cls := "java/lang/System", name := "arraycopy", desc := "(Ljava/lang/Object;ILjava/lang/Object;II)V" } : Jvm.MethodName)) ∈ hz_TB := hz_tb (hz_t6 _ (List.mem_of_getElem? (i := 169) rfl)) rfl
theorem tw_6_174 : (Jvm.Cond.code ({ cls := "java/lang/AbstractStringBuilder", name := "isLatin1", desc := "()Z" } : Jvm.MethodName) prog_15_method_68_code (1 : Nat) (Option.some Jvm.ClassFile.FieldType.boolean)) ∈ hz_TB := hz_tb (hz_t6 _ (List.mem_of_getElem? (i := 174) rfl)) rfl
theorem tw_6_175 : (Jvm.Cond.fieldLink "java/lang/AbstractStringBuilder" (18 : Nat) "java/lang/String" "COMPACT_STRINGS" "Z") ∈ hz_TB := hz_tb (hz_t6 _ (List.mem_of_getElem? (i := 175) rfl)) rfl
theorem tw_6_224 : (Jvm.Cond.fieldLink "java/lang/AbstractStringBuilder" (15 : Nat) "java/lang/AbstractStringBuilder" "value" "[B") ∈ hz_TB := hz_tb (hz_t6 _ (List.mem_of_getElem? (i := 224) rfl)) rfl
theorem tw_6_225 : (Jvm.Cond.fieldLink "java/lang/AbstractStringBuilder" (22 : Nat) "java/lang/AbstractStringBuilder" "coder" "B") ∈ hz_TB := hz_tb (hz_t6 _ (List.mem_of_getElem? (i := 225) rfl)) rfl
theorem tw_6_228 : (Jvm.Cond.lays "java/lang/StringBuilder" "java/lang/AbstractStringBuilder" "value" "[B") ∈ hz_TB := hz_tb (hz_t6 _ (List.mem_of_getElem? (i := 228) rfl)) rfl
theorem tw_6_230 : (Jvm.Cond.lays "java/lang/StringBuilder" "java/lang/AbstractStringBuilder" "coder" "B") ∈ hz_TB := hz_tb (hz_t6 _ (List.mem_of_getElem? (i := 230) rfl)) rfl
theorem tw_6_232 : (Jvm.Cond.lays "java/lang/StringBuilder" "java/lang/AbstractStringBuilder" "maybeLatin1" "Z") ∈ hz_TB := hz_tb (hz_t6 _ (List.mem_of_getElem? (i := 232) rfl)) rfl
theorem tw_6_234 : (Jvm.Cond.lays "java/lang/StringBuilder" "java/lang/AbstractStringBuilder" "count" "I") ∈ hz_TB := hz_tb (hz_t6 _ (List.mem_of_getElem? (i := 234) rfl)) rfl
theorem tw_7_94 : (Jvm.Cond.laysFinal "java/lang/String" "java/lang/String" "value" "[B") ∈ hz_TB := hz_tb (hz_t7 _ (List.mem_of_getElem? (i := 94) rfl)) rfl
theorem tw_7_96 : (Jvm.Cond.laysFinal "java/lang/String" "java/lang/String" "coder" "B") ∈ hz_TB := hz_tb (hz_t7 _ (List.mem_of_getElem? (i := 96) rfl)) rfl
theorem tw_7_98 : (Jvm.Cond.lays "java/lang/String" "java/lang/String" "hash" "I") ∈ hz_TB := hz_tb (hz_t7 _ (List.mem_of_getElem? (i := 98) rfl)) rfl
theorem tw_7_100 : (Jvm.Cond.lays "java/lang/String" "java/lang/String" "hashIsZero" "Z") ∈ hz_TB := hz_tb (hz_t7 _ (List.mem_of_getElem? (i := 100) rfl)) rfl
theorem hz_K_1 : hz_Kl 1 RJ4 TJ4 4 := ⟨rfl, hz_uws (lt_s (lt_s (lt_s (lt_s lt_0 tw_6_228) tw_6_230) tw_6_232) tw_6_234)⟩
theorem hz_K_0 : hz_Kl 0 RJ0 TJ0 4 := ⟨rfl, hz_uws (lt_s (lt_s (lt_s (lt_s lt_0 tw_7_94) tw_7_96) tw_7_98) tw_7_100)⟩
theorem hx_cal_J8_newLength_cabcc : hz_CalXS yJ8_newLength_cabcc cJ8_newLength_cabcc 4 (some .int) 3 := ⟨⟨tw_6_152, tw_1_19, ⟨by decide, by decide, by decide +kernel⟩, Nat.le_of_ble_eq_true rfl⟩, tw_6_151⟩
/-! StringBuilder, String, Arrays, Integer: what the law's texts need of them -/
abbrev hz_sb (w : hz_C) (sb va m : Nat) (a : Nat → Int32) (n : Nat) : va_W := [(sb, .inr (1, [.ref va, .int 0, .int 0, .int (nI n)])), (va, .inl (hz_tc w 5, m, .inl a))]
def hz_sbT (w : hz_C) (sb : Nat) (t : Nat → Nat) (n : Nat) (S1 : va_W) : Prop := ∃ (va m : Nat) (a : Nat → Int32), S1 = hz_sb w sb va m a n ∧ n ≤ m ∧ m ≤ 262 ∧ sb_Lat t n a ∧ sb_Fit a
theorem hz_drop1 {X0 : va_W} {x y z : Nat × va_E} : ∀ k q, (X0 ++ [x, z])[k]? = some q → (X0 ++ [x, y, z])[if k ≤ X0.length then k else k + 1]? = some q := by
  intro k q hk
  by_cases h1 : k < X0.length
  · rw [if_pos (by omega), List.getElem?_append_left h1]
    rw [List.getElem?_append_left h1] at hk
    exact hk
  · rw [List.getElem?_append_right (by omega)] at hk
    by_cases h2 : k = X0.length
    · subst h2
      rw [if_pos (Nat.le_refl _), List.getElem?_append_right (Nat.le_refl _)]
      simpa using hk
    · rw [if_neg (by omega), List.getElem?_append_right (by omega)]
      obtain ⟨j, hj⟩ : ∃ j, k = X0.length + 1 + j := ⟨k - X0.length - 1, by omega⟩
      subst hj
      rw [show X0.length + 1 + j - X0.length = j + 1 by omega] at hk
      rw [show X0.length + 1 + j + 1 - X0.length = j + 2 by omega]
      simpa using hk
theorem hz_drop1i {n : Nat} : ∀ i j : Nat, (if i ≤ n then i else i + 1) = (if j ≤ n then j else j + 1) → i = j := by
  intro i j h
  split at h <;> split at h <;> omega
set_option maxRecDepth 100000 in
set_option maxHeartbeats 4000000 in
theorem c_y_isL1 (l : Launch) (w : hz_C) {X0 : va_W} {sb va m n : Nat} {a : Nat → Int32} : hz_CY l yJ5_isLatin1_aae02 cJ5_isLatin1_aae02 1 (some .boolean) 0 0 0 w [.ref sb] (X0 ++ [(sb, .inr (1, [.ref va, .int 0, .int 0, .int (nI n)])), (va, .inl (hz_tc w 5, m, .inl a))]) (hz_YQi w (fun r S1 => r = 1 ∧ S1 = hz_sb w sb va m a n) X0) := by
  refine hz_y_ofW (by decide) rfl (Nat.le_of_ble_eq_true rfl) tw_6_174 ?_
  intro p e s m1 args below meth c hO hin
  show hz_Y p l e 0 ((0, 0), (0, 0)) s m1 args below meth c w 1 _ X0 [(sb, .inr (1, [.ref va, .int 0, .int 0, .int (nI n)])), (va, .inl (hz_tc w 5, m, .inl a))] 0 [(0, .ref sb)] []
  refine hz_y_gets hO hO.2.2.2.1.2.2.2.2.2.2.2.1 tw_6_175 rfl dJ5_isLatin1_aae02_0 ?_
  refine hz_y_if_eq (tgt := 17) hO dJ5_isLatin1_aae02_3 (by decide) (fun hc => absurd hc (by decide)) (fun _ => ?_)
  refine hz_y_aload_n hO dJ5_isLatin1_aae02_6 rfl 0 rfl ?_
  refine hz_y_get (j := 0) (k := 1) hO hz_K_1 rfl rfl (Nat.le_of_ble_eq_true rfl) tw_6_225 rfl dJ5_isLatin1_aae02_7 ?_
  refine hz_y_if_ne (tgt := 17) hO dJ5_isLatin1_aae02_10 (by decide) (fun hc => absurd rfl hc) (fun _ => ?_)
  refine hz_y_iconst (v := (1 : Int32)) hO dJ5_isLatin1_aae02_13 (by decide) ?_
  refine hz_y_goto (tgt := 18) hO dJ5_isLatin1_aae02_14 (by decide) ?_
  exact hz_y_nret hO rfl ⟨rfl, rfl⟩ dJ5_isLatin1_aae02_18
theorem hz_max {g q : Nat} (hb1 : g < 2 ^ 30) (hb2 : q < 2 ^ 30) : (if nI g < nI q then nI q else nI g) = nI (if g < q then q else g) := by
  by_cases hq : g < q
  · rw [if_pos hq, if_pos (nI_lt hq (by omega))]
  · rw [if_neg hq, if_neg (nI_nlt (by omega) (by omega))]
theorem hz_min {g q : Nat} (hb1 : g < 2 ^ 30) (hb2 : q < 2 ^ 30) : (if nI q < nI g then nI q else nI g) = nI (if q < g then q else g) := by
  by_cases hq : q < g
  · rw [if_pos hq, if_pos (nI_lt hq (by omega))]
  · rw [if_neg hq, if_neg (nI_nlt (by omega) (by omega))]
theorem hz_nle0 {k : Nat} (h : 0 < k) (hk : k < 2 ^ 31) : ¬ nI k ≤ (0 : Int32) := by
  intro hc
  have := Int32.le_iff_toInt_le.mp hc
  rw [nI_toInt hk, Int32.toInt_zero] at this
  omega
theorem hz_sub {a b : Nat} (h : b ≤ a) : nI a - nI b = nI (a - b) := pk_sub h
set_option maxRecDepth 100000 in
set_option maxHeartbeats 4000000 in
theorem c_y_newLen (l : Launch) (w : hz_C) {X0 : va_W} {S : va_W} {k g q : Nat} (hk : 0 < k) (hk2 : k < 2 ^ 28) (hg : g < 2 ^ 30) (hq : q < 2 ^ 30) : hz_CY l yJ8_newLength_cabcc cJ8_newLength_cabcc 4 (some .int) 1 0 0 w [.int (nI k), .int (nI g), .int (nI q)] (X0 ++ S) (hz_YQi w (fun r S1 => r = nI (k + (if g < q then q else g)) ∧ S1 = S) X0) := by
  refine hz_y_ofW (by decide) rfl (Nat.le_of_ble_eq_true rfl) tw_6_152 ?_
  intro p e s m1 args below meth c hO hin
  show hz_Y p l e 1 ((0, 0), (0, 0)) s m1 args below meth c w 4 _ X0 S 0 [(0, .int (nI k)), (1, .int (nI g)), (2, .int (nI q))] []
  refine hz_y_iload_n hO dJ8_newLength_cabcc_0 rfl 0 rfl ?_
  refine hz_y_iload_n hO dJ8_newLength_cabcc_1 rfl 1 rfl ?_
  refine hz_y_iload_n hO dJ8_newLength_cabcc_2 rfl 2 rfl ?_
  refine hz_y_mmax hO tw_6_153 (Nat.le_of_ble_eq_true rfl) (Nat.le_of_ble_eq_true rfl) dJ8_newLength_cabcc_3 ?_
  refine hz_y_name (y := nI (if g < q then q else g)) (hz_max hg hq).symm ?_
  refine hz_y_iadd hO dJ8_newLength_cabcc_6 ?_
  refine hz_y_name (y := nI (k + (if g < q then q else g))) (nI_add _ _).symm ?_
  refine hz_y_istore_n (ls1 := [(3, .int (nI (k + (if g < q then q else g)))), (0, .int (nI k)), (1, .int (nI g)), (2, .int (nI q))]) hO dJ8_newLength_cabcc_7 rfl (Nat.le_of_ble_eq_true rfl) rfl ?_
  refine hz_y_iconst (v := (0 : Int32)) hO dJ8_newLength_cabcc_8 (by decide) ?_
  refine hz_y_iload_n hO dJ8_newLength_cabcc_9 rfl 0 rfl ?_
  refine hz_y_icmp_ge (tgt := 21) hO dJ8_newLength_cabcc_10 (by decide) (fun hc => absurd hc (hz_nle0 (by omega) (by split <;> omega))) (fun _ => ?_)
  refine hz_y_iload_n hO dJ8_newLength_cabcc_13 rfl 0 rfl ?_
  refine hz_y_ldcI hO tw_6_154 dJ8_newLength_cabcc_14 ?_
  refine hz_y_icmp_gt (tgt := 21) hO dJ8_newLength_cabcc_16 (by decide) (fun hc => absurd hc (nI_nlt (a := 2147483639) (by split <;> omega) (by decide))) (fun _ => ?_)
  refine hz_y_iload_n hO dJ8_newLength_cabcc_19 rfl 0 rfl ?_
  exact hz_y_iret hO ⟨rfl, rfl⟩ dJ8_newLength_cabcc_20
theorem hz_cap {m q : Nat} (hm : m ≤ 262) (hq : q ≤ 262) (hmq : m < q) : m + (if q - m < m + 2 then m + 2 else q - m) = sb_cap q m := by
  unfold sb_cap
  rw [if_neg (show ¬ q ≤ m by omega)]
  split <;> split <;> omega
theorem hz_cap_le {m q : Nat} (hm : m ≤ 262) (hq : q ≤ 130) : sb_cap q m ≤ 262 := by
  unfold sb_cap
  split
  · omega
  · split <;> omega
theorem hz_capne {m q : Nat} (hm : m ≤ 262) (hq : q ≤ 262) (hmq : m < q) : ¬ nI (sb_cap q m) = (2147483647 : Int32) := by
  have h : sb_cap q m ≤ 2000 := by
    unfold sb_cap
    split
    · omega
    · split <;> omega
  intro hc
  have := (nI_eq (a := sb_cap q m) (b := 2147483647) (by omega) (by decide)).mp hc
  omega
set_option maxRecDepth 100000 in
set_option maxHeartbeats 4000000 in
theorem c_y_newCap (l : Launch) (w : hz_C) {X0 : va_W} {sb va m n : Nat} {a : Nat → Int32} {q : Nat} (hm0 : 0 < m) (hm : m ≤ 262) (hq : q ≤ 262) (hmq : m < q) : hz_CY l yJ5_newCapacity_0f7a4 cJ5_newCapacity_0f7a4 6 (some .int) 2 0 0 w [.ref sb, .int (nI q)] (X0 ++ [(sb, .inr (1, [.ref va, .int 0, .int 0, .int (nI n)])), (va, .inl (hz_tc w 5, m, .inl a))]) (hz_YQi w (fun r S1 => r = nI (sb_cap q m) ∧ S1 = hz_sb w sb va m a n) X0) := by
  refine hz_y_ofW (by decide) rfl (Nat.le_of_ble_eq_true rfl) tw_6_149 ?_
  intro p e s m1 args below meth c hO hin
  show hz_Y p l e 2 ((0, 0), (0, 0)) s m1 args below meth c w 6 _ X0 [(sb, .inr (1, [.ref va, .int 0, .int 0, .int (nI n)])), (va, .inl (hz_tc w 5, m, .inl a))] 0 [(0, .ref sb), (1, .int (nI q))] []
  refine hz_y_aload_n hO dJ5_newCapacity_0f7a4_0 rfl 0 rfl ?_
  refine hz_y_get (j := 0) (k := 0) hO hz_K_1 rfl rfl (Nat.le_of_ble_eq_true rfl) tw_6_224 rfl dJ5_newCapacity_0f7a4_1 ?_
  refine hz_y_alen (j := 1) (v := nI m) hO rfl rfl dJ5_newCapacity_0f7a4_4 ?_
  refine hz_y_istore_n (ls1 := [(2, .int (nI m)), (0, .ref sb), (1, .int (nI q))]) hO dJ5_newCapacity_0f7a4_5 rfl (Nat.le_of_ble_eq_true rfl) rfl ?_
  refine hz_y_iload_n hO dJ5_newCapacity_0f7a4_6 rfl 2 rfl ?_
  refine hz_y_aload_n hO dJ5_newCapacity_0f7a4_7 rfl 1 rfl ?_
  refine hz_y_get (j := 0) (k := 1) hO hz_K_1 rfl rfl (Nat.le_of_ble_eq_true rfl) tw_6_225 rfl dJ5_newCapacity_0f7a4_8 ?_
  refine hz_y_ishl hO dJ5_newCapacity_0f7a4_11 ?_
  refine hz_y_name (y := nI q) (sb_shl0 _).symm ?_
  refine hz_y_istore_n (ls1 := [(3, .int (nI q)), (2, .int (nI m)), (0, .ref sb), (1, .int (nI q))]) hO dJ5_newCapacity_0f7a4_12 rfl (Nat.le_of_ble_eq_true rfl) rfl ?_
  refine hz_y_iload_n hO dJ5_newCapacity_0f7a4_13 rfl 0 rfl ?_
  refine hz_y_iload_n hO dJ5_newCapacity_0f7a4_14 rfl 1 rfl ?_
  refine hz_y_isub hO dJ5_newCapacity_0f7a4_15 ?_
  refine hz_y_name (y := nI (q - m)) (hz_sub (by omega)).symm ?_
  refine hz_y_istore (ls1 := [(4, .int (nI (q - m))), (3, .int (nI q)), (2, .int (nI m)), (0, .ref sb), (1, .int (nI q))]) hO dJ5_newCapacity_0f7a4_16 (Nat.le_of_ble_eq_true rfl) rfl ?_
  refine hz_y_iload_n hO dJ5_newCapacity_0f7a4_18 rfl 2 rfl ?_
  refine hz_y_iload hO dJ5_newCapacity_0f7a4_19 0 rfl ?_
  refine hz_y_iload_n hO dJ5_newCapacity_0f7a4_21 rfl 2 rfl ?_
  refine hz_y_iconst (v := (2 : Int32)) hO dJ5_newCapacity_0f7a4_22 (by decide) ?_
  refine hz_y_aload_n hO dJ5_newCapacity_0f7a4_23 rfl 3 rfl ?_
  refine hz_y_get (j := 0) (k := 1) hO hz_K_1 rfl rfl (Nat.le_of_ble_eq_true rfl) tw_6_225 rfl dJ5_newCapacity_0f7a4_24 ?_
  refine hz_y_ishl hO dJ5_newCapacity_0f7a4_27 ?_
  refine hz_y_name (y := nI 2) (by decide) ?_
  refine hz_y_iadd hO dJ5_newCapacity_0f7a4_28 ?_
  refine hz_y_name (y := nI (m + 2)) (nI_add m 2).symm ?_
  refine hz_y_callSi (as := [.int (nI m), .int (nI (q - m)), .int (nI (m + 2))]) (rest := []) (hc := 1) (mc := 0) (ms := 0) hO (c_y_newLen l w (by omega) (by omega) (by omega) (by omega)) hx_cal_J8_newLength_cabcc tw_6_150 (Nat.le_of_ble_eq_true rfl) rfl rfl (Nat.le_of_ble_eq_true rfl) ⟨(Nat.le_of_ble_eq_true rfl), (Nat.le_of_ble_eq_true rfl)⟩ dJ5_newCapacity_0f7a4_29 (fun r S1 hR => ?_)
  obtain ⟨rfl, rfl⟩ := hR
  rw [hz_cap hm hq hmq]
  refine hz_y_istore (ls1 := [(5, .int (nI (sb_cap q m))), (4, .int (nI (q - m))), (3, .int (nI q)), (2, .int (nI m)), (0, .ref sb), (1, .int (nI q))]) hO dJ5_newCapacity_0f7a4_32 (Nat.le_of_ble_eq_true rfl) rfl ?_
  refine hz_y_iload hO dJ5_newCapacity_0f7a4_34 0 rfl ?_
  refine hz_y_ldcI hO tw_6_116 dJ5_newCapacity_0f7a4_36 ?_
  refine hz_y_icmp_ne (tgt := 51) hO dJ5_newCapacity_0f7a4_38 (by decide) (fun _ => ?_) (fun hc => absurd hc (hz_capne hm hq hmq))
  refine hz_y_iload hO dJ5_newCapacity_0f7a4_51 0 rfl ?_
  refine hz_y_aload_n hO dJ5_newCapacity_0f7a4_53 rfl 4 rfl ?_
  refine hz_y_get (j := 0) (k := 1) hO hz_K_1 rfl rfl (Nat.le_of_ble_eq_true rfl) tw_6_225 rfl dJ5_newCapacity_0f7a4_54 ?_
  refine hz_y_ishr hO dJ5_newCapacity_0f7a4_57 ?_
  refine hz_y_name (y := nI (sb_cap q m)) (sb_shr0 _).symm ?_
  exact hz_y_iret hO ⟨rfl, rfl⟩ dJ5_newCapacity_0f7a4_58
theorem hz_nneg {k : Nat} (h : k < 2 ^ 31) : ¬ nI k < (0 : Int32) := nI_pos h
theorem hz_ne {a b : Nat} (ha : a < 2 ^ 31) (hb : b < 2 ^ 31) (h : a ≠ b) : ¬ nI a = nI b := fun hc => h ((nI_eq ha hb).mp hc)
set_option maxRecDepth 100000 in
set_option maxHeartbeats 4000000 in
theorem c_y_copyOf (l : Launch) (w : hz_C) {X0 : va_W} {sb va m n : Nat} {a : Nat → Int32} {q : Nat} (hf : sb_Fit a) (hm : m ≤ 262) (hq : q ≤ 600) (hmq : m < q) : hz_CY l yJ7_copyOf_9075b cJ7_copyOf_9075b 3 (some (.array Jvm.ClassFile.FieldType.byte)) 1 1 600 w [.ref va, .int (nI q)] (X0 ++ [(sb, .inr (1, [.ref va, .int 0, .int 0, .int (nI n)])), (va, .inl (hz_tc w 5, m, .inl a))]) (hz_YQr w (fun b S1 => S1 = [(sb, .inr (1, [.ref va, .int 0, .int 0, .int (nI n)])), (va, .inl (hz_tc w 5, m, .inl a)), (b, .inl (hz_tc w 5, q, .inl (va_cpy a (fun _ => 0) 0 0 m)))]) X0) := by
  refine hz_y_ofW (by decide) rfl (Nat.le_of_ble_eq_true rfl) tw_6_160 ?_
  intro p e s m1 args below meth c hO hin
  show hz_Y p l e 1 ((1, 600), (0, 0)) s m1 args below meth c w 3 _ X0 [(sb, .inr (1, [.ref va, .int 0, .int 0, .int (nI n)])), (va, .inl (hz_tc w 5, m, .inl a))] 0 [(0, .ref va), (1, .int (nI q))] []
  refine hz_y_iload_n hO dJ7_copyOf_9075b_0 rfl 1 rfl ?_
  refine hz_y_aload_n hO dJ7_copyOf_9075b_1 rfl 0 rfl ?_
  refine hz_y_alen (j := 1) (v := nI m) hO rfl rfl dJ7_copyOf_9075b_2 ?_
  refine hz_y_icmp_ne (tgt := 14) hO dJ7_copyOf_9075b_3 (by decide) (fun _ => ?_) (fun hc => absurd hc (hz_ne (by omega) (by omega) (by omega)))
  refine hz_y_iload_n hO dJ7_copyOf_9075b_14 rfl 1 rfl ?_
  refine hz_y_newb (n := q) hO (hz_nneg (by omega)) (nI_clamp (by omega)) (by omega) ⟨(Nat.le_of_ble_eq_true rfl), by show 0 + q ≤ 600; omega⟩ dJ7_copyOf_9075b_15 (fun b => ?_)
  refine hz_y_S (S1 := [(sb, .inr (1, [.ref va, .int 0, .int 0, .int (nI n)])), (va, .inl (hz_tc w 5, m, .inl a)), (b, .inl (hz_tc w 5, q, .inl (fun _ => 0)))]) rfl ?_
  refine hz_y_astore_n (ls1 := [(2, .ref b), (0, .ref va), (1, .int (nI q))]) hO dJ7_copyOf_9075b_17 rfl (Nat.le_of_ble_eq_true rfl) rfl ?_
  refine hz_y_aload_n hO dJ7_copyOf_9075b_18 rfl 1 rfl ?_
  refine hz_y_iconst (v := (0 : Int32)) hO dJ7_copyOf_9075b_19 (by decide) ?_
  refine hz_y_aload_n hO dJ7_copyOf_9075b_20 rfl 0 rfl ?_
  refine hz_y_iconst (v := (0 : Int32)) hO dJ7_copyOf_9075b_21 (by decide) ?_
  refine hz_y_aload_n hO dJ7_copyOf_9075b_22 rfl 1 rfl ?_
  refine hz_y_alen (j := 1) (v := nI m) hO rfl rfl dJ7_copyOf_9075b_23 ?_
  refine hz_y_iload_n hO dJ7_copyOf_9075b_24 rfl 2 rfl ?_
  refine hz_y_mmin hO tw_6_168 (Nat.le_of_ble_eq_true rfl) (Nat.le_of_ble_eq_true rfl) dJ7_copyOf_9075b_25 ?_
  refine hz_y_name (y := nI m) ((hz_min (g := m) (q := q) (by omega) (by omega)).trans (by rw [if_neg (by omega)])).symm ?_
  refine hz_y_copy (j0 := 1) (j1 := 2) (S1 := [(sb, .inr (1, [.ref va, .int 0, .int 0, .int (nI n)])), (va, .inl (hz_tc w 5, m, .inl a)), (b, .inl (hz_tc w 5, q, .inl (va_cpy a (fun _ => 0) 0 0 m)))]) hO rfl rfl (by decide) (by decide) (hz_nneg (by omega)) (by rw [nI_clamp (by omega)]; show 0 + m ≤ m; omega) (by rw [nI_clamp (by omega)]; show 0 + m ≤ q; omega) hf tw_6_169 (Nat.le_of_ble_eq_true rfl) (Nat.le_of_ble_eq_true rfl) (by rw [nI_clamp (show m < 2 ^ 31 by omega)]; rfl) dJ7_copyOf_9075b_28 ?_
  refine hz_y_aload_n hO dJ7_copyOf_9075b_31 rfl 0 rfl ?_
  refine hz_y_widen (z1 := ((1, 600), (1, 600))) rfl (Nat.le_of_ble_eq_true rfl) (by show 0 + q ≤ 600; omega) ⟨Nat.le_refl _, Nat.le_refl _⟩ ?_
  exact hz_y_aret hO (Or.inr ⟨_, rfl⟩) rfl dJ7_copyOf_9075b_32
