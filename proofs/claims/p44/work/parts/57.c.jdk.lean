theorem tw_1_22 : (Jvm.Cond.initialized "java/lang/Integer") ∈ hz_TB := hz_tb (hz_t1 _ (List.mem_of_getElem? (i := 22) rfl)) rfl
theorem tw_6_114 : (Jvm.Cond.methodLink "java/lang/AbstractStringBuilder" (32 : Nat) ({ cls := "java/lang/String", name := "length", desc := "()I" } : Jvm.MethodName)) ∈ hz_TB := hz_tb (hz_t6 _ (List.mem_of_getElem? (i := 114) rfl)) rfl
theorem tw_6_117 : (Jvm.Cond.methodLink "java/lang/AbstractStringBuilder" (40 : Nat) ({ cls := "java/lang/String", name := "coder", desc := "()B" } : Jvm.MethodName)) ∈ hz_TB := hz_tb (hz_t6 _ (List.mem_of_getElem? (i := 117) rfl)) rfl
theorem tw_6_137 : (Jvm.Cond.code ({ cls := "java/lang/AbstractStringBuilder", name := "append", desc := "(Ljava/lang/String;)Ljava/lang/AbstractStringBuilder;" } : Jvm.MethodName) prog_15_method_22_code (3 : Nat) (Option.some (Jvm.ClassFile.FieldType.object "java/lang/AbstractStringBuilder"))) ∈ hz_TB := hz_tb (hz_t6 _ (List.mem_of_getElem? (i := 137) rfl)) rfl
theorem tw_6_191 : (Jvm.Cond.methodLink "java/lang/AbstractStringBuilder" (208 : Nat) ({ cls := "java/lang/AbstractStringBuilder", name := "putStringAt", desc := "(ILjava/lang/String;)V" } : Jvm.MethodName)) ∈ hz_TB := hz_tb (hz_t6 _ (List.mem_of_getElem? (i := 191) rfl)) rfl
theorem tw_6_193 : (Jvm.Cond.instanceMethod ({ cls := "java/lang/AbstractStringBuilder", name := "putStringAt", desc := "(ILjava/lang/String;)V" } : Jvm.MethodName)) ∈ hz_TB := hz_tb (hz_t6 _ (List.mem_of_getElem? (i := 193) rfl)) rfl
theorem tw_6_194 : (Jvm.Cond.code ({ cls := "java/lang/AbstractStringBuilder", name := "putStringAt", desc := "(ILjava/lang/String;)V" } : Jvm.MethodName) prog_15_method_73_code (3 : Nat) (Option.none : Option Jvm.ClassFile.FieldType)) ∈ hz_TB := hz_tb (hz_t6 _ (List.mem_of_getElem? (i := 194) rfl)) rfl
theorem tw_6_195 : (Jvm.Cond.methodLink "java/lang/AbstractStringBuilder" (397 : Nat) ({ cls := "java/lang/AbstractStringBuilder", name := "inflateIfNeededFor", desc := "(Ljava/lang/String;)V" } : Jvm.MethodName)) ∈ hz_TB := hz_tb (hz_t6 _ (List.mem_of_getElem? (i := 195) rfl)) rfl
theorem tw_6_197 : (Jvm.Cond.instanceMethod ({ cls := "java/lang/AbstractStringBuilder", name := "inflateIfNeededFor", desc := "(Ljava/lang/String;)V" } : Jvm.MethodName)) ∈ hz_TB := hz_tb (hz_t6 _ (List.mem_of_getElem? (i := 197) rfl)) rfl
theorem tw_6_198 : (Jvm.Cond.code ({ cls := "java/lang/AbstractStringBuilder", name := "inflateIfNeededFor", desc := "(Ljava/lang/String;)V" } : Jvm.MethodName) prog_15_method_71_code (2 : Nat) (Option.none : Option Jvm.ClassFile.FieldType)) ∈ hz_TB := hz_tb (hz_t6 _ (List.mem_of_getElem? (i := 198) rfl)) rfl
theorem tw_6_218 : (Jvm.Cond.methodLink "java/lang/AbstractStringBuilder" (399 : Nat) ({ cls := "java/lang/String", name := "getBytes", desc := "([BIB)V" } : Jvm.MethodName)) ∈ hz_TB := hz_tb (hz_t6 _ (List.mem_of_getElem? (i := 218) rfl)) rfl
theorem tw_6_219 : (Jvm.Cond.instanceMethod ({ cls := "java/lang/String", name := "getBytes", desc := "([BIB)V" } : Jvm.MethodName)) ∈ hz_TB := hz_tb (hz_t6 _ (List.mem_of_getElem? (i := 219) rfl)) rfl
theorem tw_6_220 : (Jvm.Cond.selects "java/lang/String" ({ cls := "java/lang/String", name := "getBytes", desc := "([BIB)V" } : Jvm.MethodName) ({ cls := "java/lang/String", name := "getBytes", desc := "([BIB)V" } : Jvm.MethodName)) ∈ hz_TB := hz_tb (hz_t6 _ (List.mem_of_getElem? (i := 220) rfl)) rfl
theorem tw_6_221 : (Jvm.Cond.code ({ cls := "java/lang/String", name := "getBytes", desc := "([BIB)V" } : Jvm.MethodName) prog_25_method_147_code (4 : Nat) (Option.none : Option Jvm.ClassFile.FieldType)) ∈ hz_TB := hz_tb (hz_t6 _ (List.mem_of_getElem? (i := 221) rfl)) rfl
theorem tw_6_222 : (Jvm.Cond.methodLink "java/lang/String" (212 : Nat) ({ cls := "java/lang/System", name := "arraycopy", desc := "(Ljava/lang/Object;ILjava/lang/Object;II)V" } : Jvm.MethodName)) ∈ hz_TB := hz_tb (hz_t6 _ (List.mem_of_getElem? (i := 222) rfl)) rfl
theorem tw_7_2 : (Jvm.Cond.code ({ cls := "java/lang/AbstractStringBuilder", name := "append", desc := "(I)Ljava/lang/AbstractStringBuilder;" } : Jvm.MethodName) prog_15_method_32_code (4 : Nat) (Option.some (Jvm.ClassFile.FieldType.object "java/lang/AbstractStringBuilder"))) ∈ hz_TB := hz_tb (hz_t7 _ (List.mem_of_getElem? (i := 2) rfl)) rfl
theorem tw_7_3 : (Jvm.Cond.methodLink "java/lang/AbstractStringBuilder" (245 : Nat) ({ cls := "java/lang/Integer", name := "stringSize", desc := "(I)I" } : Jvm.MethodName)) ∈ hz_TB := hz_tb (hz_t7 _ (List.mem_of_getElem? (i := 3) rfl)) rfl
theorem tw_7_4 : (Jvm.Cond.static ({ cls := "java/lang/Integer", name := "stringSize", desc := "(I)I" } : Jvm.MethodName)) ∈ hz_TB := hz_tb (hz_t7 _ (List.mem_of_getElem? (i := 4) rfl)) rfl
theorem tw_7_5 : (Jvm.Cond.code ({ cls := "java/lang/Integer", name := "stringSize", desc := "(I)I" } : Jvm.MethodName) prog_21_method_13_code (4 : Nat) (Option.some Jvm.ClassFile.FieldType.int)) ∈ hz_TB := hz_tb (hz_t7 _ (List.mem_of_getElem? (i := 5) rfl)) rfl
theorem tw_7_6 : (Jvm.Cond.methodLink "java/lang/AbstractStringBuilder" (248 : Nat) ({ cls := "java/lang/Integer", name := "getChars", desc := "(II[B)I" } : Jvm.MethodName)) ∈ hz_TB := hz_tb (hz_t7 _ (List.mem_of_getElem? (i := 6) rfl)) rfl
theorem tw_7_7 : (Jvm.Cond.static ({ cls := "java/lang/Integer", name := "getChars", desc := "(II[B)I" } : Jvm.MethodName)) ∈ hz_TB := hz_tb (hz_t7 _ (List.mem_of_getElem? (i := 7) rfl)) rfl
theorem tw_7_8 : (Jvm.Cond.code ({ cls := "java/lang/Integer", name := "getChars", desc := "(II[B)I" } : Jvm.MethodName) prog_21_method_12_code (7 : Nat) (Option.some Jvm.ClassFile.FieldType.int)) ∈ hz_TB := hz_tb (hz_t7 _ (List.mem_of_getElem? (i := 8) rfl)) rfl
theorem tw_7_9 : (Jvm.Cond.fieldLink "java/lang/Integer" (83 : Nat) "java/lang/Integer" "DigitOnes" "[B") ∈ hz_TB := hz_tb (hz_t7 _ (List.mem_of_getElem? (i := 9) rfl)) rfl
theorem tw_7_11 : (Jvm.Cond.fieldLink "java/lang/Integer" (87 : Nat) "java/lang/Integer" "DigitTens" "[B") ∈ hz_TB := hz_tb (hz_t7 _ (List.mem_of_getElem? (i := 11) rfl)) rfl
theorem tw_7_148 : (Jvm.Cond.sameMethod "java/lang/AbstractStringBuilder" "java/lang/AbstractStringBuilder" "putStringAt" "(ILjava/lang/String;)V") ∈ hz_TB := hz_tb (hz_t7 _ (List.mem_of_getElem? (i := 148) rfl)) rfl
theorem tw_7_149 : (Jvm.Cond.sameMethod "java/lang/AbstractStringBuilder" "java/lang/AbstractStringBuilder" "inflateIfNeededFor" "(Ljava/lang/String;)V") ∈ hz_TB := hz_tb (hz_t7 _ (List.mem_of_getElem? (i := 149) rfl)) rfl
theorem hx_cal_J0_coder_7d493 : hz_CalXV yJ0_coder_7d493 cJ0_coder_7d493 1 (some .byte) 0 := ⟨⟨tw_2_122, tw_1_10, ⟨by decide, by decide, by decide +kernel⟩, Nat.le_of_ble_eq_true rfl⟩, tw_2_120⟩
theorem hx_cal_J0_getBytes_840e7 : hz_CalXV yJ0_getBytes_840e7 cJ0_getBytes_840e7 4 none 3 := ⟨⟨tw_6_221, tw_1_10, ⟨by decide, by decide, by decide +kernel⟩, Nat.le_of_ble_eq_true rfl⟩, tw_6_219⟩
theorem hx_cal_J0_length_8abf5 : hz_CalXV yJ0_length_8abf5 cJ0_length_8abf5 1 (some .int) 0 := ⟨⟨tw_2_118, tw_1_10, ⟨by decide, by decide, by decide +kernel⟩, Nat.le_of_ble_eq_true rfl⟩, tw_2_116⟩
theorem hx_cal_J5_inflateIfNeededFor_a7421 : hz_CalXV yJ5_inflateIfNeededFor_a7421 cJ5_inflateIfNeededFor_a7421 2 none 1 := ⟨⟨tw_6_198, tw_1_17, ⟨by decide, by decide, by decide +kernel⟩, Nat.le_of_ble_eq_true rfl⟩, tw_6_197⟩
theorem hx_cal_J5_putStringAt_47b60 : hz_CalXV yJ5_putStringAt_47b60 cJ5_putStringAt_47b60 3 none 2 := ⟨⟨tw_6_194, tw_1_17, ⟨by decide, by decide, by decide +kernel⟩, Nat.le_of_ble_eq_true rfl⟩, tw_6_193⟩
theorem hx_cal_J6_getChars_ba4f3 : hz_CalXS yJ6_getChars_ba4f3 cJ6_getChars_ba4f3 7 (some .int) 3 := ⟨⟨tw_7_8, tw_1_22, ⟨by decide, by decide, by decide +kernel⟩, Nat.le_of_ble_eq_true rfl⟩, tw_7_7⟩
theorem hx_cal_J6_stringSize_0f7a4 : hz_CalXS yJ6_stringSize_0f7a4 cJ6_stringSize_0f7a4 4 (some .int) 1 := ⟨⟨tw_7_5, tw_1_22, ⟨by decide, by decide, by decide +kernel⟩, Nat.le_of_ble_eq_true rfl⟩, tw_7_4⟩
def hz_dg (v : Nat) : Nat := if v < 10 then 1 else 2
def hz_dec (v : Nat) : Nat → Nat := fun i => if v < 10 then 48 + v else if i = 0 then 48 + v / 10 else 48 + v % 10
theorem hz_cle {v b : Nat} {x : Int32} (hv : v < 100) (hb : b < 2 ^ 31) (hx : x = -nI b) : (-nI v ≤ x) ↔ b ≤ v := by
  rw [hx]
  exact sb_nle (by omega) hb
theorem hz_clt {v b : Nat} {x : Int32} (hv : v < 100) (hb : b < 2 ^ 31) (hx : x = -nI b) : (x < -nI v) ↔ v < b := by
  rw [hx]
  exact sb_nlt hb (by omega)
theorem hz_cge {v b : Nat} {x : Int32} (hv : v < 100) (hb : b < 2 ^ 31) (hx : x = -nI b) : (x ≤ -nI v) ↔ v ≤ b := by
  rw [hx]
  exact sb_nle hb (by omega)
theorem hz_m1 {k : Nat} (h : 0 < k) : nI k + Int32.ofInt (-1) = nI (k - 1) := by
  rw [show Int32.ofInt (-1) = (-1 : Int32) by decide]
  exact sb_m1 h
theorem hz_nleN {a b : Nat} (h : b < a) (ha : a < 2 ^ 31) : ¬ nI a ≤ nI b := nI_ge h ha
set_option maxRecDepth 100000 in
set_option maxHeartbeats 4000000 in
theorem c_y_size (l : Launch) (w : hz_C) {X0 : va_W} {S : va_W} {v : Nat} (hv : v < 100) : hz_CY l yJ6_stringSize_0f7a4 cJ6_stringSize_0f7a4 4 (some .int) 0 0 0 w [.int (nI v)] (X0 ++ S) (hz_YQi w (fun r S1 => r = nI (hz_dg v) ∧ S1 = S) X0) := by
  refine hz_y_ofW (by decide) rfl (Nat.le_of_ble_eq_true rfl) tw_7_5 ?_
  intro p e s m1 args below meth c hO hin
  show hz_Y p l e 0 ((0, 0), (0, 0)) s m1 args below meth c w 4 _ X0 S 0 [(0, .int (nI v))] []
  refine hz_y_iconst (v := (1 : Int32)) hO dJ6_stringSize_0f7a4_0 (by decide) ?_
  refine hz_y_istore_n (ls1 := [(1, .int (1 : Int32)), (0, .int (nI v))]) hO dJ6_stringSize_0f7a4_1 rfl (Nat.le_of_ble_eq_true rfl) rfl ?_
  refine hz_y_iload_n hO dJ6_stringSize_0f7a4_2 rfl 1 rfl ?_
  refine hz_y_if_lt (tgt := 11) hO dJ6_stringSize_0f7a4_3 (by decide) (fun hc => absurd hc (hz_nneg (by omega))) (fun _ => ?_)
  refine hz_y_iconst (v := (0 : Int32)) hO dJ6_stringSize_0f7a4_6 (by decide) ?_
  refine hz_y_istore_n (ls1 := [(1, .int (0 : Int32)), (0, .int (nI v))]) hO dJ6_stringSize_0f7a4_7 rfl (Nat.le_of_ble_eq_true rfl) rfl ?_
  refine hz_y_iload_n hO dJ6_stringSize_0f7a4_8 rfl 1 rfl ?_
  refine hz_y_ineg hO dJ6_stringSize_0f7a4_9 ?_
  refine hz_y_name (y := (-nI v)) rfl ?_
  refine hz_y_istore_n (ls1 := [(0, .int (-nI v)), (1, .int (0 : Int32))]) hO dJ6_stringSize_0f7a4_10 rfl (Nat.le_of_ble_eq_true rfl) rfl ?_
  refine hz_y_bipush (v := (-10 : Int32)) hO dJ6_stringSize_0f7a4_11 (by decide) ?_
  refine hz_y_istore_n (ls1 := [(2, .int (-10 : Int32)), (0, .int (-nI v)), (1, .int (0 : Int32))]) hO dJ6_stringSize_0f7a4_13 rfl (Nat.le_of_ble_eq_true rfl) rfl ?_
  refine hz_y_iconst (v := (1 : Int32)) hO dJ6_stringSize_0f7a4_14 (by decide) ?_
  refine hz_y_istore_n (ls1 := [(3, .int (1 : Int32)), (2, .int (-10 : Int32)), (0, .int (-nI v)), (1, .int (0 : Int32))]) hO dJ6_stringSize_0f7a4_15 rfl (Nat.le_of_ble_eq_true rfl) rfl ?_
  refine hz_y_iload_n hO dJ6_stringSize_0f7a4_16 rfl 0 rfl ?_
  refine hz_y_bipush (v := (10 : Int32)) hO dJ6_stringSize_0f7a4_17 (by decide) ?_
  refine hz_y_icmp_ge (tgt := 42) hO dJ6_stringSize_0f7a4_19 (by decide) (fun hc => absurd hc (by decide)) (fun _ => ?_)
  refine hz_y_iload_n hO dJ6_stringSize_0f7a4_22 rfl 2 rfl ?_
  refine hz_y_iload_n hO dJ6_stringSize_0f7a4_23 rfl 1 rfl ?_
  by_cases h10 : v < 10
  · refine hz_y_icmp_le (tgt := 31) hO dJ6_stringSize_0f7a4_24 (by decide) (fun hc => absurd hc (fun hc => by have := (hz_cle (b := 10) hv (by decide) (by decide)).mp hc; omega)) (fun _ => ?_)
    refine hz_y_iload_n hO dJ6_stringSize_0f7a4_27 rfl 0 rfl ?_
    refine hz_y_iload_n hO dJ6_stringSize_0f7a4_28 rfl 3 rfl ?_
    refine hz_y_iadd hO dJ6_stringSize_0f7a4_29 ?_
    refine hz_y_name (y := nI 1) (by decide) ?_
    exact hz_y_iret hO ⟨by simp [hz_dg, h10], rfl⟩ dJ6_stringSize_0f7a4_30
  · refine hz_y_icmp_le (tgt := 31) hO dJ6_stringSize_0f7a4_24 (by decide) (fun _ => ?_) (fun hc => absurd ((hz_cle (b := 10) hv (by decide) (by decide)).mpr (by omega)) hc)
    refine hz_y_bipush (v := (10 : Int32)) hO dJ6_stringSize_0f7a4_31 (by decide) ?_
    refine hz_y_iload_n hO dJ6_stringSize_0f7a4_33 rfl 1 rfl ?_
    refine hz_y_imul hO dJ6_stringSize_0f7a4_34 ?_
    refine hz_y_name (y := (-100 : Int32)) (by decide) ?_
    refine hz_y_istore_n (ls1 := [(2, .int (-100 : Int32)), (3, .int (1 : Int32)), (0, .int (-nI v)), (1, .int (0 : Int32))]) hO dJ6_stringSize_0f7a4_35 rfl (Nat.le_of_ble_eq_true rfl) rfl ?_
    refine hz_y_iinc (k := 1) (v := (2 : Int32)) (ls1 := [(3, .int (2 : Int32)), (2, .int (-100 : Int32)), (0, .int (-nI v)), (1, .int (0 : Int32))]) hO dJ6_stringSize_0f7a4_36 rfl (by decide) (Nat.le_of_ble_eq_true rfl) rfl ?_
    refine hz_y_goto (tgt := 16) hO dJ6_stringSize_0f7a4_39 (by decide) ?_
    refine hz_y_iload_n hO dJ6_stringSize_0f7a4_16 rfl 0 rfl ?_
    refine hz_y_bipush (v := (10 : Int32)) hO dJ6_stringSize_0f7a4_17 (by decide) ?_
    refine hz_y_icmp_ge (tgt := 42) hO dJ6_stringSize_0f7a4_19 (by decide) (fun hc => absurd hc (by decide)) (fun _ => ?_)
    refine hz_y_iload_n hO dJ6_stringSize_0f7a4_22 rfl 2 rfl ?_
    refine hz_y_iload_n hO dJ6_stringSize_0f7a4_23 rfl 1 rfl ?_
    refine hz_y_icmp_le (tgt := 31) hO dJ6_stringSize_0f7a4_24 (by decide) (fun hc => absurd hc (fun hc => by have := (hz_cle (b := 100) hv (by decide) (by decide)).mp hc; omega)) (fun _ => ?_)
    refine hz_y_iload_n hO dJ6_stringSize_0f7a4_27 rfl 0 rfl ?_
    refine hz_y_iload_n hO dJ6_stringSize_0f7a4_28 rfl 3 rfl ?_
    refine hz_y_iadd hO dJ6_stringSize_0f7a4_29 ?_
    refine hz_y_name (y := nI 2) (by decide) ?_
    exact hz_y_iret hO ⟨by simp [hz_dg, h10], rfl⟩ dJ6_stringSize_0f7a4_30
def hz_chs (v k : Nat) (a a1 : Nat → Int32) : Prop := sb_Fit a1 ∧ (∀ j, j < k - hz_dg v → a1 j = a j) ∧ ∀ i, i < hz_dg v → a1 (k - hz_dg v + i) = nI (hz_dec v i)
theorem hz_chs1 {v k : Nat} {a : Nat → Int32} (h10 : v < 10) (hk : 1 ≤ k) (hf : sb_Fit a) : hz_chs v k a (upd a (k - 1) (nI (48 + v % 10))) := by
  have e : hz_dg v = 1 := if_pos h10
  refine ⟨sb_fitU hf (hz_fit1 (by omega)), fun j hj => pk_un (by omega), fun i hi => ?_⟩
  rw [e] at hi ⊢
  obtain rfl : i = 0 := by omega
  show upd a (k - 1) _ (k - 1) = _
  rw [pk_us, hz_dec, if_pos h10, show v % 10 = v by omega]
theorem hz_chs2 {v k : Nat} {a : Nat → Int32} (h10 : ¬ v < 10) (hv : v < 100) (hk : 2 ≤ k) (hf : sb_Fit a) : hz_chs v k a (upd (upd a (k - 1) (nI (48 + v % 10))) (k - 2) (nI (48 + v / 10))) := by
  have e : hz_dg v = 2 := if_neg h10
  refine ⟨sb_fitU (sb_fitU hf (hz_fit1 (by omega))) (hz_fit1 (by omega)), fun j hj => ?_, fun i hi => ?_⟩
  · rw [pk_un (by omega), pk_un (by omega)]
  · rw [e] at hi ⊢
    by_cases h0 : i = 0
    · subst h0
      show upd _ (k - 2) _ (k - 2) = _
      rw [pk_us, hz_dec, if_neg h10, if_pos rfl]
    · obtain rfl : i = 1 := by omega
      rw [show k - 2 + 1 = k - 1 by omega, pk_un (by omega), pk_us, hz_dec, if_neg h10, if_neg (by decide)]
set_option maxRecDepth 100000 in
set_option maxHeartbeats 4000000 in
theorem c_y_chars (l : Launch) (w : hz_C) {X0 : va_W} {sb va m n : Nat} {a : Nat → Int32} {v k : Nat} (hv : v < 100) (hk : hz_dg v ≤ k) (hk1 : 1 ≤ k) (hkm : k ≤ m) (hm : m ≤ 262) (hf : sb_Fit a) : hz_CY l yJ6_getChars_ba4f3 cJ6_getChars_ba4f3 7 (some .int) 0 0 0 w [.int (nI v), .int (nI k), .ref va] (X0 ++ [(sb, .inr (1, [.ref va, .int 0, .int 0, .int (nI n)])), (va, .inl (hz_tc w 5, m, .inl a))]) (hz_YQi w (fun _ S1 => ∃ a1, S1 = hz_sb w sb va m a1 n ∧ hz_chs v k a a1) X0) := by
  refine hz_y_ofW (by decide) rfl (Nat.le_of_ble_eq_true rfl) tw_7_8 ?_
  intro p e s m1 args below meth c hO hin
  show hz_Y p l e 0 ((0, 0), (0, 0)) s m1 args below meth c w 7 _ X0 [(sb, .inr (1, [.ref va, .int 0, .int 0, .int (nI n)])), (va, .inl (hz_tc w 5, m, .inl a))] 0 [(0, .int (nI v)), (1, .int (nI k)), (2, .ref va)] []
  obtain ⟨⟨tT1, zT1, hT1⟩, ⟨tT2, zT2, hT2⟩⟩ := hO.2.2.2.1.2.2.2.2.2.2.1
  refine hz_y_iload_n hO dJ6_getChars_ba4f3_0 rfl 1 rfl ?_
  refine hz_y_istore (ls1 := [(5, .int (nI k)), (0, .int (nI v)), (1, .int (nI k)), (2, .ref va)]) hO dJ6_getChars_ba4f3_1 (Nat.le_of_ble_eq_true rfl) rfl ?_
  refine hz_y_iload_n hO dJ6_getChars_ba4f3_3 rfl 1 rfl ?_
  refine hz_y_if_ge (tgt := 11) hO dJ6_getChars_ba4f3_4 (by decide) (fun _ => ?_) (fun hc => absurd (nI_pos' (by omega)) hc)
  refine hz_y_iconst (v := (0 : Int32)) hO dJ6_getChars_ba4f3_11 (by decide) ?_
  refine hz_y_istore (ls1 := [(6, .int (0 : Int32)), (5, .int (nI k)), (0, .int (nI v)), (1, .int (nI k)), (2, .ref va)]) hO dJ6_getChars_ba4f3_12 (Nat.le_of_ble_eq_true rfl) rfl ?_
  refine hz_y_iload hO dJ6_getChars_ba4f3_14 0 rfl ?_
  refine hz_y_if_ne (tgt := 22) hO dJ6_getChars_ba4f3_16 (by decide) (fun hc => absurd rfl hc) (fun _ => ?_)
  refine hz_y_iload_n hO dJ6_getChars_ba4f3_19 rfl 2 rfl ?_
  refine hz_y_ineg hO dJ6_getChars_ba4f3_20 ?_
  refine hz_y_name (y := (-nI v)) rfl ?_
  refine hz_y_istore_n (ls1 := [(0, .int (-nI v)), (6, .int (0 : Int32)), (5, .int (nI k)), (1, .int (nI k)), (2, .ref va)]) hO dJ6_getChars_ba4f3_21 rfl (Nat.le_of_ble_eq_true rfl) rfl ?_
  refine hz_y_iload_n hO dJ6_getChars_ba4f3_22 rfl 0 rfl ?_
  refine hz_y_bipush (v := (-100 : Int32)) hO dJ6_getChars_ba4f3_23 (by decide) ?_
  refine hz_y_icmp_gt (tgt := 72) hO dJ6_getChars_ba4f3_25 (by decide) (fun _ => ?_) (fun hc => absurd ((hz_clt (b := 100) hv (by decide) (by decide)).mpr hv) hc)
  refine hz_y_aload_n hO dJ6_getChars_ba4f3_72 rfl 4 rfl ?_
  refine hz_y_iinc (k := 2) (v := (nI (k - 1))) (ls1 := [(5, .int (nI (k - 1))), (0, .int (-nI v)), (6, .int (0 : Int32)), (1, .int (nI k)), (2, .ref va)]) hO dJ6_getChars_ba4f3_73 rfl (hz_m1 (by omega)) (Nat.le_of_ble_eq_true rfl) rfl ?_
  refine hz_y_iload hO dJ6_getChars_ba4f3_76 0 rfl ?_
  refine hz_y_gets hO zT1 tw_7_9 rfl dJ6_getChars_ba4f3_78 ?_
  refine hz_y_iload_n hO dJ6_getChars_ba4f3_81 rfl 1 rfl ?_
  refine hz_y_ineg hO dJ6_getChars_ba4f3_82 ?_
  refine hz_y_name (y := nI v) (by simp) ?_
  refine hz_y_tb8 (v := .int (nI (48 + v % 10))) hO hT1 (vp_in_nI (by omega) (by omega)) (by rw [nI_clamp (show v < 2 ^ 31 by omega)]) dJ6_getChars_ba4f3_83 ?_
  refine hz_y_bast (j := 1) (S1 := [(sb, .inr (1, [.ref va, .int 0, .int 0, .int (nI n)])), (va, .inl (hz_tc w 5, m, .inl (upd a (k - 1) (nI (48 + v % 10)))))]) hO rfl (vp_in_nI (by omega) (by omega)) (by rw [nI_clamp (show k - 1 < 2 ^ 31 by omega), hz_nar (show 48 + v % 10 < 128 by omega)]; rfl) dJ6_getChars_ba4f3_84 ?_
  refine hz_y_iload_n hO dJ6_getChars_ba4f3_85 rfl 1 rfl ?_
  refine hz_y_bipush (v := (-9 : Int32)) hO dJ6_getChars_ba4f3_86 (by decide) ?_
  by_cases h10 : v < 10
  · refine hz_y_icmp_ge (tgt := 104) hO dJ6_getChars_ba4f3_88 (by decide) (fun _ => ?_) (fun hc => absurd ((hz_cge (b := 9) hv (by decide) (by decide)).mpr (by omega)) hc)
    refine hz_y_iload hO dJ6_getChars_ba4f3_104 2 rfl ?_
    refine hz_y_if_eq (tgt := 118) hO dJ6_getChars_ba4f3_106 (by decide) (fun _ => ?_) (fun hc => absurd rfl hc)
    refine hz_y_iload hO dJ6_getChars_ba4f3_118 0 rfl ?_
    exact hz_y_iret hO ⟨_, rfl, hz_chs1 h10 (by omega) hf⟩ dJ6_getChars_ba4f3_120
  · have hk2 : 2 ≤ k := by unfold hz_dg at hk; rw [if_neg h10] at hk; omega
    refine hz_y_icmp_ge (tgt := 104) hO dJ6_getChars_ba4f3_88 (by decide) (fun hc => absurd hc (fun hc => by have := (hz_cge (b := 9) hv (by decide) (by decide)).mp hc; omega)) (fun _ => ?_)
    refine hz_y_aload_n hO dJ6_getChars_ba4f3_91 rfl 4 rfl ?_
    refine hz_y_iinc (k := 0) (v := (nI (k - 2))) (ls1 := [(5, .int (nI (k - 2))), (0, .int (-nI v)), (6, .int (0 : Int32)), (1, .int (nI k)), (2, .ref va)]) hO dJ6_getChars_ba4f3_92 rfl (hz_m1 (k := k - 1) (by omega)) (Nat.le_of_ble_eq_true rfl) rfl ?_
    refine hz_y_iload hO dJ6_getChars_ba4f3_95 0 rfl ?_
    refine hz_y_gets hO zT2 tw_7_11 rfl dJ6_getChars_ba4f3_97 ?_
    refine hz_y_iload_n hO dJ6_getChars_ba4f3_100 rfl 1 rfl ?_
    refine hz_y_ineg hO dJ6_getChars_ba4f3_101 ?_
    refine hz_y_name (y := nI v) (by simp) ?_
    refine hz_y_tb8 (v := .int (nI (48 + v / 10))) hO hT2 (vp_in_nI (by omega) (by omega)) (by rw [nI_clamp (show v < 2 ^ 31 by omega)]) dJ6_getChars_ba4f3_102 ?_
    refine hz_y_bast (j := 1) (S1 := [(sb, .inr (1, [.ref va, .int 0, .int 0, .int (nI n)])), (va, .inl (hz_tc w 5, m, .inl (upd (upd a (k - 1) (nI (48 + v % 10))) (k - 2) (nI (48 + v / 10)))))]) hO rfl (vp_in_nI (by omega) (by omega)) (by rw [nI_clamp (show k - 2 < 2 ^ 31 by omega), hz_nar (show 48 + v / 10 < 128 by omega)]; rfl) dJ6_getChars_ba4f3_103 ?_
    refine hz_y_iload hO dJ6_getChars_ba4f3_104 2 rfl ?_
    refine hz_y_if_eq (tgt := 118) hO dJ6_getChars_ba4f3_106 (by decide) (fun _ => ?_) (fun hc => absurd rfl hc)
    refine hz_y_iload hO dJ6_getChars_ba4f3_118 0 rfl ?_
    exact hz_y_iret hO ⟨_, rfl, hz_chs2 h10 hv (by omega) hf⟩ dJ6_getChars_ba4f3_120
theorem hz_dg_in (v : Nat) : 1 ≤ hz_dg v ∧ hz_dg v ≤ 2 := by
  unfold hz_dg
  split <;> omega
theorem hz_dec_lt {v i : Nat} (hv : v < 100) : hz_dec v i < 128 := by
  unfold hz_dec
  split
  · omega
  · split <;> omega
theorem hz_putD {t : Nat → Nat} {n v : Nat} {a1 a2 : Nat → Int32} (hv : v < 100) (hL : sb_Lat t n a1) (h : hz_chs v (n + hz_dg v) a1 a2) : sb_Lat (sb_cat t n (hz_dec v)) (n + hz_dg v) a2 := by
  obtain ⟨-, h1, h2⟩ := h
  rw [show n + hz_dg v - hz_dg v = n by omega] at h1 h2
  refine sb_latPut hL h1 (fun i hi => ⟨?_, ?_⟩)
  · have := hz_dec_lt (v := v) (i := i) hv
    omega
  · rw [h2 i hi, hz_sbb (hz_dec_lt hv)]
set_option maxRecDepth 100000 in
set_option maxHeartbeats 4000000 in
theorem c_y_appI (l : Launch) (w : hz_C) {X0 : va_W} {sb va m n : Nat} {a : Nat → Int32} {t : Nat → Nat} {v : Nat} (hnm : n ≤ m) (hm0 : 0 < m) (hm : m ≤ 262) (hL : sb_Lat t n a) (hf : sb_Fit a) (hn : n + 2 ≤ 130) (hv : v < 100) : hz_CY l yJ5_append_c97b9 cJ5_append_c97b9 4 (some (.object "java/lang/AbstractStringBuilder")) 4 1 600 w [.ref sb, .int (nI v)] (X0 ++ [(sb, .inr (1, [.ref va, .int 0, .int 0, .int (nI n)])), (va, .inl (hz_tc w 5, m, .inl a))]) (hz_YQr w (fun b S1 => b = sb ∧ hz_sbT w sb (sb_cat t n (hz_dec v)) (n + hz_dg v) S1) X0) := by
  refine hz_y_ofW (by decide) rfl (Nat.le_of_ble_eq_true rfl) tw_7_2 ?_
  intro p e s m1 args below meth c hO hin
  show hz_Y p l e 4 ((1, 600), (0, 0)) s m1 args below meth c w 4 _ X0 [(sb, .inr (1, [.ref va, .int 0, .int 0, .int (nI n)])), (va, .inl (hz_tc w 5, m, .inl a))] 0 [(0, .ref sb), (1, .int (nI v))] []
  have hdi := hz_dg_in v
  refine hz_y_aload_n hO dJ5_append_c97b9_0 rfl 0 rfl ?_
  refine hz_y_get (j := 0) (k := 3) hO hz_K_1 rfl rfl (Nat.le_of_ble_eq_true rfl) tw_6_227 rfl dJ5_append_c97b9_1 ?_
  refine hz_y_istore_n (ls1 := [(2, .int (nI n)), (0, .ref sb), (1, .int (nI v))]) hO dJ5_append_c97b9_4 rfl (Nat.le_of_ble_eq_true rfl) rfl ?_
  refine hz_y_iload_n hO dJ5_append_c97b9_5 rfl 0 rfl ?_
  refine hz_y_iload_n hO dJ5_append_c97b9_6 rfl 2 rfl ?_
  refine hz_y_callSi (as := [.int (nI v)]) (rest := [.int (nI n)]) (hc := 0) (mc := 0) (ms := 0) hO (c_y_size l w hv) hx_cal_J6_stringSize_0f7a4 tw_7_3 (Nat.le_of_ble_eq_true rfl) rfl rfl (Nat.le_of_ble_eq_true rfl) ⟨(Nat.le_of_ble_eq_true rfl), (Nat.le_of_ble_eq_true rfl)⟩ dJ5_append_c97b9_7 (fun r S1 hR => ?_)
  obtain ⟨rfl, rfl⟩ := hR
  refine hz_y_iadd hO dJ5_append_c97b9_10 ?_
  refine hz_y_name (y := nI (n + hz_dg v)) (nI_add n _).symm ?_
  refine hz_y_istore_n (ls1 := [(3, .int (nI (n + hz_dg v))), (2, .int (nI n)), (0, .ref sb), (1, .int (nI v))]) hO dJ5_append_c97b9_11 rfl (Nat.le_of_ble_eq_true rfl) rfl ?_
  refine hz_y_aload_n hO dJ5_append_c97b9_12 rfl 2 rfl ?_
  refine hz_y_iload_n hO dJ5_append_c97b9_13 rfl 0 rfl ?_
  refine hz_y_callVv (as := [.int (nI (n + hz_dg v))]) (rest := []) (hc := 3) (mc := 1) (ms := 600) hO (c_y_ensure l w hf hm0 hm (q := n + hz_dg v) (by omega)) hx_cal_J5_ensureCapacityInternal_d00df (hz_sel_p hO (n := 4) (by decide) tw_6_105 tw_7_146 (List.mem_of_getElem? (i := 0) rfl) tw_6_144) hz_K_1 (j := 0) rfl tw_6_142 (Nat.le_of_ble_eq_true rfl) rfl rfl (Nat.le_of_ble_eq_true rfl) ⟨(Nat.le_of_ble_eq_true rfl), (Nat.le_of_ble_eq_true rfl)⟩ dJ5_append_c97b9_14 (fun S1 hR => ?_)
  obtain ⟨va1, a1, hf1, hk1, rfl⟩ := hR
  have hc1 := hz_cap_le (q := n + hz_dg v) hm (by omega)
  have hc2 := sb_cap_ge (n + hz_dg v) m
  have hL1 := sb_latKeep hL (fun j hj => hk1 j (by omega))
  refine hz_y_aload_n hO dJ5_append_c97b9_17 rfl 2 rfl ?_
  refine hz_y_callVi (as := []) (rest := []) (hc := 0) (mc := 0) (ms := 0) hO (c_y_isL1 l w) hx_cal_J5_isLatin1_aae02 (hz_sel_w hO tw_6_173) hz_K_1 (j := 0) rfl tw_6_170 (Nat.le_of_ble_eq_true rfl) rfl rfl (Nat.le_of_ble_eq_true rfl) ⟨(Nat.le_of_ble_eq_true rfl), (Nat.le_of_ble_eq_true rfl)⟩ dJ5_append_c97b9_18 (fun r S1 hR => ?_)
  obtain ⟨rfl, rfl⟩ := hR
  refine hz_y_if_eq (tgt := 37) hO dJ5_append_c97b9_21 (by decide) (fun hc => absurd hc (by decide)) (fun _ => ?_)
  refine hz_y_iload_n hO dJ5_append_c97b9_24 rfl 3 rfl ?_
  refine hz_y_iload_n hO dJ5_append_c97b9_25 rfl 0 rfl ?_
  refine hz_y_aload_n hO dJ5_append_c97b9_26 rfl 2 rfl ?_
  refine hz_y_get (j := 0) (k := 0) hO hz_K_1 rfl rfl (Nat.le_of_ble_eq_true rfl) tw_6_224 rfl dJ5_append_c97b9_27 ?_
  refine hz_y_callSi (as := [.int (nI v), .int (nI (n + hz_dg v)), .ref va1]) (rest := []) (hc := 0) (mc := 0) (ms := 0) hO (c_y_chars l w hv (by omega) (by omega) hc2 hc1 hf1) hx_cal_J6_getChars_ba4f3 tw_7_6 (Nat.le_of_ble_eq_true rfl) rfl rfl (Nat.le_of_ble_eq_true rfl) ⟨(Nat.le_of_ble_eq_true rfl), (Nat.le_of_ble_eq_true rfl)⟩ dJ5_append_c97b9_30 (fun r S1 hR => ?_)
  obtain ⟨a2, rfl, hch⟩ := hR
  refine hz_y_pop hO dJ5_append_c97b9_33 rfl ?_
  refine hz_y_goto (tgt := 48) hO dJ5_append_c97b9_34 (by decide) ?_
  refine hz_y_aload_n hO dJ5_append_c97b9_48 rfl 2 rfl ?_
  refine hz_y_iload_n hO dJ5_append_c97b9_49 rfl 0 rfl ?_
  refine hz_y_put (j := 0) (k := 3) (S1 := [(sb, .inr (1, [.ref va1, .int 0, .int 0, .int (nI (n + hz_dg v))])), (va1, .inl (hz_tc w 5, (sb_cap (n + hz_dg v) m), .inl a2))]) hO hz_K_1 tyJ4_ok nmJ4 rfl (Nat.le_of_ble_eq_true rfl) tw_6_227 rfl rfl rfl rfl rfl (Nat.le_of_ble_eq_true rfl) rfl dJ5_append_c97b9_50 ?_
  refine hz_y_aload_n hO dJ5_append_c97b9_53 rfl 2 rfl ?_
  exact hz_y_aret hO (Or.inl ⟨_, rfl⟩) ⟨rfl, va1, _, a2, rfl, hc2, hc1, hz_putD hv hL1 hch, hch.1⟩ dJ5_append_c97b9_54
set_option maxRecDepth 100000 in
set_option maxHeartbeats 4000000 in
theorem c_y_coder (l : Launch) (w : hz_C) {X0 : va_W} {S : va_W} {i : Nat} (hi : i < hz_ns w) : hz_CY l yJ0_coder_7d493 cJ0_coder_7d493 1 (some .byte) 0 0 0 w [.ref (hz_sa w i)] (X0 ++ S) (hz_YQi w (fun r S1 => r = 0 ∧ S1 = S) X0) := by
  refine hz_y_ofW (by decide) rfl (Nat.le_of_ble_eq_true rfl) tw_2_122 ?_
  intro p e s m1 args below meth c hO hin
  show hz_Y p l e 0 ((0, 0), (0, 0)) s m1 args below meth c w 1 _ X0 S 0 [(0, .ref (hz_sa w i))] []
  refine hz_y_gets hO hO.2.2.2.1.2.2.2.2.2.2.2.1 tw_2_123 rfl dJ0_coder_7d493_0 ?_
  refine hz_y_if_eq (tgt := 13) hO dJ0_coder_7d493_3 (by decide) (fun hc => absurd hc (by decide)) (fun _ => ?_)
  refine hz_y_aload_n hO dJ0_coder_7d493_6 rfl 0 rfl ?_
  refine hz_y_getO hO (hO.2.2.2.1.2.2.1 i hi).2.1 tw_7_93 rfl dJ0_coder_7d493_7 ?_
  refine hz_y_goto (tgt := 14) hO dJ0_coder_7d493_10 (by decide) ?_
  exact hz_y_nret hO rfl ⟨rfl, rfl⟩ dJ0_coder_7d493_14
set_option maxRecDepth 100000 in
set_option maxHeartbeats 4000000 in
theorem c_y_slen (l : Launch) (w : hz_C) {X0 : va_W} {S : va_W} {i : Nat} (hi : i < hz_ns w) : hz_CY l yJ0_length_8abf5 cJ0_length_8abf5 1 (some .int) 1 0 0 w [.ref (hz_sa w i)] (X0 ++ S) (hz_YQi w (fun r S1 => r = nI (hz_ln w i) ∧ S1 = S) X0) := by
  refine hz_y_ofW (by decide) rfl (Nat.le_of_ble_eq_true rfl) tw_2_118 ?_
  intro p e s m1 args below meth c hO hin
  show hz_Y p l e 1 ((0, 0), (0, 0)) s m1 args below meth c w 1 _ X0 S 0 [(0, .ref (hz_sa w i))] []
  refine hz_y_aload_n hO dJ0_length_8abf5_0 rfl 0 rfl ?_
  refine hz_y_getO hO (hO.2.2.2.1.2.2.1 i hi).2.2.1 tw_7_92 rfl dJ0_length_8abf5_1 ?_
  refine hz_y_tlen (v := nI (hz_ln w i)) hO (hO.2.2.2.1.2.2.1 i hi).2.2.2 rfl dJ0_length_8abf5_4 ?_
  refine hz_y_aload_n hO dJ0_length_8abf5_5 rfl 0 rfl ?_
  refine hz_y_callTi (as := []) (rest := [.int (nI (hz_ln w i))]) (hc := 0) (mc := 0) (ms := 0) hO (c_y_coder l w hi) hx_cal_J0_coder_7d493 (hz_sel_w hO tw_2_121) hi tw_2_119 (Nat.le_of_ble_eq_true rfl) rfl rfl (Nat.le_of_ble_eq_true rfl) ⟨(Nat.le_of_ble_eq_true rfl), (Nat.le_of_ble_eq_true rfl)⟩ dJ0_length_8abf5_6 (fun r S1 hR => ?_)
  obtain ⟨rfl, rfl⟩ := hR
  refine hz_y_ishr hO dJ0_length_8abf5_9 ?_
  refine hz_y_name (y := nI (hz_ln w i)) (sb_shr0 _).symm ?_
  exact hz_y_iret hO ⟨rfl, rfl⟩ dJ0_length_8abf5_10
set_option maxRecDepth 100000 in
set_option maxHeartbeats 4000000 in
theorem c_y_bytes (l : Launch) (w : hz_C) {X0 : va_W} {sb va m n : Nat} {a : Nat → Int32} {s0 : Nat → Nat} {i : Nat} (hi : i < hz_ns w) (hs : ∀ j, j < hz_ln w i → s0 j < 128 ∧ hz_by w i j = nI (s0 j)) (hnm : n + hz_ln w i ≤ m) (hm : m ≤ 262) : hz_CY l yJ0_getBytes_840e7 cJ0_getBytes_840e7 4 none 1 0 0 w [.ref (hz_sa w i), .ref va, .int (nI n), .int 0] (X0 ++ [(sb, .inr (1, [.ref va, .int 0, .int 0, .int (nI n)])), (va, .inl (hz_tc w 5, m, .inl a))]) (hz_YQv w (fun S1 => S1 = hz_sb w sb va m (va_cpy (hz_by w i) a 0 n (hz_ln w i)) n) X0) := by
  refine hz_y_ofW (by decide) rfl (Nat.le_of_ble_eq_true rfl) tw_6_221 ?_
  intro p e s m1 args below meth c hO hin
  show hz_Y p l e 1 ((0, 0), (0, 0)) s m1 args below meth c w 4 _ X0 [(sb, .inr (1, [.ref va, .int 0, .int 0, .int (nI n)])), (va, .inl (hz_tc w 5, m, .inl a))] 0 [(0, .ref (hz_sa w i)), (1, .ref va), (2, .int (nI n)), (3, .int 0)] []
  refine hz_y_aload_n hO dJ0_getBytes_840e7_0 rfl 0 rfl ?_
  refine hz_y_callTi (as := []) (rest := []) (hc := 0) (mc := 0) (ms := 0) hO (c_y_coder l w hi) hx_cal_J0_coder_7d493 (hz_sel_w hO tw_2_121) hi tw_2_119 (Nat.le_of_ble_eq_true rfl) rfl rfl (Nat.le_of_ble_eq_true rfl) ⟨(Nat.le_of_ble_eq_true rfl), (Nat.le_of_ble_eq_true rfl)⟩ dJ0_getBytes_840e7_1 (fun r S1 hR => ?_)
  obtain ⟨rfl, rfl⟩ := hR
  refine hz_y_iload_n hO dJ0_getBytes_840e7_4 rfl 3 rfl ?_
  refine hz_y_icmp_ne (tgt := 28) hO dJ0_getBytes_840e7_5 (by decide) (fun hc => absurd rfl hc) (fun _ => ?_)
  refine hz_y_aload_n hO dJ0_getBytes_840e7_8 rfl 0 rfl ?_
  refine hz_y_getO hO (hO.2.2.2.1.2.2.1 i hi).2.2.1 tw_7_92 rfl dJ0_getBytes_840e7_9 ?_
  refine hz_y_iconst (v := (0 : Int32)) hO dJ0_getBytes_840e7_12 (by decide) ?_
  refine hz_y_aload_n hO dJ0_getBytes_840e7_13 rfl 1 rfl ?_
  refine hz_y_iload_n hO dJ0_getBytes_840e7_14 rfl 2 rfl ?_
  refine hz_y_iload_n hO dJ0_getBytes_840e7_15 rfl 3 rfl ?_
  refine hz_y_ishl hO dJ0_getBytes_840e7_16 ?_
  refine hz_y_name (y := nI n) (sb_shl0 _).symm ?_
  refine hz_y_aload_n hO dJ0_getBytes_840e7_17 rfl 0 rfl ?_
  refine hz_y_getO hO (hO.2.2.2.1.2.2.1 i hi).2.2.1 tw_7_92 rfl dJ0_getBytes_840e7_18 ?_
  refine hz_y_tlen (v := nI (hz_ln w i)) hO (hO.2.2.2.1.2.2.1 i hi).2.2.2 rfl dJ0_getBytes_840e7_21 ?_
  refine hz_y_copyt (j1 := 1) (S1 := [(sb, .inr (1, [.ref va, .int 0, .int 0, .int (nI n)])), (va, .inl (hz_tc w 5, m, .inl (va_cpy (hz_by w i) a 0 n (hz_ln w i))))]) hO (hO.2.2.2.1.2.2.1 i hi).2.2.2 rfl (by decide) (hz_nneg (by omega)) (hz_nneg (by omega)) (by rw [nI_clamp (show hz_ln w i < 2 ^ 31 by omega)]; show 0 + _ ≤ _; omega) (by rw [nI_clamp (show hz_ln w i < 2 ^ 31 by omega), nI_clamp (show n < 2 ^ 31 by omega)]; omega) (fun j hj => by rw [nI_clamp (show hz_ln w i < 2 ^ 31 by omega)] at hj; show fits .byte (.int (hz_by w i (0 + j))) = true; rw [Nat.zero_add, (hs j hj).2]; exact hz_fit1 (hs j hj).1) tw_6_222 (Nat.le_of_ble_eq_true rfl) (Nat.le_of_ble_eq_true rfl) (by rw [nI_clamp (show hz_ln w i < 2 ^ 31 by omega), nI_clamp (show n < 2 ^ 31 by omega)]; rfl) dJ0_getBytes_840e7_22 ?_
  refine hz_y_goto (tgt := 43) hO dJ0_getBytes_840e7_25 (by decide) ?_
  exact hz_y_vret hO rfl dJ0_getBytes_840e7_43
set_option maxRecDepth 100000 in
set_option maxHeartbeats 4000000 in
theorem c_y_infl (l : Launch) (w : hz_C) {X0 : va_W} {sb va m n : Nat} {a : Nat → Int32} {i : Nat} (hi : i < hz_ns w) : hz_CY l yJ5_inflateIfNeededFor_a7421 cJ5_inflateIfNeededFor_a7421 2 none 1 0 0 w [.ref sb, .ref (hz_sa w i)] (X0 ++ [(sb, .inr (1, [.ref va, .int 0, .int 0, .int (nI n)])), (va, .inl (hz_tc w 5, m, .inl a))]) (hz_YQv w (fun S1 => S1 = hz_sb w sb va m a n) X0) := by
  refine hz_y_ofW (by decide) rfl (Nat.le_of_ble_eq_true rfl) tw_6_198 ?_
  intro p e s m1 args below meth c hO hin
  show hz_Y p l e 1 ((0, 0), (0, 0)) s m1 args below meth c w 2 _ X0 [(sb, .inr (1, [.ref va, .int 0, .int 0, .int (nI n)])), (va, .inl (hz_tc w 5, m, .inl a))] 0 [(0, .ref sb), (1, .ref (hz_sa w i))] []
  refine hz_y_gets hO hO.2.2.2.1.2.2.2.2.2.2.2.1 tw_6_175 rfl dJ5_inflateIfNeededFor_a7421_0 ?_
  refine hz_y_if_eq (tgt := 21) hO dJ5_inflateIfNeededFor_a7421_3 (by decide) (fun hc => absurd hc (by decide)) (fun _ => ?_)
  refine hz_y_aload_n hO dJ5_inflateIfNeededFor_a7421_6 rfl 0 rfl ?_
  refine hz_y_get (j := 0) (k := 1) hO hz_K_1 rfl rfl (Nat.le_of_ble_eq_true rfl) tw_6_225 rfl dJ5_inflateIfNeededFor_a7421_7 ?_
  refine hz_y_aload_n hO dJ5_inflateIfNeededFor_a7421_10 rfl 1 rfl ?_
  refine hz_y_callTi (as := []) (rest := [.int 0]) (hc := 0) (mc := 0) (ms := 0) hO (c_y_coder l w hi) hx_cal_J0_coder_7d493 (hz_sel_w hO tw_2_121) hi tw_6_117 (Nat.le_of_ble_eq_true rfl) rfl rfl (Nat.le_of_ble_eq_true rfl) ⟨(Nat.le_of_ble_eq_true rfl), (Nat.le_of_ble_eq_true rfl)⟩ dJ5_inflateIfNeededFor_a7421_11 (fun r S1 hR => ?_)
  obtain ⟨rfl, rfl⟩ := hR
  refine hz_y_icmp_eq (tgt := 21) hO dJ5_inflateIfNeededFor_a7421_14 (by decide) (fun _ => ?_) (fun hc => absurd rfl hc)
  exact hz_y_vret hO rfl dJ5_inflateIfNeededFor_a7421_21
set_option maxRecDepth 100000 in
set_option maxHeartbeats 4000000 in
theorem c_y_putS (l : Launch) (w : hz_C) {X0 : va_W} {sb va m n : Nat} {a : Nat → Int32} {s0 : Nat → Nat} {i : Nat} (hi : i < hz_ns w) (hs : ∀ j, j < hz_ln w i → s0 j < 128 ∧ hz_by w i j = nI (s0 j)) (hnm : n + hz_ln w i ≤ m) (hm : m ≤ 262) : hz_CY l yJ5_putStringAt_47b60 cJ5_putStringAt_47b60 3 none 2 0 0 w [.ref sb, .int (nI n), .ref (hz_sa w i)] (X0 ++ [(sb, .inr (1, [.ref va, .int 0, .int 0, .int (nI n)])), (va, .inl (hz_tc w 5, m, .inl a))]) (hz_YQv w (fun S1 => S1 = hz_sb w sb va m (va_cpy (hz_by w i) a 0 n (hz_ln w i)) n) X0) := by
  refine hz_y_ofW (by decide) rfl (Nat.le_of_ble_eq_true rfl) tw_6_194 ?_
  intro p e s m1 args below meth c hO hin
  show hz_Y p l e 2 ((0, 0), (0, 0)) s m1 args below meth c w 3 _ X0 [(sb, .inr (1, [.ref va, .int 0, .int 0, .int (nI n)])), (va, .inl (hz_tc w 5, m, .inl a))] 0 [(0, .ref sb), (1, .int (nI n)), (2, .ref (hz_sa w i))] []
  refine hz_y_aload_n hO dJ5_putStringAt_47b60_0 rfl 0 rfl ?_
  refine hz_y_aload_n hO dJ5_putStringAt_47b60_1 rfl 2 rfl ?_
  refine hz_y_callVv (as := [.ref (hz_sa w i)]) (rest := []) (hc := 1) (mc := 0) (ms := 0) hO (c_y_infl l w hi) hx_cal_J5_inflateIfNeededFor_a7421 (hz_sel_p hO (n := 4) (by decide) tw_6_105 tw_7_149 (List.mem_of_getElem? (i := 3) rfl) tw_6_197) hz_K_1 (j := 0) rfl tw_6_195 (Nat.le_of_ble_eq_true rfl) rfl rfl (Nat.le_of_ble_eq_true rfl) ⟨(Nat.le_of_ble_eq_true rfl), (Nat.le_of_ble_eq_true rfl)⟩ dJ5_putStringAt_47b60_2 (fun S1 hR => ?_)
  subst hR
  refine hz_y_aload_n hO dJ5_putStringAt_47b60_5 rfl 2 rfl ?_
  refine hz_y_aload_n hO dJ5_putStringAt_47b60_6 rfl 0 rfl ?_
  refine hz_y_get (j := 0) (k := 0) hO hz_K_1 rfl rfl (Nat.le_of_ble_eq_true rfl) tw_6_224 rfl dJ5_putStringAt_47b60_7 ?_
  refine hz_y_iload_n hO dJ5_putStringAt_47b60_10 rfl 1 rfl ?_
  refine hz_y_aload_n hO dJ5_putStringAt_47b60_11 rfl 0 rfl ?_
  refine hz_y_get (j := 0) (k := 1) hO hz_K_1 rfl rfl (Nat.le_of_ble_eq_true rfl) tw_6_225 rfl dJ5_putStringAt_47b60_12 ?_
  refine hz_y_callTv (as := [.ref va, .int (nI n), .int 0]) (rest := []) (hc := 1) (mc := 0) (ms := 0) hO (c_y_bytes l w hi hs hnm hm) hx_cal_J0_getBytes_840e7 (hz_sel_w hO tw_6_220) hi tw_6_218 (Nat.le_of_ble_eq_true rfl) rfl rfl (Nat.le_of_ble_eq_true rfl) ⟨(Nat.le_of_ble_eq_true rfl), (Nat.le_of_ble_eq_true rfl)⟩ dJ5_putStringAt_47b60_15 (fun S1 hR => ?_)
  subst hR
  exact hz_y_vret hO rfl dJ5_putStringAt_47b60_18
theorem hz_putW {t s0 : Nat → Nat} {n wl : Nat} {a1 f : Nat → Int32} (hL : sb_Lat t n a1) (hs : ∀ j, j < wl → s0 j < 128 ∧ f j = nI (s0 j)) : sb_Lat (sb_cat t n s0) (n + wl) (va_cpy f a1 0 n wl) := by
  refine sb_latPut hL (fun j hj => pk_cpy_out (by omega)) (fun i hi => ⟨?_, ?_⟩)
  · have := (hs i hi).1
    omega
  · rw [pk_cpy_in (by omega) (by omega), show 0 + (n + i - n) = i by omega, (hs i hi).2, hz_sbb (hs i hi).1]
theorem hz_fitW {s0 : Nat → Nat} {n wl : Nat} {a1 f : Nat → Int32} (hf : sb_Fit a1) (hs : ∀ j, j < wl → s0 j < 128 ∧ f j = nI (s0 j)) : sb_Fit (va_cpy f a1 0 n wl) := by
  intro j
  by_cases h : n ≤ j ∧ j < n + wl
  · rw [pk_cpy_in (by omega) (by omega), (hs _ (by omega)).2]
    exact hz_fit1 (hs _ (by omega)).1
  · rw [pk_cpy_out (by omega)]
    exact hf j
set_option maxRecDepth 100000 in
set_option maxHeartbeats 4000000 in
theorem c_y_appS (l : Launch) (w : hz_C) {X0 : va_W} {sb va m n : Nat} {a : Nat → Int32} {t s0 : Nat → Nat} {i : Nat} (hi : i < hz_ns w) (hs : ∀ j, j < hz_ln w i → s0 j < 128 ∧ hz_by w i j = nI (s0 j)) (hnm : n ≤ m) (hm0 : 0 < m) (hm : m ≤ 262) (hL : sb_Lat t n a) (hf : sb_Fit a) (hn : n + hz_ln w i ≤ 130) : hz_CY l yJ5_append_cf1ce cJ5_append_cf1ce 3 (some (.object "java/lang/AbstractStringBuilder")) 4 1 600 w [.ref sb, .ref (hz_sa w i)] (X0 ++ [(sb, .inr (1, [.ref va, .int 0, .int 0, .int (nI n)])), (va, .inl (hz_tc w 5, m, .inl a))]) (hz_YQr w (fun b S1 => b = sb ∧ hz_sbT w sb (sb_cat t n s0) (n + hz_ln w i) S1) X0) := by
  refine hz_y_ofW (by decide) rfl (Nat.le_of_ble_eq_true rfl) tw_6_137 ?_
  intro p e s m1 args below meth c hO hin
  show hz_Y p l e 4 ((1, 600), (0, 0)) s m1 args below meth c w 3 _ X0 [(sb, .inr (1, [.ref va, .int 0, .int 0, .int (nI n)])), (va, .inl (hz_tc w 5, m, .inl a))] 0 [(0, .ref sb), (1, .ref (hz_sa w i))] []
  refine hz_y_aload_n hO dJ5_append_cf1ce_0 rfl 1 rfl ?_
  refine hz_y_ifnonnull (tgt := 9) hO dJ5_append_cf1ce_1 (by decide) ?_
  refine hz_y_aload_n hO dJ5_append_cf1ce_9 rfl 1 rfl ?_
  refine hz_y_callTi (as := []) (rest := []) (hc := 1) (mc := 0) (ms := 0) hO (c_y_slen l w hi) hx_cal_J0_length_8abf5 (hz_sel_w hO tw_2_117) hi tw_6_114 (Nat.le_of_ble_eq_true rfl) rfl rfl (Nat.le_of_ble_eq_true rfl) ⟨(Nat.le_of_ble_eq_true rfl), (Nat.le_of_ble_eq_true rfl)⟩ dJ5_append_cf1ce_10 (fun r S1 hR => ?_)
  obtain ⟨rfl, rfl⟩ := hR
  refine hz_y_istore_n (ls1 := [(2, .int (nI (hz_ln w i))), (0, .ref sb), (1, .ref (hz_sa w i))]) hO dJ5_append_cf1ce_13 rfl (Nat.le_of_ble_eq_true rfl) rfl ?_
  refine hz_y_aload_n hO dJ5_append_cf1ce_14 rfl 1 rfl ?_
  refine hz_y_aload_n hO dJ5_append_cf1ce_15 rfl 1 rfl ?_
  refine hz_y_get (j := 0) (k := 3) hO hz_K_1 rfl rfl (Nat.le_of_ble_eq_true rfl) tw_6_227 rfl dJ5_append_cf1ce_16 ?_
  refine hz_y_iload_n hO dJ5_append_cf1ce_19 rfl 0 rfl ?_
  refine hz_y_iadd hO dJ5_append_cf1ce_20 ?_
  refine hz_y_name (y := nI (n + hz_ln w i)) (nI_add n _).symm ?_
  refine hz_y_callVv (as := [.int (nI (n + hz_ln w i))]) (rest := []) (hc := 3) (mc := 1) (ms := 600) hO (c_y_ensure l w hf hm0 hm (q := n + hz_ln w i) (by omega)) hx_cal_J5_ensureCapacityInternal_d00df (hz_sel_p hO (n := 4) (by decide) tw_6_105 tw_7_146 (List.mem_of_getElem? (i := 0) rfl) tw_6_144) hz_K_1 (j := 0) rfl tw_6_142 (Nat.le_of_ble_eq_true rfl) rfl rfl (Nat.le_of_ble_eq_true rfl) ⟨(Nat.le_of_ble_eq_true rfl), (Nat.le_of_ble_eq_true rfl)⟩ dJ5_append_cf1ce_21 (fun S1 hR => ?_)
  obtain ⟨va1, a1, hf1, hk1, rfl⟩ := hR
  have hc1 := hz_cap_le (q := n + hz_ln w i) hm (by omega)
  have hc2 := sb_cap_ge (n + hz_ln w i) m
  have hL1 := sb_latKeep hL (fun j hj => hk1 j (by omega))
  refine hz_y_aload_n hO dJ5_append_cf1ce_24 rfl 1 rfl ?_
  refine hz_y_aload_n hO dJ5_append_cf1ce_25 rfl 1 rfl ?_
  refine hz_y_get (j := 0) (k := 3) hO hz_K_1 rfl rfl (Nat.le_of_ble_eq_true rfl) tw_6_227 rfl dJ5_append_cf1ce_26 ?_
  refine hz_y_aload_n hO dJ5_append_cf1ce_29 rfl 2 rfl ?_
  refine hz_y_callVv (as := [.int (nI n), .ref (hz_sa w i)]) (rest := []) (hc := 2) (mc := 0) (ms := 0) hO (c_y_putS l w hi hs hc2 hc1) hx_cal_J5_putStringAt_47b60 (hz_sel_p hO (n := 4) (by decide) tw_6_105 tw_7_148 (List.mem_of_getElem? (i := 2) rfl) tw_6_193) hz_K_1 (j := 0) rfl tw_6_191 (Nat.le_of_ble_eq_true rfl) rfl rfl (Nat.le_of_ble_eq_true rfl) ⟨(Nat.le_of_ble_eq_true rfl), (Nat.le_of_ble_eq_true rfl)⟩ dJ5_append_cf1ce_30 (fun S1 hR => ?_)
  subst hR
  refine hz_y_aload_n hO dJ5_append_cf1ce_33 rfl 1 rfl ?_
  refine hz_y_dup hO dJ5_append_cf1ce_34 rfl ?_
  refine hz_y_get (j := 0) (k := 3) hO hz_K_1 rfl rfl (Nat.le_of_ble_eq_true rfl) tw_6_227 rfl dJ5_append_cf1ce_35 ?_
  refine hz_y_iload_n hO dJ5_append_cf1ce_38 rfl 0 rfl ?_
  refine hz_y_iadd hO dJ5_append_cf1ce_39 ?_
  refine hz_y_name (y := nI (n + hz_ln w i)) (nI_add n _).symm ?_
  refine hz_y_put (j := 0) (k := 3) (S1 := [(sb, .inr (1, [.ref va1, .int 0, .int 0, .int (nI (n + hz_ln w i))])), (va1, .inl (hz_tc w 5, (sb_cap (n + hz_ln w i) m), .inl (va_cpy (hz_by w i) a1 0 n (hz_ln w i))))]) hO hz_K_1 tyJ4_ok nmJ4 rfl (Nat.le_of_ble_eq_true rfl) tw_6_227 rfl rfl rfl rfl rfl (Nat.le_of_ble_eq_true rfl) rfl dJ5_append_cf1ce_40 ?_
  refine hz_y_aload_n hO dJ5_append_cf1ce_43 rfl 1 rfl ?_
  exact hz_y_aret hO (Or.inl ⟨_, rfl⟩) ⟨rfl, va1, _, _, rfl, hc2, hc1, hz_putW hL1 hs, hz_fitW hf1 hs⟩ dJ5_append_cf1ce_44
