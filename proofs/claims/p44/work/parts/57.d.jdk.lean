theorem tw_1_18 : (Jvm.Cond.initialized "java/lang/StringBuilder") ∈ hz_TB := hz_tb (hz_t1 _ (List.mem_of_getElem? (i := 18) rfl)) rfl
theorem tw_6_109 : (Jvm.Cond.code ({ cls := "java/lang/StringBuilder", name := "<init>", desc := "(Ljava/lang/String;)V" } : Jvm.MethodName) prog_26_method_3_code (2 : Nat) (Option.none : Option Jvm.ClassFile.FieldType)) ∈ hz_TB := hz_tb (hz_t6 _ (List.mem_of_getElem? (i := 109) rfl)) rfl
theorem tw_6_110 : (Jvm.Cond.methodLink "java/lang/StringBuilder" (7 : Nat) ({ cls := "java/lang/AbstractStringBuilder", name := "<init>", desc := "(Ljava/lang/String;)V" } : Jvm.MethodName)) ∈ hz_TB := hz_tb (hz_t6 _ (List.mem_of_getElem? (i := 110) rfl)) rfl
theorem tw_6_111 : (Jvm.Cond.instanceMethod ({ cls := "java/lang/AbstractStringBuilder", name := "<init>", desc := "(Ljava/lang/String;)V" } : Jvm.MethodName)) ∈ hz_TB := hz_tb (hz_t6 _ (List.mem_of_getElem? (i := 111) rfl)) rfl
theorem tw_6_112 : (Jvm.Cond.code ({ cls := "java/lang/AbstractStringBuilder", name := "<init>", desc := "(Ljava/lang/String;)V" } : Jvm.MethodName) prog_15_method_3_code (5 : Nat) (Option.none : Option Jvm.ClassFile.FieldType)) ∈ hz_TB := hz_tb (hz_t6 _ (List.mem_of_getElem? (i := 112) rfl)) rfl
theorem tw_6_113 : (Jvm.Cond.methodLink "java/lang/AbstractStringBuilder" (3 : Nat) ({ cls := "java/lang/Object", name := "<init>", desc := "()V" } : Jvm.MethodName)) ∈ hz_TB := hz_tb (hz_t6 _ (List.mem_of_getElem? (i := 113) rfl)) rfl
theorem tw_6_115 : (Jvm.Cond.constant "java/lang/AbstractStringBuilder" (38 : Nat) (2147483631 : Int32)) ∈ hz_TB := hz_tb (hz_t6 _ (List.mem_of_getElem? (i := 115) rfl)) rfl
theorem tw_6_125 : (Jvm.Cond.methodLink "java/lang/AbstractStringBuilder" (43 : Nat) ({ cls := "java/lang/AbstractStringBuilder", name := "append", desc := "(Ljava/lang/String;)Ljava/lang/AbstractStringBuilder;" } : Jvm.MethodName)) ∈ hz_TB := hz_tb (hz_t6 _ (List.mem_of_getElem? (i := 125) rfl)) rfl
theorem tw_6_126 : (Jvm.Cond.instanceMethod ({ cls := "java/lang/AbstractStringBuilder", name := "append", desc := "(Ljava/lang/String;)Ljava/lang/AbstractStringBuilder;" } : Jvm.MethodName)) ∈ hz_TB := hz_tb (hz_t6 _ (List.mem_of_getElem? (i := 126) rfl)) rfl
theorem tw_6_127 : (Jvm.Cond.sameMethod "java/lang/AbstractStringBuilder" "java/lang/AbstractStringBuilder" "append" "(Ljava/lang/String;)Ljava/lang/AbstractStringBuilder;") ∈ hz_TB := hz_tb (hz_t6 _ (List.mem_of_getElem? (i := 127) rfl)) rfl
theorem tw_6_128 : (Jvm.Cond.selects "java/lang/StringBuilder" ({ cls := "java/lang/AbstractStringBuilder", name := "append", desc := "(Ljava/lang/String;)Ljava/lang/AbstractStringBuilder;" } : Jvm.MethodName) ({ cls := "java/lang/StringBuilder", name := "append", desc := "(Ljava/lang/String;)Ljava/lang/AbstractStringBuilder;" } : Jvm.MethodName)) ∈ hz_TB := hz_tb (hz_t6 _ (List.mem_of_getElem? (i := 128) rfl)) rfl
theorem tw_6_129 : (Jvm.Cond.instanceMethod ({ cls := "java/lang/StringBuilder", name := "append", desc := "(Ljava/lang/String;)Ljava/lang/AbstractStringBuilder;" } : Jvm.MethodName)) ∈ hz_TB := hz_tb (hz_t6 _ (List.mem_of_getElem? (i := 129) rfl)) rfl
theorem tw_6_130 : (Jvm.Cond.code ({ cls := "java/lang/StringBuilder", name := "append", desc := "(Ljava/lang/String;)Ljava/lang/AbstractStringBuilder;" } : Jvm.MethodName) prog_26_method_80_code (2 : Nat) (Option.some (Jvm.ClassFile.FieldType.object "java/lang/AbstractStringBuilder"))) ∈ hz_TB := hz_tb (hz_t6 _ (List.mem_of_getElem? (i := 130) rfl)) rfl
theorem tw_6_131 : (Jvm.Cond.methodLink "java/lang/StringBuilder" (23 : Nat) ({ cls := "java/lang/StringBuilder", name := "append", desc := "(Ljava/lang/String;)Ljava/lang/StringBuilder;" } : Jvm.MethodName)) ∈ hz_TB := hz_tb (hz_t6 _ (List.mem_of_getElem? (i := 131) rfl)) rfl
theorem tw_6_132 : (Jvm.Cond.instanceMethod ({ cls := "java/lang/StringBuilder", name := "append", desc := "(Ljava/lang/String;)Ljava/lang/StringBuilder;" } : Jvm.MethodName)) ∈ hz_TB := hz_tb (hz_t6 _ (List.mem_of_getElem? (i := 132) rfl)) rfl
theorem tw_6_133 : (Jvm.Cond.selects "java/lang/StringBuilder" ({ cls := "java/lang/StringBuilder", name := "append", desc := "(Ljava/lang/String;)Ljava/lang/StringBuilder;" } : Jvm.MethodName) ({ cls := "java/lang/StringBuilder", name := "append", desc := "(Ljava/lang/String;)Ljava/lang/StringBuilder;" } : Jvm.MethodName)) ∈ hz_TB := hz_tb (hz_t6 _ (List.mem_of_getElem? (i := 133) rfl)) rfl
theorem tw_6_134 : (Jvm.Cond.code ({ cls := "java/lang/StringBuilder", name := "append", desc := "(Ljava/lang/String;)Ljava/lang/StringBuilder;" } : Jvm.MethodName) prog_26_method_7_code (2 : Nat) (Option.some (Jvm.ClassFile.FieldType.object "java/lang/StringBuilder"))) ∈ hz_TB := hz_tb (hz_t6 _ (List.mem_of_getElem? (i := 134) rfl)) rfl
theorem tw_6_135 : (Jvm.Cond.methodLink "java/lang/StringBuilder" (29 : Nat) ({ cls := "java/lang/AbstractStringBuilder", name := "append", desc := "(Ljava/lang/String;)Ljava/lang/AbstractStringBuilder;" } : Jvm.MethodName)) ∈ hz_TB := hz_tb (hz_t6 _ (List.mem_of_getElem? (i := 135) rfl)) rfl
theorem tw_6_136 : (Jvm.Cond.superclass "java/lang/StringBuilder" "java/lang/AbstractStringBuilder") ∈ hz_TB := hz_tb (hz_t6 _ (List.mem_of_getElem? (i := 136) rfl)) rfl
theorem tw_6_161 : (Jvm.Cond.methodLink "java/util/Arrays" (310 : Nat) ({ cls := "[B", name := "clone", desc := "()Ljava/lang/Object;" } : Jvm.MethodName)) ∈ hz_TB := hz_tb (hz_t6 _ (List.mem_of_getElem? (i := 161) rfl)) rfl
theorem tw_6_162 : (Jvm.Cond.sameMethod "[B" "java/lang/Object" "clone" "()Ljava/lang/Object;") ∈ hz_TB := hz_tb (hz_t6 _ (List.mem_of_getElem? (i := 162) rfl)) rfl
theorem tw_6_163 : (Jvm.Cond.native ({ cls := "java/lang/Object", name := "clone", desc := "()Ljava/lang/Object;" } : Jvm.MethodName)) ∈ hz_TB := hz_tb (hz_t6 _ (List.mem_of_getElem? (i := 163) rfl)) rfl
theorem tw_6_164 : (Jvm.Cond.instanceMethod ({ cls := "java/lang/Object", name := "clone", desc := "()Ljava/lang/Object;" } : Jvm.MethodName)) ∈ hz_TB := hz_tb (hz_t6 _ (List.mem_of_getElem? (i := 164) rfl)) rfl
theorem tw_6_165 : (Jvm.Cond.selects "[B" ({ cls := "[B", name := "clone", desc := "()Ljava/lang/Object;" } : Jvm.MethodName) ({ cls := "java/lang/Object", name := "clone", desc := "()Ljava/lang/Object;" } : Jvm.MethodName)) ∈ hz_TB := hz_tb (hz_t6 _ (List.mem_of_getElem? (i := 165) rfl)) rfl
theorem tw_6_167 : (Jvm.Cond.classLink "java/util/Arrays" (311 : Nat) "[B") ∈ hz_TB := hz_tb (hz_t6 _ (List.mem_of_getElem? (i := 167) rfl)) rfl
theorem tw_6_239 : (Jvm.Cond.code ({ cls := "java/lang/StringBuilder", name := "append", desc := "(I)Ljava/lang/StringBuilder;" } : Jvm.MethodName) prog_26_method_15_code (2 : Nat) (Option.some (Jvm.ClassFile.FieldType.object "java/lang/StringBuilder"))) ∈ hz_TB := hz_tb (hz_t6 _ (List.mem_of_getElem? (i := 239) rfl)) rfl
theorem tw_7_0 : (Jvm.Cond.methodLink "java/lang/StringBuilder" (53 : Nat) ({ cls := "java/lang/AbstractStringBuilder", name := "append", desc := "(I)Ljava/lang/AbstractStringBuilder;" } : Jvm.MethodName)) ∈ hz_TB := hz_tb (hz_t7 _ (List.mem_of_getElem? (i := 0) rfl)) rfl
theorem tw_7_1 : (Jvm.Cond.instanceMethod ({ cls := "java/lang/AbstractStringBuilder", name := "append", desc := "(I)Ljava/lang/AbstractStringBuilder;" } : Jvm.MethodName)) ∈ hz_TB := hz_tb (hz_t7 _ (List.mem_of_getElem? (i := 1) rfl)) rfl
theorem tw_7_24 : (Jvm.Cond.code ({ cls := "java/lang/StringBuilder", name := "append", desc := "(C)Ljava/lang/StringBuilder;" } : Jvm.MethodName) prog_26_method_14_code (2 : Nat) (Option.some (Jvm.ClassFile.FieldType.object "java/lang/StringBuilder"))) ∈ hz_TB := hz_tb (hz_t7 _ (List.mem_of_getElem? (i := 24) rfl)) rfl
theorem tw_7_25 : (Jvm.Cond.methodLink "java/lang/StringBuilder" (50 : Nat) ({ cls := "java/lang/AbstractStringBuilder", name := "append", desc := "(C)Ljava/lang/AbstractStringBuilder;" } : Jvm.MethodName)) ∈ hz_TB := hz_tb (hz_t7 _ (List.mem_of_getElem? (i := 25) rfl)) rfl
theorem tw_7_26 : (Jvm.Cond.instanceMethod ({ cls := "java/lang/AbstractStringBuilder", name := "append", desc := "(C)Ljava/lang/AbstractStringBuilder;" } : Jvm.MethodName)) ∈ hz_TB := hz_tb (hz_t7 _ (List.mem_of_getElem? (i := 26) rfl)) rfl
theorem tw_7_41 : (Jvm.Cond.code ({ cls := "java/lang/StringBuilder", name := "<init>", desc := "()V" } : Jvm.MethodName) prog_26_method_1_code (1 : Nat) (Option.none : Option Jvm.ClassFile.FieldType)) ∈ hz_TB := hz_tb (hz_t7 _ (List.mem_of_getElem? (i := 41) rfl)) rfl
theorem tw_7_42 : (Jvm.Cond.methodLink "java/lang/StringBuilder" (1 : Nat) ({ cls := "java/lang/AbstractStringBuilder", name := "<init>", desc := "(I)V" } : Jvm.MethodName)) ∈ hz_TB := hz_tb (hz_t7 _ (List.mem_of_getElem? (i := 42) rfl)) rfl
theorem tw_7_43 : (Jvm.Cond.instanceMethod ({ cls := "java/lang/AbstractStringBuilder", name := "<init>", desc := "(I)V" } : Jvm.MethodName)) ∈ hz_TB := hz_tb (hz_t7 _ (List.mem_of_getElem? (i := 43) rfl)) rfl
theorem tw_7_44 : (Jvm.Cond.code ({ cls := "java/lang/AbstractStringBuilder", name := "<init>", desc := "(I)V" } : Jvm.MethodName) prog_15_method_2_code (2 : Nat) (Option.none : Option Jvm.ClassFile.FieldType)) ∈ hz_TB := hz_tb (hz_t7 _ (List.mem_of_getElem? (i := 44) rfl)) rfl
theorem tw_7_63 : (Jvm.Cond.code ({ cls := "java/lang/AbstractStringBuilder", name := "getValue", desc := "()[B" } : Jvm.MethodName) prog_15_method_64_code (1 : Nat) (Option.some (Jvm.ClassFile.FieldType.array Jvm.ClassFile.FieldType.byte))) ∈ hz_TB := hz_tb (hz_t7 _ (List.mem_of_getElem? (i := 63) rfl)) rfl
theorem tw_7_65 : (Jvm.Cond.instanceMethod ({ cls := "java/lang/AbstractStringBuilder", name := "length", desc := "()I" } : Jvm.MethodName)) ∈ hz_TB := hz_tb (hz_t7 _ (List.mem_of_getElem? (i := 65) rfl)) rfl
theorem tw_7_66 : (Jvm.Cond.sameMethod "java/lang/AbstractStringBuilder" "java/lang/AbstractStringBuilder" "length" "()I") ∈ hz_TB := hz_tb (hz_t7 _ (List.mem_of_getElem? (i := 66) rfl)) rfl
theorem tw_7_69 : (Jvm.Cond.code ({ cls := "java/lang/StringBuilder", name := "length", desc := "()I" } : Jvm.MethodName) prog_26_method_93_code (1 : Nat) (Option.some Jvm.ClassFile.FieldType.int)) ∈ hz_TB := hz_tb (hz_t7 _ (List.mem_of_getElem? (i := 69) rfl)) rfl
theorem tw_7_70 : (Jvm.Cond.methodLink "java/lang/StringBuilder" (343 : Nat) ({ cls := "java/lang/AbstractStringBuilder", name := "length", desc := "()I" } : Jvm.MethodName)) ∈ hz_TB := hz_tb (hz_t7 _ (List.mem_of_getElem? (i := 70) rfl)) rfl
theorem tw_7_71 : (Jvm.Cond.code ({ cls := "java/lang/AbstractStringBuilder", name := "length", desc := "()I" } : Jvm.MethodName) prog_15_method_6_code (1 : Nat) (Option.some Jvm.ClassFile.FieldType.int)) ∈ hz_TB := hz_tb (hz_t7 _ (List.mem_of_getElem? (i := 71) rfl)) rfl
theorem tw_7_75 : (Jvm.Cond.code ({ cls := "java/util/Arrays", name := "copyOfRange", desc := "([BII)[B" } : Jvm.MethodName) prog_31_method_132_code (3 : Nat) (Option.some (Jvm.ClassFile.FieldType.array Jvm.ClassFile.FieldType.byte))) ∈ hz_TB := hz_tb (hz_t7 _ (List.mem_of_getElem? (i := 75) rfl)) rfl
theorem tw_7_76 : (Jvm.Cond.methodLink "java/util/Arrays" (339 : Nat) ({ cls := "java/util/Arrays", name := "copyOfRangeByte", desc := "([BII)[B" } : Jvm.MethodName)) ∈ hz_TB := hz_tb (hz_t7 _ (List.mem_of_getElem? (i := 76) rfl)) rfl
theorem tw_7_77 : (Jvm.Cond.static ({ cls := "java/util/Arrays", name := "copyOfRangeByte", desc := "([BII)[B" } : Jvm.MethodName)) ∈ hz_TB := hz_tb (hz_t7 _ (List.mem_of_getElem? (i := 77) rfl)) rfl
theorem tw_7_78 : (Jvm.Cond.code ({ cls := "java/util/Arrays", name := "copyOfRangeByte", desc := "([BII)[B" } : Jvm.MethodName) prog_31_method_133_code (5 : Nat) (Option.some (Jvm.ClassFile.FieldType.array Jvm.ClassFile.FieldType.byte))) ∈ hz_TB := hz_tb (hz_t7 _ (List.mem_of_getElem? (i := 78) rfl)) rfl
theorem tw_7_79 : (Jvm.Cond.methodLink "java/util/Arrays" (343 : Nat) ({ cls := "java/util/Arrays", name := "checkLength", desc := "(II)V" } : Jvm.MethodName)) ∈ hz_TB := hz_tb (hz_t7 _ (List.mem_of_getElem? (i := 79) rfl)) rfl
theorem tw_7_80 : (Jvm.Cond.static ({ cls := "java/util/Arrays", name := "checkLength", desc := "(II)V" } : Jvm.MethodName)) ∈ hz_TB := hz_tb (hz_t7 _ (List.mem_of_getElem? (i := 80) rfl)) rfl
theorem tw_7_81 : (Jvm.Cond.code ({ cls := "java/util/Arrays", name := "checkLength", desc := "(II)V" } : Jvm.MethodName) prog_31_method_131_code (2 : Nat) (Option.none : Option Jvm.ClassFile.FieldType)) ∈ hz_TB := hz_tb (hz_t7 _ (List.mem_of_getElem? (i := 81) rfl)) rfl
theorem tw_7_151 : (Jvm.Cond.sameMethod "java/lang/AbstractStringBuilder" "java/lang/AbstractStringBuilder" "append" "(I)Ljava/lang/AbstractStringBuilder;") ∈ hz_TB := hz_tb (hz_t7 _ (List.mem_of_getElem? (i := 151) rfl)) rfl
theorem tw_7_152 : (Jvm.Cond.sameMethod "java/lang/AbstractStringBuilder" "java/lang/AbstractStringBuilder" "append" "(C)Ljava/lang/AbstractStringBuilder;") ∈ hz_TB := hz_tb (hz_t7 _ (List.mem_of_getElem? (i := 152) rfl)) rfl
theorem hx_cal_J4_append_15ec4 : hz_CalXV yJ4_append_15ec4 cJ4_append_15ec4 2 (some (.object "java/lang/StringBuilder")) 1 := ⟨⟨tw_6_134, tw_1_18, ⟨by decide, by decide, by decide +kernel⟩, Nat.le_of_ble_eq_true rfl⟩, tw_6_132⟩
theorem hx_cal_J4_append_cf1ce : hz_CalXV yJ4_append_cf1ce cJ4_append_cf1ce 2 (some (.object "java/lang/AbstractStringBuilder")) 1 := ⟨⟨tw_6_130, tw_1_18, ⟨by decide, by decide, by decide +kernel⟩, Nat.le_of_ble_eq_true rfl⟩, tw_6_129⟩
theorem hx_cal_J5_append_3fe6f : hz_CalXV yJ5_append_3fe6f cJ5_append_3fe6f 2 (some (.object "java/lang/AbstractStringBuilder")) 1 := ⟨⟨tw_7_27, tw_1_17, ⟨by decide, by decide, by decide +kernel⟩, Nat.le_of_ble_eq_true rfl⟩, tw_7_26⟩
theorem hx_cal_J5_append_c97b9 : hz_CalXV yJ5_append_c97b9 cJ5_append_c97b9 4 (some (.object "java/lang/AbstractStringBuilder")) 1 := ⟨⟨tw_7_2, tw_1_17, ⟨by decide, by decide, by decide +kernel⟩, Nat.le_of_ble_eq_true rfl⟩, tw_7_1⟩
theorem hx_cal_J5_append_cf1ce : hz_CalXV yJ5_append_cf1ce cJ5_append_cf1ce 3 (some (.object "java/lang/AbstractStringBuilder")) 1 := ⟨⟨tw_6_137, tw_1_17, ⟨by decide, by decide, by decide +kernel⟩, Nat.le_of_ble_eq_true rfl⟩, tw_6_126⟩
theorem hx_cal_J5_init_a7421 : hz_CalXV yJ5_init_a7421 cJ5_init_a7421 5 none 1 := ⟨⟨tw_6_112, tw_1_17, ⟨by decide, by decide, by decide +kernel⟩, Nat.le_of_ble_eq_true rfl⟩, tw_6_111⟩
theorem hx_cal_J5_init_d00df : hz_CalXV yJ5_init_d00df cJ5_init_d00df 2 none 1 := ⟨⟨tw_7_44, tw_1_17, ⟨by decide, by decide, by decide +kernel⟩, Nat.le_of_ble_eq_true rfl⟩, tw_7_43⟩
theorem hx_cal_J5_length_8abf5 : hz_CalXV yJ5_length_8abf5 cJ5_length_8abf5 1 (some .int) 0 := ⟨⟨tw_7_71, tw_1_17, ⟨by decide, by decide, by decide +kernel⟩, Nat.le_of_ble_eq_true rfl⟩, tw_7_65⟩
theorem hx_cal_J7_checkLength_df160 : hz_CalXS yJ7_checkLength_df160 cJ7_checkLength_df160 2 none 2 := ⟨⟨tw_7_81, tw_1_15, ⟨by decide, by decide, by decide +kernel⟩, Nat.le_of_ble_eq_true rfl⟩, tw_7_80⟩
theorem hx_cal_J7_copyOfRangeByte_39247 : hz_CalXS yJ7_copyOfRangeByte_39247 cJ7_copyOfRangeByte_39247 5 (some (.array Jvm.ClassFile.FieldType.byte)) 3 := ⟨⟨tw_7_78, tw_1_15, ⟨by decide, by decide, by decide +kernel⟩, Nat.le_of_ble_eq_true rfl⟩, tw_7_77⟩
set_option maxRecDepth 100000 in
set_option maxHeartbeats 4000000 in
theorem c_y_SBappS (l : Launch) (w : hz_C) {X0 : va_W} {sb va m n : Nat} {a : Nat → Int32} {t s0 : Nat → Nat} {i : Nat} (hi : i < hz_ns w) (hs : ∀ j, j < hz_ln w i → s0 j < 128 ∧ hz_by w i j = nI (s0 j)) (hnm : n ≤ m) (hm0 : 0 < m) (hm : m ≤ 262) (hL : sb_Lat t n a) (hf : sb_Fit a) (hn : n + hz_ln w i ≤ 130) : hz_CY l yJ4_append_15ec4 cJ4_append_15ec4 2 (some (.object "java/lang/StringBuilder")) 5 1 600 w [.ref sb, .ref (hz_sa w i)] (X0 ++ [(sb, .inr (1, [.ref va, .int 0, .int 0, .int (nI n)])), (va, .inl (hz_tc w 5, m, .inl a))]) (hz_YQr w (fun b S1 => b = sb ∧ hz_sbT w sb (sb_cat t n s0) (n + hz_ln w i) S1) X0) := by
  refine hz_y_ofW (by decide) rfl (Nat.le_of_ble_eq_true rfl) tw_6_134 ?_
  intro p e s m1 args below meth c hO hin
  show hz_Y p l e 5 ((1, 600), (0, 0)) s m1 args below meth c w 2 _ X0 [(sb, .inr (1, [.ref va, .int 0, .int 0, .int (nI n)])), (va, .inl (hz_tc w 5, m, .inl a))] 0 [(0, .ref sb), (1, .ref (hz_sa w i))] []
  refine hz_y_aload_n hO dJ4_append_15ec4_0 rfl 0 rfl ?_
  refine hz_y_aload_n hO dJ4_append_15ec4_1 rfl 1 rfl ?_
  refine hz_y_callUr (as := [.ref (hz_sa w i)]) (rest := []) (hc := 4) (mc := 1) (ms := 600) hO (c_y_appS l w hi hs hnm hm0 hm hL hf hn) hx_cal_J5_append_cf1ce (by decide) tw_6_127 tw_6_136 hz_K_1 (j := 0) rfl tw_6_135 (Nat.le_of_ble_eq_true rfl) rfl rfl (Nat.le_of_ble_eq_true rfl) ⟨(Nat.le_of_ble_eq_true rfl), (Nat.le_of_ble_eq_true rfl)⟩ dJ4_append_15ec4_2 (fun b S1 hR => ?_)
  have hb := hR.1
  rw [hb]
  refine hz_y_pop hO dJ4_append_15ec4_5 rfl ?_
  refine hz_y_aload_n hO dJ4_append_15ec4_6 rfl 0 rfl ?_
  exact hz_y_aret hO (Or.inl ⟨_, rfl⟩) ⟨rfl, hR.2⟩ dJ4_append_15ec4_7
set_option maxRecDepth 100000 in
set_option maxHeartbeats 4000000 in
theorem c_y_SBappC (l : Launch) (w : hz_C) {X0 : va_W} {sb va m n : Nat} {a : Nat → Int32} {t : Nat → Nat} {c0 : Nat} (hnm : n ≤ m) (hm0 : 0 < m) (hm : m ≤ 262) (hL : sb_Lat t n a) (hf : sb_Fit a) (hn : n + 1 ≤ 130) (hc : c0 < 128) : hz_CY l yJ4_append_cf468 cJ4_append_cf468 2 (some (.object "java/lang/StringBuilder")) 5 1 600 w [.ref sb, .int (nI c0)] (X0 ++ [(sb, .inr (1, [.ref va, .int 0, .int 0, .int (nI n)])), (va, .inl (hz_tc w 5, m, .inl a))]) (hz_YQr w (fun b S1 => b = sb ∧ hz_sbT w sb (sb_cat t n (fun _ => c0)) (n + 1) S1) X0) := by
  refine hz_y_ofW (by decide) rfl (Nat.le_of_ble_eq_true rfl) tw_7_24 ?_
  intro p e s m1 args below meth c hO hin
  show hz_Y p l e 5 ((1, 600), (0, 0)) s m1 args below meth c w 2 _ X0 [(sb, .inr (1, [.ref va, .int 0, .int 0, .int (nI n)])), (va, .inl (hz_tc w 5, m, .inl a))] 0 [(0, .ref sb), (1, .int (nI c0))] []
  refine hz_y_aload_n hO dJ4_append_cf468_0 rfl 0 rfl ?_
  refine hz_y_iload_n hO dJ4_append_cf468_1 rfl 1 rfl ?_
  refine hz_y_callUr (as := [.int (nI c0)]) (rest := []) (hc := 4) (mc := 1) (ms := 600) hO (c_y_appC l w hnm hm0 hm hL hf hn hc) hx_cal_J5_append_3fe6f (by decide) tw_7_152 tw_6_136 hz_K_1 (j := 0) rfl tw_7_25 (Nat.le_of_ble_eq_true rfl) rfl rfl (Nat.le_of_ble_eq_true rfl) ⟨(Nat.le_of_ble_eq_true rfl), (Nat.le_of_ble_eq_true rfl)⟩ dJ4_append_cf468_2 (fun b S1 hR => ?_)
  have hb := hR.1
  rw [hb]
  refine hz_y_pop hO dJ4_append_cf468_5 rfl ?_
  refine hz_y_aload_n hO dJ4_append_cf468_6 rfl 0 rfl ?_
  exact hz_y_aret hO (Or.inl ⟨_, rfl⟩) ⟨rfl, hR.2⟩ dJ4_append_cf468_7
set_option maxRecDepth 100000 in
set_option maxHeartbeats 4000000 in
theorem c_y_SBappI (l : Launch) (w : hz_C) {X0 : va_W} {sb va m n : Nat} {a : Nat → Int32} {t : Nat → Nat} {v : Nat} (hnm : n ≤ m) (hm0 : 0 < m) (hm : m ≤ 262) (hL : sb_Lat t n a) (hf : sb_Fit a) (hn : n + 2 ≤ 130) (hv : v < 100) : hz_CY l yJ4_append_bf812 cJ4_append_bf812 2 (some (.object "java/lang/StringBuilder")) 5 1 600 w [.ref sb, .int (nI v)] (X0 ++ [(sb, .inr (1, [.ref va, .int 0, .int 0, .int (nI n)])), (va, .inl (hz_tc w 5, m, .inl a))]) (hz_YQr w (fun b S1 => b = sb ∧ hz_sbT w sb (sb_cat t n (hz_dec v)) (n + hz_dg v) S1) X0) := by
  refine hz_y_ofW (by decide) rfl (Nat.le_of_ble_eq_true rfl) tw_6_239 ?_
  intro p e s m1 args below meth c hO hin
  show hz_Y p l e 5 ((1, 600), (0, 0)) s m1 args below meth c w 2 _ X0 [(sb, .inr (1, [.ref va, .int 0, .int 0, .int (nI n)])), (va, .inl (hz_tc w 5, m, .inl a))] 0 [(0, .ref sb), (1, .int (nI v))] []
  refine hz_y_aload_n hO dJ4_append_bf812_0 rfl 0 rfl ?_
  refine hz_y_iload_n hO dJ4_append_bf812_1 rfl 1 rfl ?_
  refine hz_y_callUr (as := [.int (nI v)]) (rest := []) (hc := 4) (mc := 1) (ms := 600) hO (c_y_appI l w hnm hm0 hm hL hf hn hv) hx_cal_J5_append_c97b9 (by decide) tw_7_151 tw_6_136 hz_K_1 (j := 0) rfl tw_7_0 (Nat.le_of_ble_eq_true rfl) rfl rfl (Nat.le_of_ble_eq_true rfl) ⟨(Nat.le_of_ble_eq_true rfl), (Nat.le_of_ble_eq_true rfl)⟩ dJ4_append_bf812_2 (fun b S1 hR => ?_)
  have hb := hR.1
  rw [hb]
  refine hz_y_pop hO dJ4_append_bf812_5 rfl ?_
  refine hz_y_aload_n hO dJ4_append_bf812_6 rfl 0 rfl ?_
  exact hz_y_aret hO (Or.inl ⟨_, rfl⟩) ⟨rfl, hR.2⟩ dJ4_append_bf812_7
set_option maxRecDepth 100000 in
set_option maxHeartbeats 4000000 in
theorem c_y_bridge (l : Launch) (w : hz_C) {X0 : va_W} {sb va m n : Nat} {a : Nat → Int32} {t s0 : Nat → Nat} {i : Nat} (hi : i < hz_ns w) (hs : ∀ j, j < hz_ln w i → s0 j < 128 ∧ hz_by w i j = nI (s0 j)) (hnm : n ≤ m) (hm0 : 0 < m) (hm : m ≤ 262) (hL : sb_Lat t n a) (hf : sb_Fit a) (hn : n + hz_ln w i ≤ 130) : hz_CY l yJ4_append_cf1ce cJ4_append_cf1ce 2 (some (.object "java/lang/AbstractStringBuilder")) 6 1 600 w [.ref sb, .ref (hz_sa w i)] (X0 ++ [(sb, .inr (1, [.ref va, .int 0, .int 0, .int (nI n)])), (va, .inl (hz_tc w 5, m, .inl a))]) (hz_YQr w (fun b S1 => b = sb ∧ hz_sbT w sb (sb_cat t n s0) (n + hz_ln w i) S1) X0) := by
  refine hz_y_ofW (by decide) rfl (Nat.le_of_ble_eq_true rfl) tw_6_130 ?_
  intro p e s m1 args below meth c hO hin
  show hz_Y p l e 6 ((1, 600), (0, 0)) s m1 args below meth c w 2 _ X0 [(sb, .inr (1, [.ref va, .int 0, .int 0, .int (nI n)])), (va, .inl (hz_tc w 5, m, .inl a))] 0 [(0, .ref sb), (1, .ref (hz_sa w i))] []
  refine hz_y_aload_n hO dJ4_append_cf1ce_0 rfl 0 rfl ?_
  refine hz_y_aload_n hO dJ4_append_cf1ce_1 rfl 1 rfl ?_
  refine hz_y_callVr (as := [.ref (hz_sa w i)]) (rest := []) (hc := 5) (mc := 1) (ms := 600) hO (c_y_SBappS l w hi hs hnm hm0 hm hL hf hn) hx_cal_J4_append_15ec4 (hz_sel_w hO tw_6_133) hz_K_1 (j := 0) rfl tw_6_131 (Nat.le_of_ble_eq_true rfl) rfl rfl (Nat.le_of_ble_eq_true rfl) ⟨(Nat.le_of_ble_eq_true rfl), (Nat.le_of_ble_eq_true rfl)⟩ dJ4_append_cf1ce_2 (fun b S1 hR => ?_)
  have hb := hR.1
  rw [hb]
  exact hz_y_aret hO (Or.inl ⟨_, rfl⟩) ⟨rfl, hR.2⟩ dJ4_append_cf1ce_5
set_option maxRecDepth 100000 in
set_option maxHeartbeats 4000000 in
theorem c_y_ASBinit (l : Launch) (w : hz_C) {X0 : va_W} {sb : Nat} : hz_CY l yJ5_init_d00df cJ5_init_d00df 2 none 1 1 16 w [.ref sb, .int 16] (X0 ++ [(sb, .inr (1, [.null, .int 0, .int 0, .int 0]))]) (hz_YQv w (fun S1 => ∃ va, S1 = hz_sb w sb va 16 (fun _ => 0) 0) X0) := by
  refine hz_y_ofW (by decide) rfl (Nat.le_of_ble_eq_true rfl) tw_7_44 ?_
  intro p e s m1 args below meth c hO hin
  show hz_Y p l e 1 ((1, 16), (0, 0)) s m1 args below meth c w 2 _ X0 [(sb, .inr (1, [.null, .int 0, .int 0, .int 0]))] 0 [(0, .ref sb), (1, .int 16)] []
  refine hz_y_aload_n hO dJ5_init_d00df_0 rfl 0 rfl ?_
  refine hz_y_obj hO tw_6_113 (Nat.le_of_ble_eq_true rfl) (Nat.le_of_ble_eq_true rfl) dJ5_init_d00df_1 ?_
  refine hz_y_gets hO hO.2.2.2.1.2.2.2.2.2.2.2.1 tw_6_175 rfl dJ5_init_d00df_4 ?_
  refine hz_y_if_eq (tgt := 25) hO dJ5_init_d00df_7 (by decide) (fun hc => absurd hc (by decide)) (fun _ => ?_)
  refine hz_y_aload_n hO dJ5_init_d00df_10 rfl 0 rfl ?_
  refine hz_y_iload_n hO dJ5_init_d00df_11 rfl 1 rfl ?_
  refine hz_y_newb (n := 16) hO (by decide) rfl (by decide) ⟨(Nat.le_of_ble_eq_true rfl), (Nat.le_of_ble_eq_true rfl)⟩ dJ5_init_d00df_12 (fun va => ?_)
  refine hz_y_S (S1 := [(sb, .inr (1, [.null, .int 0, .int 0, .int 0])), (va, .inl (hz_tc w 5, 16, .inl (fun _ => 0)))]) rfl ?_
  refine hz_y_put (j := 0) (k := 0) (S1 := [(sb, .inr (1, [.ref va, .int 0, .int 0, .int 0])), (va, .inl (hz_tc w 5, 16, .inl (fun _ => 0)))]) hO hz_K_1 tyJ4_ok nmJ4 rfl (Nat.le_of_ble_eq_true rfl) tw_6_224 rfl rfl rfl rfl rfl (Nat.le_of_ble_eq_true rfl) rfl dJ5_init_d00df_14 ?_
  refine hz_y_aload_n hO dJ5_init_d00df_17 rfl 0 rfl ?_
  refine hz_y_iconst (v := (0 : Int32)) hO dJ5_init_d00df_18 (by decide) ?_
  refine hz_y_put (j := 0) (k := 1) (S1 := [(sb, .inr (1, [.ref va, .int (0 : Int32), .int 0, .int 0])), (va, .inl (hz_tc w 5, 16, .inl (fun _ => 0)))]) hO hz_K_1 tyJ4_ok nmJ4 rfl (Nat.le_of_ble_eq_true rfl) tw_6_225 rfl rfl rfl rfl rfl (Nat.le_of_ble_eq_true rfl) rfl dJ5_init_d00df_19 ?_
  refine hz_y_goto (tgt := 38) hO dJ5_init_d00df_22 (by decide) ?_
  refine hz_y_widen (z1 := ((1, 16), (1, 16))) rfl (Nat.le_of_ble_eq_true rfl) (Nat.le_of_ble_eq_true rfl) ⟨Nat.le_refl _, Nat.le_refl _⟩ ?_
  exact hz_y_vret hO ⟨va, rfl⟩ dJ5_init_d00df_38
set_option maxRecDepth 100000 in
set_option maxHeartbeats 4000000 in
theorem c_y_SBinit (l : Launch) (w : hz_C) {X0 : va_W} {sb : Nat} : hz_CY l yJ4_init_da8c8 cJ4_init_da8c8 1 none 2 1 16 w [.ref sb] (X0 ++ [(sb, .inr (1, [.null, .int 0, .int 0, .int 0]))]) (hz_YQv w (fun S1 => ∃ va, S1 = hz_sb w sb va 16 (fun _ => 0) 0) X0) := by
  refine hz_y_ofW (by decide) rfl (Nat.le_of_ble_eq_true rfl) tw_7_41 ?_
  intro p e s m1 args below meth c hO hin
  show hz_Y p l e 2 ((1, 16), (0, 0)) s m1 args below meth c w 1 _ X0 [(sb, .inr (1, [.null, .int 0, .int 0, .int 0]))] 0 [(0, .ref sb)] []
  refine hz_y_aload_n hO dJ4_init_da8c8_0 rfl 0 rfl ?_
  refine hz_y_bipush (v := (16 : Int32)) hO dJ4_init_da8c8_1 (by decide) ?_
  refine hz_y_callIv (as := [.int (16 : Int32)]) (rest := []) (hc := 1) (mc := 1) (ms := 16) hO (c_y_ASBinit l w) hx_cal_J5_init_d00df rfl tw_7_42 (Nat.le_of_ble_eq_true rfl) rfl rfl (Nat.le_of_ble_eq_true rfl) ⟨(Nat.le_of_ble_eq_true rfl), (Nat.le_of_ble_eq_true rfl)⟩ dJ4_init_da8c8_3 (fun S1 hR => ?_)
  exact hz_y_vret hO hR dJ4_init_da8c8_6
set_option maxRecDepth 100000 in
set_option maxHeartbeats 4000000 in
theorem c_y_ASBinitS (l : Launch) (w : hz_C) {X0 : va_W} {sb : Nat} {s0 : Nat → Nat} {i : Nat} (hi : i < hz_ns w) (hs : ∀ j, j < hz_ln w i → s0 j < 128 ∧ hz_by w i j = nI (s0 j)) (hn : hz_ln w i ≤ 100) : hz_CY l yJ5_init_a7421 cJ5_init_a7421 5 none 7 2 800 w [.ref sb, .ref (hz_sa w i)] (X0 ++ [(sb, .inr (1, [.null, .int 0, .int 0, .int 0]))]) (hz_YQv w (fun S1 => hz_sbT w sb (sb_cat (fun _ => 0) 0 s0) (0 + hz_ln w i) S1) X0) := by
  refine hz_y_ofW (by decide) rfl (Nat.le_of_ble_eq_true rfl) tw_6_112 ?_
  intro p e s m1 args below meth c hO hin
  show hz_Y p l e 7 ((2, 800), (0, 0)) s m1 args below meth c w 5 _ X0 [(sb, .inr (1, [.null, .int 0, .int 0, .int 0]))] 0 [(0, .ref sb), (1, .ref (hz_sa w i))] []
  refine hz_y_aload_n hO dJ5_init_a7421_0 rfl 0 rfl ?_
  refine hz_y_obj hO tw_6_113 (Nat.le_of_ble_eq_true rfl) (Nat.le_of_ble_eq_true rfl) dJ5_init_a7421_1 ?_
  refine hz_y_aload_n hO dJ5_init_a7421_4 rfl 1 rfl ?_
  refine hz_y_callTi (as := []) (rest := []) (hc := 1) (mc := 0) (ms := 0) hO (c_y_slen l w hi) hx_cal_J0_length_8abf5 (hz_sel_w hO tw_2_117) hi tw_6_114 (Nat.le_of_ble_eq_true rfl) rfl rfl (Nat.le_of_ble_eq_true rfl) ⟨(Nat.le_of_ble_eq_true rfl), (Nat.le_of_ble_eq_true rfl)⟩ dJ5_init_a7421_5 (fun r S1 hR => ?_)
  obtain ⟨rfl, rfl⟩ := hR
  refine hz_y_istore_n (ls1 := [(2, .int (nI (hz_ln w i))), (0, .ref sb), (1, .ref (hz_sa w i))]) hO dJ5_init_a7421_8 rfl (Nat.le_of_ble_eq_true rfl) rfl ?_
  refine hz_y_iload_n hO dJ5_init_a7421_9 rfl 0 rfl ?_
  refine hz_y_ldcI hO tw_6_115 dJ5_init_a7421_10 ?_
  refine hz_y_icmp_ge (tgt := 22) hO dJ5_init_a7421_12 (by decide) (fun hc => absurd hc (hz_nleN (a := 2147483631) (by omega) (by decide))) (fun _ => ?_)
  refine hz_y_iload_n hO dJ5_init_a7421_15 rfl 0 rfl ?_
  refine hz_y_bipush (v := (16 : Int32)) hO dJ5_init_a7421_16 (by decide) ?_
  refine hz_y_iadd hO dJ5_init_a7421_18 ?_
  refine hz_y_name (y := nI (hz_ln w i + 16)) (nI_add _ 16).symm ?_
  refine hz_y_goto (tgt := 24) hO dJ5_init_a7421_19 (by decide) ?_
  refine hz_y_istore_n (ls1 := [(3, .int (nI (hz_ln w i + 16))), (2, .int (nI (hz_ln w i))), (0, .ref sb), (1, .ref (hz_sa w i))]) hO dJ5_init_a7421_24 rfl (Nat.le_of_ble_eq_true rfl) rfl ?_
  refine hz_y_aload_n hO dJ5_init_a7421_25 rfl 3 rfl ?_
  refine hz_y_callTi (as := []) (rest := []) (hc := 0) (mc := 0) (ms := 0) hO (c_y_coder l w hi) hx_cal_J0_coder_7d493 (hz_sel_w hO tw_2_121) hi tw_6_117 (Nat.le_of_ble_eq_true rfl) rfl rfl (Nat.le_of_ble_eq_true rfl) ⟨(Nat.le_of_ble_eq_true rfl), (Nat.le_of_ble_eq_true rfl)⟩ dJ5_init_a7421_26 (fun r S1 hR => ?_)
  obtain ⟨rfl, rfl⟩ := hR
  refine hz_y_istore (ls1 := [(4, .int 0), (3, .int (nI (hz_ln w i + 16))), (2, .int (nI (hz_ln w i))), (0, .ref sb), (1, .ref (hz_sa w i))]) hO dJ5_init_a7421_29 (Nat.le_of_ble_eq_true rfl) rfl ?_
  refine hz_y_aload_n hO dJ5_init_a7421_31 rfl 3 rfl ?_
  refine hz_y_iload hO dJ5_init_a7421_32 0 rfl ?_
  refine hz_y_put (j := 0) (k := 1) (S1 := [(sb, .inr (1, [.null, .int 0, .int 0, .int 0]))]) hO hz_K_1 tyJ4_ok nmJ4 rfl (Nat.le_of_ble_eq_true rfl) tw_6_225 rfl rfl rfl rfl rfl (Nat.le_of_ble_eq_true rfl) rfl dJ5_init_a7421_34 ?_
  refine hz_y_aload_n hO dJ5_init_a7421_37 rfl 3 rfl ?_
  refine hz_y_iload hO dJ5_init_a7421_38 0 rfl ?_
  refine hz_y_if_ne (tgt := 49) hO dJ5_init_a7421_40 (by decide) (fun hc => absurd rfl hc) (fun _ => ?_)
  refine hz_y_iload_n hO dJ5_init_a7421_43 rfl 1 rfl ?_
  refine hz_y_newb (n := (hz_ln w i + 16)) hO (hz_nneg (by omega)) (nI_clamp (by omega)) (by omega) ⟨(Nat.le_of_ble_eq_true rfl), by show 0 + (hz_ln w i + 16) ≤ 800; omega⟩ dJ5_init_a7421_44 (fun va => ?_)
  refine hz_y_S (S1 := [(sb, .inr (1, [.null, .int 0, .int 0, .int 0])), (va, .inl (hz_tc w 5, (hz_ln w i + 16), .inl (fun _ => 0)))]) rfl ?_
  refine hz_y_goto (tgt := 53) hO dJ5_init_a7421_46 (by decide) ?_
  refine hz_y_put (j := 0) (k := 0) (S1 := [(sb, .inr (1, [.ref va, .int 0, .int 0, .int 0])), (va, .inl (hz_tc w 5, (hz_ln w i + 16), .inl (fun _ => 0)))]) hO hz_K_1 tyJ4_ok nmJ4 rfl (Nat.le_of_ble_eq_true rfl) tw_6_224 rfl rfl rfl rfl rfl (Nat.le_of_ble_eq_true rfl) rfl dJ5_init_a7421_53 ?_
  refine hz_y_aload_n hO dJ5_init_a7421_56 rfl 3 rfl ?_
  refine hz_y_aload_n hO dJ5_init_a7421_57 rfl 4 rfl ?_
  refine hz_y_callOr (owner := "java/lang/AbstractStringBuilder") (x := yJ5_append_cf1ce) (as := [.ref (hz_sa w i)]) (rest := []) (hc := 6) (mc := 1) (ms := 600) hO (c_y_bridge (t := fun _ => 0) (n := 0) l w hi hs (by omega) (by omega) (by omega) (fun j hj => absurd hj (Nat.not_lt_zero j)) sb_fit0 (by omega)) hx_cal_J4_append_cf1ce ⟨by decide, by decide, by decide +kernel⟩ tw_6_137 tw_6_127 tw_6_126 tw_6_128 hz_K_1 (j := 0) rfl tw_6_125 (Nat.le_of_ble_eq_true rfl) rfl rfl (Nat.le_of_ble_eq_true rfl) ⟨(Nat.le_of_ble_eq_true rfl), by show 0 + (hz_ln w i + 16) + 600 ≤ 800; omega⟩ dJ5_init_a7421_58 (fun b S1 hR => ?_)
  refine hz_y_pop hO dJ5_init_a7421_61 rfl ?_
  refine hz_y_widen (z1 := ((2, 800), (2, 800))) rfl (Nat.le_of_ble_eq_true rfl) (by show 0 + (hz_ln w i + 16) + 600 ≤ 800; omega) ⟨Nat.le_refl _, Nat.le_refl _⟩ ?_
  exact hz_y_vret hO hR.2 dJ5_init_a7421_62
set_option maxRecDepth 100000 in
set_option maxHeartbeats 4000000 in
theorem c_y_SBinitS (l : Launch) (w : hz_C) {X0 : va_W} {sb : Nat} {s0 : Nat → Nat} {i : Nat} (hi : i < hz_ns w) (hs : ∀ j, j < hz_ln w i → s0 j < 128 ∧ hz_by w i j = nI (s0 j)) (hn : hz_ln w i ≤ 100) : hz_CY l yJ4_init_a7421 cJ4_init_a7421 2 none 8 2 800 w [.ref sb, .ref (hz_sa w i)] (X0 ++ [(sb, .inr (1, [.null, .int 0, .int 0, .int 0]))]) (hz_YQv w (fun S1 => hz_sbT w sb (sb_cat (fun _ => 0) 0 s0) (0 + hz_ln w i) S1) X0) := by
  refine hz_y_ofW (by decide) rfl (Nat.le_of_ble_eq_true rfl) tw_6_109 ?_
  intro p e s m1 args below meth c hO hin
  show hz_Y p l e 8 ((2, 800), (0, 0)) s m1 args below meth c w 2 _ X0 [(sb, .inr (1, [.null, .int 0, .int 0, .int 0]))] 0 [(0, .ref sb), (1, .ref (hz_sa w i))] []
  refine hz_y_aload_n hO dJ4_init_a7421_0 rfl 0 rfl ?_
  refine hz_y_aload_n hO dJ4_init_a7421_1 rfl 1 rfl ?_
  refine hz_y_callIv (as := [.ref (hz_sa w i)]) (rest := []) (hc := 7) (mc := 2) (ms := 800) hO (c_y_ASBinitS l w hi hs hn) hx_cal_J5_init_a7421 rfl tw_6_110 (Nat.le_of_ble_eq_true rfl) rfl rfl (Nat.le_of_ble_eq_true rfl) ⟨(Nat.le_of_ble_eq_true rfl), (Nat.le_of_ble_eq_true rfl)⟩ dJ4_init_a7421_2 (fun S1 hR => ?_)
  exact hz_y_vret hO hR dJ4_init_a7421_5
set_option maxRecDepth 100000 in
set_option maxHeartbeats 4000000 in
theorem c_y_getV (l : Launch) (w : hz_C) {X0 : va_W} {sb va m n : Nat} {a : Nat → Int32} : hz_CY l yJ5_getValue_6d5f1 cJ5_getValue_6d5f1 1 (some (.array Jvm.ClassFile.FieldType.byte)) 0 0 0 w [.ref sb] (X0 ++ [(sb, .inr (1, [.ref va, .int 0, .int 0, .int (nI n)])), (va, .inl (hz_tc w 5, m, .inl a))]) (hz_YQr w (fun b S1 => b = va ∧ S1 = hz_sb w sb va m a n) X0) := by
  refine hz_y_ofW (by decide) rfl (Nat.le_of_ble_eq_true rfl) tw_7_63 ?_
  intro p e s m1 args below meth c hO hin
  show hz_Y p l e 0 ((0, 0), (0, 0)) s m1 args below meth c w 1 _ X0 [(sb, .inr (1, [.ref va, .int 0, .int 0, .int (nI n)])), (va, .inl (hz_tc w 5, m, .inl a))] 0 [(0, .ref sb)] []
  refine hz_y_aload_n hO dJ5_getValue_6d5f1_0 rfl 0 rfl ?_
  refine hz_y_get (j := 0) (k := 0) hO hz_K_1 rfl rfl (Nat.le_of_ble_eq_true rfl) tw_6_224 rfl dJ5_getValue_6d5f1_1 ?_
  exact hz_y_aret hO (Or.inr ⟨_, rfl⟩) ⟨rfl, rfl⟩ dJ5_getValue_6d5f1_4
set_option maxRecDepth 100000 in
set_option maxHeartbeats 4000000 in
theorem c_y_blen (l : Launch) (w : hz_C) {X0 : va_W} {sb va m n : Nat} {a : Nat → Int32} : hz_CY l yJ5_length_8abf5 cJ5_length_8abf5 1 (some .int) 0 0 0 w [.ref sb] (X0 ++ [(sb, .inr (1, [.ref va, .int 0, .int 0, .int (nI n)])), (va, .inl (hz_tc w 5, m, .inl a))]) (hz_YQi w (fun r S1 => r = nI n ∧ S1 = hz_sb w sb va m a n) X0) := by
  refine hz_y_ofW (by decide) rfl (Nat.le_of_ble_eq_true rfl) tw_7_71 ?_
  intro p e s m1 args below meth c hO hin
  show hz_Y p l e 0 ((0, 0), (0, 0)) s m1 args below meth c w 1 _ X0 [(sb, .inr (1, [.ref va, .int 0, .int 0, .int (nI n)])), (va, .inl (hz_tc w 5, m, .inl a))] 0 [(0, .ref sb)] []
  refine hz_y_aload_n hO dJ5_length_8abf5_0 rfl 0 rfl ?_
  refine hz_y_get (j := 0) (k := 3) hO hz_K_1 rfl rfl (Nat.le_of_ble_eq_true rfl) tw_6_227 rfl dJ5_length_8abf5_1 ?_
  exact hz_y_iret hO ⟨rfl, rfl⟩ dJ5_length_8abf5_4
set_option maxRecDepth 100000 in
set_option maxHeartbeats 4000000 in
theorem c_y_SBlen (l : Launch) (w : hz_C) {X0 : va_W} {sb va m n : Nat} {a : Nat → Int32} : hz_CY l yJ4_length_8abf5 cJ4_length_8abf5 1 (some .int) 1 0 0 w [.ref sb] (X0 ++ [(sb, .inr (1, [.ref va, .int 0, .int 0, .int (nI n)])), (va, .inl (hz_tc w 5, m, .inl a))]) (hz_YQi w (fun r S1 => r = nI n ∧ S1 = hz_sb w sb va m a n) X0) := by
  refine hz_y_ofW (by decide) rfl (Nat.le_of_ble_eq_true rfl) tw_7_69 ?_
  intro p e s m1 args below meth c hO hin
  show hz_Y p l e 1 ((0, 0), (0, 0)) s m1 args below meth c w 1 _ X0 [(sb, .inr (1, [.ref va, .int 0, .int 0, .int (nI n)])), (va, .inl (hz_tc w 5, m, .inl a))] 0 [(0, .ref sb)] []
  refine hz_y_aload_n hO dJ4_length_8abf5_0 rfl 0 rfl ?_
  refine hz_y_callUi (as := []) (rest := []) (hc := 0) (mc := 0) (ms := 0) hO (c_y_blen l w) hx_cal_J5_length_8abf5 (by decide) tw_7_66 tw_6_136 hz_K_1 (j := 0) rfl tw_7_70 (Nat.le_of_ble_eq_true rfl) rfl rfl (Nat.le_of_ble_eq_true rfl) ⟨(Nat.le_of_ble_eq_true rfl), (Nat.le_of_ble_eq_true rfl)⟩ dJ4_length_8abf5_1 (fun r S1 hR => ?_)
  exact hz_y_iret hO hR dJ4_length_8abf5_4
set_option maxRecDepth 100000 in
set_option maxHeartbeats 4000000 in
theorem c_y_chkL (l : Launch) (w : hz_C) {X0 : va_W} {S : va_W} {k : Nat} (hk : k < 2 ^ 31) : hz_CY l yJ7_checkLength_df160 cJ7_checkLength_df160 2 none 0 0 0 w [.int 0, .int (nI k)] (X0 ++ S) (hz_YQv w (fun S1 => S1 = S) X0) := by
  refine hz_y_ofW (by decide) rfl (Nat.le_of_ble_eq_true rfl) tw_7_81 ?_
  intro p e s m1 args below meth c hO hin
  show hz_Y p l e 0 ((0, 0), (0, 0)) s m1 args below meth c w 2 _ X0 S 0 [(0, .int 0), (1, .int (nI k))] []
  refine hz_y_iload_n hO dJ7_checkLength_df160_0 rfl 1 rfl ?_
  refine hz_y_iload_n hO dJ7_checkLength_df160_1 rfl 0 rfl ?_
  refine hz_y_icmp_ge (tgt := 37) hO dJ7_checkLength_df160_2 (by decide) (fun _ => ?_) (fun hc => absurd (nI_pos' hk) hc)
  exact hz_y_vret hO rfl dJ7_checkLength_df160_37
set_option maxRecDepth 100000 in
set_option maxHeartbeats 4000000 in
theorem c_y_corB (l : Launch) (w : hz_C) {X0 : va_W} {sb va m n : Nat} {a : Nat → Int32} (hnm : n ≤ m) (hm : m ≤ 262) (hf : sb_Fit a) : hz_CY l yJ7_copyOfRangeByte_39247 cJ7_copyOfRangeByte_39247 5 (some (.array Jvm.ClassFile.FieldType.byte)) 1 1 300 w [.ref va, .int 0, .int (nI n)] (X0 ++ [(sb, .inr (1, [.ref va, .int 0, .int 0, .int (nI n)])), (va, .inl (hz_tc w 5, m, .inl a))]) (hz_YQr w (fun b S1 => ∃ f, S1 = [(sb, .inr (1, [.ref va, .int 0, .int 0, .int (nI n)])), (va, .inl (hz_tc w 5, m, .inl a)), (b, .inl (hz_tc w 5, n, .inl f))] ∧ sb_Fit f ∧ ∀ j, j < n → f j = a j) X0) := by
  refine hz_y_ofW (by decide) rfl (Nat.le_of_ble_eq_true rfl) tw_7_78 ?_
  intro p e s m1 args below meth c hO hin
  show hz_Y p l e 1 ((1, 300), (0, 0)) s m1 args below meth c w 5 _ X0 [(sb, .inr (1, [.ref va, .int 0, .int 0, .int (nI n)])), (va, .inl (hz_tc w 5, m, .inl a))] 0 [(0, .ref va), (1, .int 0), (2, .int (nI n))] []
  refine hz_y_iload_n hO dJ7_copyOfRangeByte_39247_0 rfl 1 rfl ?_
  refine hz_y_iload_n hO dJ7_copyOfRangeByte_39247_1 rfl 2 rfl ?_
  refine hz_y_callSv (as := [.int 0, .int (nI n)]) (rest := []) (hc := 0) (mc := 0) (ms := 0) hO (c_y_chkL l w (by omega)) hx_cal_J7_checkLength_df160 tw_7_79 (Nat.le_of_ble_eq_true rfl) rfl rfl (Nat.le_of_ble_eq_true rfl) ⟨(Nat.le_of_ble_eq_true rfl), (Nat.le_of_ble_eq_true rfl)⟩ dJ7_copyOfRangeByte_39247_2 (fun S1 hR => ?_)
  subst hR
  refine hz_y_iload_n hO dJ7_copyOfRangeByte_39247_5 rfl 2 rfl ?_
  refine hz_y_iload_n hO dJ7_copyOfRangeByte_39247_6 rfl 1 rfl ?_
  refine hz_y_isub hO dJ7_copyOfRangeByte_39247_7 ?_
  refine hz_y_name (y := nI n) (by simp) ?_
  refine hz_y_istore_n (ls1 := [(3, .int (nI n)), (0, .ref va), (1, .int 0), (2, .int (nI n))]) hO dJ7_copyOfRangeByte_39247_8 rfl (Nat.le_of_ble_eq_true rfl) rfl ?_
  refine hz_y_iload_n hO dJ7_copyOfRangeByte_39247_9 rfl 0 rfl ?_
  refine hz_y_newb (n := n) hO (hz_nneg (by omega)) (nI_clamp (by omega)) (by omega) ⟨(Nat.le_of_ble_eq_true rfl), by show 0 + n ≤ 300; omega⟩ dJ7_copyOfRangeByte_39247_10 (fun b => ?_)
  refine hz_y_S (S1 := [(sb, .inr (1, [.ref va, .int 0, .int 0, .int (nI n)])), (va, .inl (hz_tc w 5, m, .inl a)), (b, .inl (hz_tc w 5, n, .inl (fun _ => 0)))]) rfl ?_
  refine hz_y_astore (ls1 := [(4, .ref b), (3, .int (nI n)), (0, .ref va), (1, .int 0), (2, .int (nI n))]) hO dJ7_copyOfRangeByte_39247_12 (Nat.le_of_ble_eq_true rfl) rfl ?_
  refine hz_y_aload_n hO dJ7_copyOfRangeByte_39247_14 rfl 2 rfl ?_
  refine hz_y_iload_n hO dJ7_copyOfRangeByte_39247_15 rfl 3 rfl ?_
  refine hz_y_aload hO dJ7_copyOfRangeByte_39247_16 0 rfl ?_
  refine hz_y_iconst (v := (0 : Int32)) hO dJ7_copyOfRangeByte_39247_18 (by decide) ?_
  refine hz_y_aload_n hO dJ7_copyOfRangeByte_39247_19 rfl 2 rfl ?_
  refine hz_y_alen (j := 1) (v := nI m) hO rfl rfl dJ7_copyOfRangeByte_39247_20 ?_
  refine hz_y_iload_n hO dJ7_copyOfRangeByte_39247_21 rfl 3 rfl ?_
  refine hz_y_isub hO dJ7_copyOfRangeByte_39247_22 ?_
  refine hz_y_name (y := nI m) (by simp) ?_
  refine hz_y_iload_n hO dJ7_copyOfRangeByte_39247_23 rfl 1 rfl ?_
  refine hz_y_mmin hO tw_6_168 (Nat.le_of_ble_eq_true rfl) (Nat.le_of_ble_eq_true rfl) dJ7_copyOfRangeByte_39247_24 ?_
  refine hz_y_name (y := nI n) ((hz_min (g := m) (q := n) (by omega) (by omega)).trans (by by_cases hq : n < m; rw [if_pos hq]; rw [if_neg hq, show m = n by omega])).symm ?_
  refine hz_y_copy (j0 := 1) (j1 := 2) (S1 := [(sb, .inr (1, [.ref va, .int 0, .int 0, .int (nI n)])), (va, .inl (hz_tc w 5, m, .inl a)), (b, .inl (hz_tc w 5, n, .inl (va_cpy a (fun _ => 0) 0 0 n)))]) hO rfl rfl (by decide) (by decide) (hz_nneg (by omega)) (by rw [nI_clamp (by omega)]; show 0 + n ≤ m; omega) (by rw [nI_clamp (by omega)]; show 0 + n ≤ n; omega) hf tw_6_169 (Nat.le_of_ble_eq_true rfl) (Nat.le_of_ble_eq_true rfl) (by rw [nI_clamp (show n < 2 ^ 31 by omega)]; rfl) dJ7_copyOfRangeByte_39247_27 ?_
  refine hz_y_aload hO dJ7_copyOfRangeByte_39247_30 0 rfl ?_
  refine hz_y_widen (z1 := ((1, 300), (1, 300))) rfl (Nat.le_of_ble_eq_true rfl) (by show 0 + n ≤ 300; omega) ⟨Nat.le_refl _, Nat.le_refl _⟩ ?_
  exact hz_y_aret hO (Or.inr ⟨_, rfl⟩) ⟨_, rfl, sb_fitC hf sb_fit0, fun j hj => sb_cpy0 hj⟩ dJ7_copyOfRangeByte_39247_32
theorem hz_vfit {c : ClassId} {n : Nat} {f : Nat → Int32} (hf : sb_Fit f) : ∀ (i : Nat) (v : Value), (vp_cell c (n, .inl f)).slots[i]? = some v → fits .byte v = true := by
  intro i v hv
  have hi : i < n := by
    have h1 := (Array.getElem?_eq_some_iff.mp hv).1
    have h2 : (arrV c n (fun j => .int (f j))).slots.size = n := arrV_size _ _ _
    exact h2 ▸ h1
  have h3 : (arrV c n (fun j => .int (f j))).slots[i]? = some (.int (f i)) := arrV_read _ _ hi
  have h4 : v = .int (f i) := Option.some.inj (hv.symm.trans h3)
  rw [h4]
  exact hf i
section HZYK
variable {p : Program} {l : Launch} {e : Env} {h : Nat} {z : hz_Z} {s : State} {m : MethodId} {args : Array Value} {below : List Frame} {meth : Method} {c : Code} {w : hz_C} {nL : Nat} {Q : State → Prop} {X0 S : va_W} {pc : Nat} {ls : List (Nat × Value)} {st : List Value} {cc : ByteArray} {own : String} {ret : Option FieldType}
theorem hz_y_clone (hO : hz_Ok p s m args meth c w cc nL own ret) {a n j idx : Nat} {f : Nat → Int32} (hSj : S[j]? = some (a, .inl (hz_tc w 5, n, .inl f))) (hf : sb_Fit f) (hlink : Cond.methodLink own idx ⟨"[B", "clone", "()Ljava/lang/Object;"⟩ ∈ hz_TB) (hh : 1 ≤ h) (hcat : (st.map fun v => v.category).sum ≤ 8) (hz1 : z.2.1 + 1 ≤ z.1.1 ∧ z.2.2 + n ≤ z.1.2) (hdg : decode cc pc = .ok (.invokevirtual idx, 3))
    (kk : ∀ b : Nat, hz_Y p l e h (hz_zn z 1 n) s m args below meth c w nL Q X0 (S ++ [(b, .inl (hz_tc w 5, n, .inl f))]) (pc + 3) ls (.ref b :: st)) : hz_Y p l e h z s m args below meth c w nL Q X0 S pc ls (.ref a :: st) := by
  intro hzk H locs la hW hS hL
  refine va_clone (D := hz_D w) (ty := .byte) hO.1.1 hO.1.2.1 (hO.1.2.2.1.trans hL.1.symm) hO.1.2.2.2.1 (hO.1.2.2.2.2 _ hlink) (hO.1.2.2.2.2 _ tw_6_162) (hO.1.2.2.2.2 _ tw_6_163) (hO.1.2.2.2.2 _ tw_6_164) (hO.1.2.2.2.2 _ tw_6_165) (hO.2.2.2.1.2.2.2.2.2.2.2.2.2.2.2.2.2.2.2.2.2) hW.2.1 hW.1 hW.2.2.1 hS (hz_y_in hO) (X0.length + j) 5 (hz_yga hSj) rfl (hO.2.2.2.1.2.2.2.2.2.2.2.2.2.1 5 (by omega)) (hz_vfit hf) hh (by show _ ≤ 60 * h; omega) hz1.1 hz1.2 hdg (fun b H1 _ hP hD hS1 => ?_)
  rw [List.append_assoc] at hP hD
  exact kk b hz1 H1 locs la ⟨hP, hW.2.1, hD, hO.2.2.2.2.le hS1.1⟩ hS1 hL
theorem hz_y_castB (hO : hz_Ok p s m args meth c w cc nL own ret) {a n j idx : Nat} {f : Nat → Int32} (hSj : S[j]? = some (a, .inl (hz_tc w 5, n, .inl f))) (hlink : Cond.classLink own idx "[B" ∈ hz_TB) (hdg : decode cc pc = .ok (.checkcast idx, 3))
    (kk : hz_Y p l e h z s m args below meth c w nL Q X0 S (pc + 3) ls (.ref a :: st)) : hz_Y p l e h z s m args below meth c w nL Q X0 S pc ls (.ref a :: st) := by
  intro hzk H locs la hW hS hL
  exact va_castA (D := hz_D w) hO.1.1 hO.1.2.1 hO.1.2.2.2.1 (hO.1.2.2.2.2 _ hlink) hW.1 (X0.length + j) (hz_yga hSj) (hO.2.2.2.1.2.2.2.2.2.2.2.2.2.1 5 (by omega)) hdg (kk hzk H locs la hW hS hL)
theorem hz_y_re {X1 S1 : va_W} (hX : X0 ++ S = X1 ++ S1) (kk : hz_Y p l e h z s m args below meth c w nL Q X1 S1 pc ls st) : hz_Y p l e h z s m args below meth c w nL Q X0 S pc ls st :=
  fun hzk H locs la hW hS hL => kk hzk H locs la (hX ▸ hW) hS hL
end HZYK
set_option maxRecDepth 100000 in
set_option maxHeartbeats 4000000 in
theorem c_y_cor (l : Launch) (w : hz_C) {X0 : va_W} {sb va m n : Nat} {a : Nat → Int32} (hnm : n ≤ m) (hm : m ≤ 262) (hf : sb_Fit a) : hz_CY l yJ7_copyOfRange_39247 cJ7_copyOfRange_39247 3 (some (.array Jvm.ClassFile.FieldType.byte)) 2 1 300 w [.ref va, .int 0, .int (nI n)] (X0 ++ [(sb, .inr (1, [.ref va, .int 0, .int 0, .int (nI n)])), (va, .inl (hz_tc w 5, m, .inl a))]) (hz_YQr w (fun b S1 => ∃ f, S1 = [(sb, .inr (1, [.ref va, .int 0, .int 0, .int (nI n)])), (va, .inl (hz_tc w 5, m, .inl a)), (b, .inl (hz_tc w 5, n, .inl f))] ∧ sb_Fit f ∧ ∀ j, j < n → f j = a j) X0) := by
  refine hz_y_ofW (by decide) rfl (Nat.le_of_ble_eq_true rfl) tw_7_75 ?_
  intro p e s m1 args below meth c hO hin
  show hz_Y p l e 2 ((1, 300), (0, 0)) s m1 args below meth c w 3 _ X0 [(sb, .inr (1, [.ref va, .int 0, .int 0, .int (nI n)])), (va, .inl (hz_tc w 5, m, .inl a))] 0 [(0, .ref va), (1, .int 0), (2, .int (nI n))] []
  refine hz_y_iload_n hO dJ7_copyOfRange_39247_0 rfl 1 rfl ?_
  refine hz_y_if_ne (tgt := 10) hO dJ7_copyOfRange_39247_1 (by decide) (fun hc => absurd rfl hc) (fun _ => ?_)
  refine hz_y_iload_n hO dJ7_copyOfRange_39247_4 rfl 2 rfl ?_
  refine hz_y_aload_n hO dJ7_copyOfRange_39247_5 rfl 0 rfl ?_
  refine hz_y_alen (j := 1) (v := nI m) hO rfl rfl dJ7_copyOfRange_39247_6 ?_
  by_cases hq : n = m
  · subst hq
    refine hz_y_icmp_eq (tgt := 17) hO dJ7_copyOfRange_39247_7 (by decide) (fun _ => ?_) (fun hc => absurd rfl hc)
    refine hz_y_aload_n hO dJ7_copyOfRange_39247_17 rfl 0 rfl ?_
    refine hz_y_clone (j := 1) (st := []) hO rfl hf tw_6_161 (Nat.le_of_ble_eq_true rfl) (Nat.le_of_ble_eq_true rfl) ⟨(Nat.le_of_ble_eq_true rfl), by show 0 + n ≤ 300; omega⟩ dJ7_copyOfRange_39247_18 (fun b => ?_)
    refine hz_y_castB (j := 2) hO rfl tw_6_167 dJ7_copyOfRange_39247_21 ?_
    refine hz_y_widen (z1 := ((1, 300), (1, 300))) rfl (Nat.le_of_ble_eq_true rfl) (by show 0 + n ≤ 300; omega) ⟨Nat.le_refl _, Nat.le_refl _⟩ ?_
    exact hz_y_aret hO (Or.inr ⟨_, rfl⟩) ⟨a, rfl, hf, fun _ _ => rfl⟩ dJ7_copyOfRange_39247_24
  · refine hz_y_icmp_eq (tgt := 17) hO dJ7_copyOfRange_39247_7 (by decide) (fun hc => absurd hc (hz_ne (by omega) (by omega) hq)) (fun _ => ?_)
    refine hz_y_aload_n hO dJ7_copyOfRange_39247_10 rfl 0 rfl ?_
    refine hz_y_iload_n hO dJ7_copyOfRange_39247_11 rfl 1 rfl ?_
    refine hz_y_iload_n hO dJ7_copyOfRange_39247_12 rfl 2 rfl ?_
    refine hz_y_callSr (as := [.ref va, .int 0, .int (nI n)]) (rest := []) (hc := 1) (mc := 1) (ms := 300) hO (c_y_corB l w hnm hm hf) hx_cal_J7_copyOfRangeByte_39247 tw_7_76 (Nat.le_of_ble_eq_true rfl) rfl rfl (Nat.le_of_ble_eq_true rfl) ⟨(Nat.le_of_ble_eq_true rfl), (Nat.le_of_ble_eq_true rfl)⟩ dJ7_copyOfRange_39247_13 (fun b S1 hR => ?_)
    exact hz_y_aret hO (Or.inr ⟨_, rfl⟩) hR dJ7_copyOfRange_39247_16
