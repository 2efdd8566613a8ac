theorem tw_1_14 : (Jvm.Cond.initialized "java/lang/Math") ∈ hz_TB := hz_tb (hz_t1 _ (List.mem_of_getElem? (i := 14) rfl)) rfl
theorem tw_2_208 : (Jvm.Cond.static ({ cls := "java/lang/Math", name := "min", desc := "(II)I" } : Jvm.MethodName)) ∈ hz_TB := hz_tb (hz_t2 _ (List.mem_of_getElem? (i := 208) rfl)) rfl
theorem tw_2_209 : (Jvm.Cond.code ({ cls := "java/lang/Math", name := "min", desc := "(II)I" } : Jvm.MethodName) prog_21_method_69_code (2 : Nat) (Option.some Jvm.ClassFile.FieldType.int)) ∈ hz_TB := hz_tb (hz_t2 _ (List.mem_of_getElem? (i := 209) rfl)) rfl
theorem tw_4_107 : (Jvm.Cond.static ({ cls := "java/lang/Math", name := "max", desc := "(II)I" } : Jvm.MethodName)) ∈ hz_TB := hz_tb (hz_t4 _ (List.mem_of_getElem? (i := 107) rfl)) rfl
theorem tw_4_108 : (Jvm.Cond.code ({ cls := "java/lang/Math", name := "max", desc := "(II)I" } : Jvm.MethodName) prog_21_method_65_code (2 : Nat) (Option.some Jvm.ClassFile.FieldType.int)) ∈ hz_TB := hz_tb (hz_t4 _ (List.mem_of_getElem? (i := 108) rfl)) rfl
theorem tw_4_174 : (Jvm.Cond.static ({ cls := "java/lang/Math", name := "abs", desc := "(I)I" } : Jvm.MethodName)) ∈ hz_TB := hz_tb (hz_t4 _ (List.mem_of_getElem? (i := 174) rfl)) rfl
theorem tw_4_175 : (Jvm.Cond.code ({ cls := "java/lang/Math", name := "abs", desc := "(I)I" } : Jvm.MethodName) prog_21_method_59_code (1 : Nat) (Option.some Jvm.ClassFile.FieldType.int)) ∈ hz_TB := hz_tb (hz_t4 _ (List.mem_of_getElem? (i := 175) rfl)) rfl
theorem tw_math_max_s : Cond.static Lib.Math.max.name ∈ hz_TB := tw_4_107
theorem tw_math_max_c : Cond.code Lib.Math.max.name Lib.Math.max.code 2 (some .int) ∈ hz_TB := tw_4_108
theorem tw_math_min_s : Cond.static Lib.Math.min.name ∈ hz_TB := tw_2_208
theorem tw_math_min_c : Cond.code Lib.Math.min.name Lib.Math.min.code 2 (some .int) ∈ hz_TB := tw_2_209
theorem tw_math_abs_s : Cond.static Lib.Math.abs.name ∈ hz_TB := tw_4_174
theorem tw_math_abs_c : Cond.code Lib.Math.abs.name Lib.Math.abs.code 1 (some .int) ∈ hz_TB := tw_4_175
theorem tw_math_i : Cond.initialized "java/lang/Math" ∈ hz_TB := tw_1_14
