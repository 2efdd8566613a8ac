theorem tw_5_30 : (Jvm.Cond.codeWith ({ cls := "HotStepsLaw", name := "size", desc := "(LHotSteps;I[J)I" } : Jvm.MethodName) method_3_code (4 : Nat) (Option.some Jvm.ClassFile.FieldType.int) [((0 : Nat), (9 : Nat), (12 : Nat), (13 : Nat))]) ∈ hz_TB := hz_tb (hz_t5 _ (List.mem_of_getElem? (i := 30) rfl)) rfl
theorem tw_5_31 : (Jvm.Cond.classLink "HotStepsLaw" (13 : Nat) "java/lang/IllegalArgumentException") ∈ hz_TB := hz_tb (hz_t5 _ (List.mem_of_getElem? (i := 31) rfl)) rfl
theorem tw_5_32 : (Jvm.Cond.methodLink "HotStepsLaw" (7 : Nat) ({ cls := "HotSteps", name := "size", desc := "(I)I" } : Jvm.MethodName)) ∈ hz_TB := hz_tb (hz_t5 _ (List.mem_of_getElem? (i := 32) rfl)) rfl
theorem tw_5_105 : (Jvm.Cond.codeWith ({ cls := "HotStepsLaw", name := "guest", desc := "(LHotSteps;II[J)I" } : Jvm.MethodName) method_4_code (5 : Nat) (Option.some Jvm.ClassFile.FieldType.int) [((0 : Nat), (10 : Nat), (13 : Nat), (13 : Nat))]) ∈ hz_TB := hz_tb (hz_t5 _ (List.mem_of_getElem? (i := 105) rfl)) rfl
theorem tw_5_106 : (Jvm.Cond.methodLink "HotStepsLaw" (15 : Nat) ({ cls := "HotSteps", name := "guest", desc := "(II)I" } : Jvm.MethodName)) ∈ hz_TB := hz_tb (hz_t5 _ (List.mem_of_getElem? (i := 106) rfl)) rfl
theorem tw_5_123 : (Jvm.Cond.codeWith ({ cls := "HotStepsLaw", name := "towel", desc := "(LHotSteps;II[J)I" } : Jvm.MethodName) method_5_code (5 : Nat) (Option.some Jvm.ClassFile.FieldType.int) [((0 : Nat), (10 : Nat), (13 : Nat), (13 : Nat))]) ∈ hz_TB := hz_tb (hz_t5 _ (List.mem_of_getElem? (i := 123) rfl)) rfl
theorem tw_5_124 : (Jvm.Cond.methodLink "HotStepsLaw" (19 : Nat) ({ cls := "HotSteps", name := "towel", desc := "(II)I" } : Jvm.MethodName)) ∈ hz_TB := hz_tb (hz_t5 _ (List.mem_of_getElem? (i := 124) rfl)) rfl
theorem tw_5_133 : (Jvm.Cond.codeWith ({ cls := "HotStepsLaw", name := "peg", desc := "(LHotSteps;I[J)I" } : Jvm.MethodName) method_6_code (4 : Nat) (Option.some Jvm.ClassFile.FieldType.int) [((0 : Nat), (9 : Nat), (12 : Nat), (13 : Nat))]) ∈ hz_TB := hz_tb (hz_t5 _ (List.mem_of_getElem? (i := 133) rfl)) rfl
theorem tw_5_134 : (Jvm.Cond.methodLink "HotStepsLaw" (22 : Nat) ({ cls := "HotSteps", name := "peg", desc := "(I)I" } : Jvm.MethodName)) ∈ hz_TB := hz_tb (hz_t5 _ (List.mem_of_getElem? (i := 134) rfl)) rfl
theorem tw_5_141 : (Jvm.Cond.codeWith ({ cls := "HotStepsLaw", name := "locker", desc := "(LHotSteps;I[J)I" } : Jvm.MethodName) method_7_code (4 : Nat) (Option.some Jvm.ClassFile.FieldType.int) [((0 : Nat), (9 : Nat), (12 : Nat), (13 : Nat))]) ∈ hz_TB := hz_tb (hz_t5 _ (List.mem_of_getElem? (i := 141) rfl)) rfl
theorem tw_5_142 : (Jvm.Cond.methodLink "HotStepsLaw" (25 : Nat) ({ cls := "HotSteps", name := "locker", desc := "(I)I" } : Jvm.MethodName)) ∈ hz_TB := hz_tb (hz_t5 _ (List.mem_of_getElem? (i := 142) rfl)) rfl
theorem tw_5_149 : (Jvm.Cond.codeWith ({ cls := "HotStepsLaw", name := "opening", desc := "(LHotSteps;I[J)I" } : Jvm.MethodName) method_8_code (4 : Nat) (Option.some Jvm.ClassFile.FieldType.int) [((0 : Nat), (9 : Nat), (12 : Nat), (13 : Nat))]) ∈ hz_TB := hz_tb (hz_t5 _ (List.mem_of_getElem? (i := 149) rfl)) rfl
theorem tw_5_150 : (Jvm.Cond.methodLink "HotStepsLaw" (28 : Nat) ({ cls := "HotSteps", name := "opening", desc := "(I)I" } : Jvm.MethodName)) ∈ hz_TB := hz_tb (hz_t5 _ (List.mem_of_getElem? (i := 150) rfl)) rfl
theorem tw_5_157 : (Jvm.Cond.codeWith ({ cls := "HotStepsLaw", name := "step", desc := "(LHotSteps;II[J)I" } : Jvm.MethodName) method_9_code (5 : Nat) (Option.some Jvm.ClassFile.FieldType.int) [((0 : Nat), (10 : Nat), (13 : Nat), (13 : Nat))]) ∈ hz_TB := hz_tb (hz_t5 _ (List.mem_of_getElem? (i := 157) rfl)) rfl
theorem tw_5_158 : (Jvm.Cond.methodLink "HotStepsLaw" (31 : Nat) ({ cls := "HotSteps", name := "step", desc := "(II)I" } : Jvm.MethodName)) ∈ hz_TB := hz_tb (hz_t5 _ (List.mem_of_getElem? (i := 158) rfl)) rfl
theorem tw_5_176 : (Jvm.Cond.codeWith ({ cls := "HotStepsLaw", name := "letter", desc := "(LHotSteps;II[J)I" } : Jvm.MethodName) method_10_code (5 : Nat) (Option.some Jvm.ClassFile.FieldType.int) [((0 : Nat), (10 : Nat), (13 : Nat), (13 : Nat))]) ∈ hz_TB := hz_tb (hz_t5 _ (List.mem_of_getElem? (i := 176) rfl)) rfl
theorem tw_5_177 : (Jvm.Cond.methodLink "HotStepsLaw" (34 : Nat) ({ cls := "HotSteps", name := "letter", desc := "(II)I" } : Jvm.MethodName)) ∈ hz_TB := hz_tb (hz_t5 _ (List.mem_of_getElem? (i := 177) rfl)) rfl
theorem tw_5_184 : (Jvm.Cond.codeWith ({ cls := "HotStepsLaw", name := "why", desc := "(LHotSteps;III[J)I" } : Jvm.MethodName) method_11_code (6 : Nat) (Option.some Jvm.ClassFile.FieldType.int) [((0 : Nat), (12 : Nat), (15 : Nat), (13 : Nat))]) ∈ hz_TB := hz_tb (hz_t5 _ (List.mem_of_getElem? (i := 184) rfl)) rfl
theorem tw_5_185 : (Jvm.Cond.methodLink "HotStepsLaw" (37 : Nat) ({ cls := "HotSteps", name := "why", desc := "(III)I" } : Jvm.MethodName)) ∈ hz_TB := hz_tb (hz_t5 _ (List.mem_of_getElem? (i := 185) rfl)) rfl
theorem tw_5_209 : (Jvm.Cond.codeWith ({ cls := "HotStepsLaw", name := "highest", desc := "(LHotSteps;I[J)I" } : Jvm.MethodName) method_12_code (4 : Nat) (Option.some Jvm.ClassFile.FieldType.int) [((0 : Nat), (9 : Nat), (12 : Nat), (13 : Nat))]) ∈ hz_TB := hz_tb (hz_t5 _ (List.mem_of_getElem? (i := 209) rfl)) rfl
theorem tw_5_210 : (Jvm.Cond.methodLink "HotStepsLaw" (41 : Nat) ({ cls := "HotSteps", name := "highest", desc := "(I)I" } : Jvm.MethodName)) ∈ hz_TB := hz_tb (hz_t5 _ (List.mem_of_getElem? (i := 210) rfl)) rfl
theorem tw_5_216 : (Jvm.Cond.codeWith ({ cls := "HotStepsLaw", name := "account", desc := "(LHotSteps;I[J)I" } : Jvm.MethodName) method_13_code (4 : Nat) (Option.some Jvm.ClassFile.FieldType.int) [((0 : Nat), (9 : Nat), (12 : Nat), (13 : Nat))]) ∈ hz_TB := hz_tb (hz_t5 _ (List.mem_of_getElem? (i := 216) rfl)) rfl
theorem tw_5_217 : (Jvm.Cond.methodLink "HotStepsLaw" (44 : Nat) ({ cls := "HotSteps", name := "account", desc := "(I)I" } : Jvm.MethodName)) ∈ hz_TB := hz_tb (hz_t5 _ (List.mem_of_getElem? (i := 217) rfl)) rfl
theorem tw_5_223 : (Jvm.Cond.codeWith ({ cls := "HotStepsLaw", name := "heatIn", desc := "(LHotSteps;I[J)I" } : Jvm.MethodName) method_14_code (4 : Nat) (Option.some Jvm.ClassFile.FieldType.int) [((0 : Nat), (9 : Nat), (12 : Nat), (13 : Nat))]) ∈ hz_TB := hz_tb (hz_t5 _ (List.mem_of_getElem? (i := 223) rfl)) rfl
theorem tw_5_224 : (Jvm.Cond.methodLink "HotStepsLaw" (47 : Nat) ({ cls := "HotSteps", name := "heatIn", desc := "(I)I" } : Jvm.MethodName)) ∈ hz_TB := hz_tb (hz_t5 _ (List.mem_of_getElem? (i := 224) rfl)) rfl
theorem tw_5_232 : (Jvm.Cond.codeWith ({ cls := "HotStepsLaw", name := "downIn", desc := "(LHotSteps;I[J)I" } : Jvm.MethodName) method_15_code (4 : Nat) (Option.some Jvm.ClassFile.FieldType.int) [((0 : Nat), (9 : Nat), (12 : Nat), (13 : Nat))]) ∈ hz_TB := hz_tb (hz_t5 _ (List.mem_of_getElem? (i := 232) rfl)) rfl
theorem tw_5_233 : (Jvm.Cond.methodLink "HotStepsLaw" (50 : Nat) ({ cls := "HotSteps", name := "downIn", desc := "(I)I" } : Jvm.MethodName)) ∈ hz_TB := hz_tb (hz_t5 _ (List.mem_of_getElem? (i := 233) rfl)) rfl
theorem tw_6_0 : (Jvm.Cond.codeWith ({ cls := "HotStepsLaw", name := "dryIn", desc := "(LHotSteps;I[J)I" } : Jvm.MethodName) method_16_code (4 : Nat) (Option.some Jvm.ClassFile.FieldType.int) [((0 : Nat), (9 : Nat), (12 : Nat), (13 : Nat))]) ∈ hz_TB := hz_tb (hz_t6 _ (List.mem_of_getElem? (i := 0) rfl)) rfl
theorem tw_6_1 : (Jvm.Cond.methodLink "HotStepsLaw" (53 : Nat) ({ cls := "HotSteps", name := "dryIn", desc := "(I)I" } : Jvm.MethodName)) ∈ hz_TB := hz_tb (hz_t6 _ (List.mem_of_getElem? (i := 1) rfl)) rfl
theorem tw_6_8 : (Jvm.Cond.codeWith ({ cls := "HotStepsLaw", name := "ifValve", desc := "(LHotSteps;II[J)I" } : Jvm.MethodName) method_17_code (5 : Nat) (Option.some Jvm.ClassFile.FieldType.int) [((0 : Nat), (10 : Nat), (13 : Nat), (13 : Nat))]) ∈ hz_TB := hz_tb (hz_t6 _ (List.mem_of_getElem? (i := 8) rfl)) rfl
theorem tw_6_9 : (Jvm.Cond.methodLink "HotStepsLaw" (56 : Nat) ({ cls := "HotSteps", name := "ifValve", desc := "(II)I" } : Jvm.MethodName)) ∈ hz_TB := hz_tb (hz_t6 _ (List.mem_of_getElem? (i := 9) rfl)) rfl
theorem tw_6_18 : (Jvm.Cond.codeWith ({ cls := "HotStepsLaw", name := "enter", desc := "(LHotSteps;I[J)I" } : Jvm.MethodName) method_18_code (4 : Nat) (Option.some Jvm.ClassFile.FieldType.int) [((0 : Nat), (9 : Nat), (12 : Nat), (13 : Nat))]) ∈ hz_TB := hz_tb (hz_t6 _ (List.mem_of_getElem? (i := 18) rfl)) rfl
theorem tw_6_19 : (Jvm.Cond.methodLink "HotStepsLaw" (59 : Nat) ({ cls := "HotSteps", name := "enter", desc := "(I)I" } : Jvm.MethodName)) ∈ hz_TB := hz_tb (hz_t6 _ (List.mem_of_getElem? (i := 19) rfl)) rfl
theorem tw_6_27 : (Jvm.Cond.codeWith ({ cls := "HotStepsLaw", name := "sit", desc := "(LHotSteps;II[J)I" } : Jvm.MethodName) method_19_code (5 : Nat) (Option.some Jvm.ClassFile.FieldType.int) [((0 : Nat), (10 : Nat), (13 : Nat), (13 : Nat))]) ∈ hz_TB := hz_tb (hz_t6 _ (List.mem_of_getElem? (i := 27) rfl)) rfl
theorem tw_6_28 : (Jvm.Cond.methodLink "HotStepsLaw" (62 : Nat) ({ cls := "HotSteps", name := "sit", desc := "(II)I" } : Jvm.MethodName)) ∈ hz_TB := hz_tb (hz_t6 _ (List.mem_of_getElem? (i := 28) rfl)) rfl
theorem tw_6_35 : (Jvm.Cond.codeWith ({ cls := "HotStepsLaw", name := "hall", desc := "(LHotSteps;I[J)I" } : Jvm.MethodName) method_20_code (4 : Nat) (Option.some Jvm.ClassFile.FieldType.int) [((0 : Nat), (9 : Nat), (12 : Nat), (13 : Nat))]) ∈ hz_TB := hz_tb (hz_t6 _ (List.mem_of_getElem? (i := 35) rfl)) rfl
theorem tw_6_36 : (Jvm.Cond.methodLink "HotStepsLaw" (65 : Nat) ({ cls := "HotSteps", name := "hall", desc := "(I)I" } : Jvm.MethodName)) ∈ hz_TB := hz_tb (hz_t6 _ (List.mem_of_getElem? (i := 36) rfl)) rfl
theorem tw_6_44 : (Jvm.Cond.codeWith ({ cls := "HotStepsLaw", name := "hang", desc := "(LHotSteps;II[J)I" } : Jvm.MethodName) method_21_code (5 : Nat) (Option.some Jvm.ClassFile.FieldType.int) [((0 : Nat), (10 : Nat), (13 : Nat), (13 : Nat))]) ∈ hz_TB := hz_tb (hz_t6 _ (List.mem_of_getElem? (i := 44) rfl)) rfl
theorem tw_6_45 : (Jvm.Cond.methodLink "HotStepsLaw" (68 : Nat) ({ cls := "HotSteps", name := "hang", desc := "(II)I" } : Jvm.MethodName)) ∈ hz_TB := hz_tb (hz_t6 _ (List.mem_of_getElem? (i := 45) rfl)) rfl
theorem tw_6_52 : (Jvm.Cond.codeWith ({ cls := "HotStepsLaw", name := "take", desc := "(LHotSteps;II[J)I" } : Jvm.MethodName) method_22_code (5 : Nat) (Option.some Jvm.ClassFile.FieldType.int) [((0 : Nat), (10 : Nat), (13 : Nat), (13 : Nat))]) ∈ hz_TB := hz_tb (hz_t6 _ (List.mem_of_getElem? (i := 52) rfl)) rfl
theorem tw_6_53 : (Jvm.Cond.methodLink "HotStepsLaw" (71 : Nat) ({ cls := "HotSteps", name := "take", desc := "(II)I" } : Jvm.MethodName)) ∈ hz_TB := hz_tb (hz_t6 _ (List.mem_of_getElem? (i := 53) rfl)) rfl
theorem tw_6_60 : (Jvm.Cond.codeWith ({ cls := "HotStepsLaw", name := "leave", desc := "(LHotSteps;I[J)I" } : Jvm.MethodName) method_23_code (4 : Nat) (Option.some Jvm.ClassFile.FieldType.int) [((0 : Nat), (9 : Nat), (12 : Nat), (13 : Nat))]) ∈ hz_TB := hz_tb (hz_t6 _ (List.mem_of_getElem? (i := 60) rfl)) rfl
theorem tw_6_61 : (Jvm.Cond.methodLink "HotStepsLaw" (74 : Nat) ({ cls := "HotSteps", name := "leave", desc := "(I)I" } : Jvm.MethodName)) ∈ hz_TB := hz_tb (hz_t6 _ (List.mem_of_getElem? (i := 61) rfl)) rfl
theorem tw_6_69 : (Jvm.Cond.codeWith ({ cls := "HotStepsLaw", name := "speak", desc := "(LHotSteps;I[J)I" } : Jvm.MethodName) method_24_code (4 : Nat) (Option.some Jvm.ClassFile.FieldType.int) [((0 : Nat), (9 : Nat), (12 : Nat), (13 : Nat))]) ∈ hz_TB := hz_tb (hz_t6 _ (List.mem_of_getElem? (i := 69) rfl)) rfl
theorem tw_6_70 : (Jvm.Cond.methodLink "HotStepsLaw" (77 : Nat) ({ cls := "HotSteps", name := "speak", desc := "(I)I" } : Jvm.MethodName)) ∈ hz_TB := hz_tb (hz_t6 _ (List.mem_of_getElem? (i := 70) rfl)) rfl
theorem tw_6_78 : (Jvm.Cond.codeWith ({ cls := "HotStepsLaw", name := "valve", desc := "(LHotSteps;II[J)I" } : Jvm.MethodName) method_25_code (5 : Nat) (Option.some Jvm.ClassFile.FieldType.int) [((0 : Nat), (10 : Nat), (13 : Nat), (13 : Nat))]) ∈ hz_TB := hz_tb (hz_t6 _ (List.mem_of_getElem? (i := 78) rfl)) rfl
theorem tw_6_79 : (Jvm.Cond.methodLink "HotStepsLaw" (80 : Nat) ({ cls := "HotSteps", name := "valve", desc := "(II)I" } : Jvm.MethodName)) ∈ hz_TB := hz_tb (hz_t6 _ (List.mem_of_getElem? (i := 79) rfl)) rfl
theorem tw_6_86 : (Jvm.Cond.codeWith ({ cls := "HotStepsLaw", name := "waits", desc := "(LHotSteps;I[J)I" } : Jvm.MethodName) method_26_code (4 : Nat) (Option.some Jvm.ClassFile.FieldType.int) [((0 : Nat), (9 : Nat), (12 : Nat), (13 : Nat))]) ∈ hz_TB := hz_tb (hz_t6 _ (List.mem_of_getElem? (i := 86) rfl)) rfl
theorem tw_6_87 : (Jvm.Cond.methodLink "HotStepsLaw" (83 : Nat) ({ cls := "HotSteps", name := "waits", desc := "(I)I" } : Jvm.MethodName)) ∈ hz_TB := hz_tb (hz_t6 _ (List.mem_of_getElem? (i := 87) rfl)) rfl
theorem tw_6_95 : (Jvm.Cond.codeWith ({ cls := "HotStepsLaw", name := "set", desc := "(LHotSteps;II[J)I" } : Jvm.MethodName) method_27_code (5 : Nat) (Option.some Jvm.ClassFile.FieldType.int) [((0 : Nat), (10 : Nat), (13 : Nat), (13 : Nat))]) ∈ hz_TB := hz_tb (hz_t6 _ (List.mem_of_getElem? (i := 95) rfl)) rfl
theorem tw_6_96 : (Jvm.Cond.methodLink "HotStepsLaw" (86 : Nat) ({ cls := "HotSteps", name := "set", desc := "(II)I" } : Jvm.MethodName)) ∈ hz_TB := hz_tb (hz_t6 _ (List.mem_of_getElem? (i := 96) rfl)) rfl
theorem tw_6_106 : (Jvm.Cond.codeWith ({ cls := "HotStepsLaw", name := "save", desc := "(LHotSteps;I[J)I" } : Jvm.MethodName) method_28_code (4 : Nat) (Option.some Jvm.ClassFile.FieldType.int) [((0 : Nat), (9 : Nat), (12 : Nat), (13 : Nat))]) ∈ hz_TB := hz_tb (hz_t6 _ (List.mem_of_getElem? (i := 106) rfl)) rfl
theorem tw_6_107 : (Jvm.Cond.methodLink "HotStepsLaw" (89 : Nat) ({ cls := "HotSteps", name := "save", desc := "(I)I" } : Jvm.MethodName)) ∈ hz_TB := hz_tb (hz_t6 _ (List.mem_of_getElem? (i := 107) rfl)) rfl
theorem tw_6_120 : (Jvm.Cond.codeWith ({ cls := "HotStepsLaw", name := "restore", desc := "(LHotSteps;I[J)I" } : Jvm.MethodName) method_29_code (4 : Nat) (Option.some Jvm.ClassFile.FieldType.int) [((0 : Nat), (9 : Nat), (12 : Nat), (13 : Nat)), ((0 : Nat), (9 : Nat), (15 : Nat), (95 : Nat))]) ∈ hz_TB := hz_tb (hz_t6 _ (List.mem_of_getElem? (i := 120) rfl)) rfl
theorem tw_6_121 : (Jvm.Cond.classLink "HotStepsLaw" (95 : Nat) "java/util/NoSuchElementException") ∈ hz_TB := hz_tb (hz_t6 _ (List.mem_of_getElem? (i := 121) rfl)) rfl
theorem tw_6_122 : (Jvm.Cond.methodLink "HotStepsLaw" (92 : Nat) ({ cls := "HotSteps", name := "restore", desc := "(I)I" } : Jvm.MethodName)) ∈ hz_TB := hz_tb (hz_t6 _ (List.mem_of_getElem? (i := 122) rfl)) rfl
/-! methods with handlers; the law's long[1] -/
def hz_z2 : hz_Z := ((1, 6), (1, 6))
def hz_Cw (l : Launch) (y : MethodName) (b : ByteArray) (nL : Nat) (ret : Option FieldType) (hh : List (Nat × Nat × Nat × Nat)) (h : Nat) (w : hz_C) (N : Nat) (as : List Value) (M : hz_M) (Qc : Array Value → State → Outcome → State → Prop) : Prop :=
  Met l y (Cond.codeWith y b nL ret hh :: hz_TB) (hz_rm h hz_z1) (hz_Pre w N as M) Qc 1 6 (hz_A w)
theorem hz_goodW {y : MethodName} {b : ByteArray} {n : Nat} {ret : Option FieldType} {hh : List (Nat × Nat × Nat × Nat)} (h : Cond.codeWith y b n ret hh ∈ hz_TB) : GoodIn hz_TB (Cond.codeWith y b n ret hh :: hz_TB) := by
  intro z hz
  rcases List.mem_cons.mp hz with rfl | hz
  · exact hz_good _ h
  · exact hz_good _ hz
section HZD
variable {p : Program} {l : Launch} {e : Env} {h : Nat} {z : hz_Z} {s : State} {m : MethodId} {args : Array Value} {below : List Frame} {meth : Method} {c : Code} {w : hz_C} {N nL : Nat} {Q : State → Prop} {M : hz_M} {pc : Nat} {ls : List (Nat × Value)} {st : List Value} {cc : ByteArray} {own : String} {ret : Option FieldType} {hh : List (Nat × Nat × Nat × Nat)}
theorem hz_up (kk : hz_G p l e h hz_z2 s m args below meth c w N nL Q M pc ls st) : hz_G p l e h hz_z1 s m args below meth c w N nL Q M pc ls st :=
  fun hzk H locs la hW hS hL T hT X => kk ⟨Nat.le_refl _, Nat.le_refl _⟩ H locs la hW hS hL T hT (stand_widen X (Nat.zero_le _) (Nat.zero_le _))
theorem hz_i2l (hO : hz_Ok p s m args meth c w cc nL own ret) {x : Int32} (hdg : decode cc pc = .ok (.i2l, 1)) (kk : hz_G p l e h z s m args below meth c w N nL Q M (pc + 1) ls (.long x.toInt64 :: st)) : hz_G p l e h z s m args below meth c w N nL Q M pc ls (.int x :: st) :=
  fun hzk H locs la hW hS hL => lv_i2l hO.1.1 hO.1.2.1 hdg rfl (kk hzk H locs la hW hS hL)
theorem hz_lald (hO : hz_Ok p s m args meth c w cc nL own ret) {i n : Nat} {x : Int32} (hsh : hz_SH[i]? = some (.inr (.inr (.inr (.inr n))))) (hi : i < N) (hin : hz_in x n = true) (hdg : decode cc pc = .ok (.laload, 1))
    (kk : hz_G p l e h z s m args below meth c w N nL Q M (pc + 1) ls (.long (M i x.toNatClampNeg).toInt64 :: st)) : hz_G p l e h z s m args below meth c w N nL Q M pc ls (.int x :: .ref (hz_ad w i) :: st) :=
  fun hzk H locs la hW hS hL => va_lald (D := hz_D w) hO.1.1 hO.1.2.1 hW.2.1 hW.1 i 4 (hz_ws_at hsh hi) rfl (hz_in_e hin) hdg (kk hzk H locs la hW hS hL)
theorem hz_last (hO : hz_Ok p s m args meth c w cc nL own ret) {i n : Nat} {x v : Int32} (hsh : hz_SH[i]? = some (.inr (.inr (.inr (.inr n))))) (hi : i < N) (hin : hz_in x n = true) (hdg : decode cc pc = .ok (.lastore, 1))
    (kk : hz_G p l e h z s m args below meth c w N nL Q (hz_set M i x.toNatClampNeg v) (pc + 1) ls st) : hz_G p l e h z s m args below meth c w N nL Q M pc ls (.long v.toInt64 :: .int x :: .ref (hz_ad w i) :: st) := by
  intro hzk H locs la hW hS hL
  have e : hz_ws w N (hz_set M i x.toNatClampNeg v) = (hz_ws w N M).set i (hz_ad w i, .inl (hz_tc w 4, n, .inr (.inl (vp_updL (fun j => (M i j).toInt64) x.toNatClampNeg v.toInt64)))) := by
    rw [hz_ws_set (M := M) hsh hz_set_off, hz_set_row]
    have e3 : vp_updL (fun j => (M i j).toInt64) x.toNatClampNeg v.toInt64 = fun j => ((upd (M i) x.toNatClampNeg v) j).toInt64 := by
      funext j
      by_cases hj : j = x.toNatClampNeg <;> simp [vp_updL, upd, hj]
    rw [e3]
    rfl
  refine va_last (D := hz_D w) hO.1.1 hO.1.2.1 hW.2.1 hW.1 hW.2.2.1 hS i 4 (hz_ws_at hsh hi) rfl (hz_in_e hin) hdg (fun H1 locs1 hP hD hS1 => ?_)
  rw [← e] at hP hD
  exact kk hzk H1 locs1 la ⟨hP, hW.2.1, hD, Nat.le_trans hO.2.2.2.2 hS1.1⟩ hS1 hL
theorem hz_ofH {y : MethodName} {as : List Value} {Qc : Array Value → State → Outcome → State → Prop} {C : String} (hy : plainName y.cls = true) (hC : y.cls = C) (hlen : (lg_sl as).length ≤ nL)
    (body : ∀ (p : Program) (e : Env) (s : State) (m : MethodId) (args : Array Value) (below : List Frame) (meth : Method) (c : Code), hz_Ok p s m args meth c w cc nL C ret → c.exceptionTable.toList = tableOf hh → hz_G p l e h hz_z1 s m args below meth c w N nL (MQ below Qc args s 1 6 (hz_A w)) M 0 (lv_args 0 as) []) : hz_Cw l y cc nL ret hh h w N as M Qc := by
  refine va_MetW (cc := cc) (maxL := nL) (ret := ret) hy rfl ?_
  intro p e s m args below meth c s₁ B hml hv
  obtain ⟨rfl, hWd, hX⟩ := hv
  have hts0 := atoms_spec (ws := Cond.codeWith y cc nL ret hh :: hz_TB) B.pre
  have hxt : c.exceptionTable.toList = tableOf hh := vx_table (x := y) B (hts0 _ List.mem_cons_self)
  have hown : s.vm.findClass C = some m.cls := hC ▸ findClass_of_methodNamed B.named
  have hl := lv_entry as (n := nL) hlen
  rw [lg_entry_eq]
  exact body p e s m as.toArray below meth c ⟨⟨B.exec, B.bytes, hml, hown, fun q hq => hts0 q (List.mem_cons_of_mem _ hq)⟩, B.returns, B.notSynchronized, hX, hWd.2.2.2⟩ hxt ⟨Nat.zero_le _, Nat.zero_le _⟩ s.heap [] _ hWd va_S.rf hl
theorem hz_tryV (hO : hz_Ok p s m args meth c w cc nL own ret) (hxt : c.exceptionTable.toList = tableOf hh) {idx n nLy hc i ci nf : Nat} {C : String} {T : u_T} {fs : List (Option Nat)} {y : MethodName} {b : ByteArray} {rt : Option FieldType} {as rest : List Value} {r : Int32} {M1 : hz_M} (hC : hz_Cx l y b nLy rt hc w N (.ref (hz_ad w i) :: as) M r M1) (hcal : hz_CalV C y b nLy rt n) (hKl : hz_Kl ci C T nf) (hsh : hz_SH[i]? = some (.inl (ci, fs))) (hi : i < N) (hlink : Cond.methodLink own idx y ∈ hz_TB) (hle : hc + 1 ≤ h) (hn : as.length = n) (hst : st = as.reverse ++ .ref (hz_ad w i) :: rest) (hcat : (rest.map fun v => v.category).sum ≤ 8) (hdg : decode cc pc = .ok (.invokevirtual idx, 3))
    (pre : List ExceptionTableEntry) (x : ExceptionTableEntry) (suf : List ExceptionTableEntry) (hsplit : tableOf hh = pre ++ x :: suf) {name : String} (hname : name = hz_xn r) (hpass : ∀ q ∈ pre, covers q pc = false ∨ (q.catchType ≠ 0 ∧ ∃ nm : String, Cond.classLink own q.catchType nm ∈ hz_TB ∧ va_Nc name nm s)) (hx : covers x pc = true) (h0 : x.catchType ≠ 0) (hcl : Cond.classLink own x.catchType name ∈ hz_TB) (hcs : name ∈ hz_cst)
    (kk : ∀ q : Nat, hz_G p l e h hz_z2 s m args below meth c w N nL Q M1 x.handlerPc ls [.ref q]) : hz_G p l e h hz_z1 s m args below meth c w N nL Q M pc ls st := by
  intro hzk H locs la hW hS hL
  have hts := hO.1.2.2.2.2
  have cw : CallW (hz_rm h hz_z1) s args own C idx y b nLy rt (Cond.code y b nLy rt :: hz_TB) (hz_rm hc hz_z1) 1 6 n := by
    refine ⟨callB_of n hts (hz_goodC hcal.1.1) rfl rfl rfl ?_ (hts _ hlink) hcal.1.2.2.1.2 ⟨(hz_fit (z := hz_z1) hle hcal.1.2.2.2).1, (hz_fit (z := hz_z1) hle hcal.1.2.2.2).2⟩, hts _ hcal.2.1, hts _ hcal.2.2⟩
    rw [hcal.1.2.2.1.1]
    exact hts _ hcal.1.2.1
  refine vx_callv (AX := hz_A w) (vx_runV (As := as) (rest := rest) hO.1 hC cw ⟨hz_blind, va_recv hW.2.1 hW.1 (ci := ci) (q0 := i) hKl.1 (hz_ws_at hsh hi), hz_pre hO hW hS⟩ rfl hn hL.1 hst (lv_room hcat) hdg ⟨Nat.le_refl 1, Nat.le_refl 6⟩) hS (fun q _ z => z) (fun q z => z) (fun q _ z => z) ?_ (fun u t H1 locs1 ht hvm hr => hr.elim)
  intro E ce q9 u t H1 locs1 ht hal hp hB hsz hk1 hS1 hce hcv hcl9
  have hE : E = name := hB.1.trans hname.symm
  subst hE
  refine vx_catch hO.1.2.2.2.1 pre x suf (hxt.trans hsplit) (fun q hq => ?_) hx h0 (hts _ hcl) (va_Nw.use (A := args) rfl (hO.2.2.2.1.2.2.2.2.2.2.2.2.2.2.1 E hcs)) hce hcv hcl9 ?_
  · rcases hpass q hq with h1 | ⟨h1, nm, h2, h3⟩
    · exact Or.inl h1
    · exact Or.inr ⟨h1, nm, hts _ h2, h3⟩
  · exact kk q9 ⟨Nat.le_refl _, Nat.le_refl _⟩ H1 locs1 la (hz_back ht hal hB.2) hS1 hL
end HZD
theorem dL_size_0 : decode cL_size 0 = .ok (.aload_n 2, 1) := by decide +kernel
theorem dL_size_1 : decode cL_size 1 = .ok (.iconst 0, 1) := by decide +kernel
theorem dL_size_2 : decode cL_size 2 = .ok (.aload_n 0, 1) := by decide +kernel
theorem dL_size_3 : decode cL_size 3 = .ok (.iload_n 1, 1) := by decide +kernel
theorem dL_size_4 : decode cL_size 4 = .ok (.invokevirtual 7, 3) := by decide +kernel
theorem dL_size_7 : decode cL_size 7 = .ok (.i2l, 1) := by decide +kernel
theorem dL_size_8 : decode cL_size 8 = .ok (.lastore, 1) := by decide +kernel
theorem dL_size_9 : decode cL_size 9 = .ok (.goto 6, 3) := by decide +kernel
theorem dL_size_12 : decode cL_size 12 = .ok (.astore_n 3, 1) := by decide +kernel
theorem dL_size_13 : decode cL_size 13 = .ok (.iconst 1, 1) := by decide +kernel
theorem dL_size_14 : decode cL_size 14 = .ok (.ireturn, 1) := by decide +kernel
theorem dL_size_15 : decode cL_size 15 = .ok (.iconst 0, 1) := by decide +kernel
theorem dL_size_16 : decode cL_size 16 = .ok (.ireturn, 1) := by decide +kernel
theorem dL_guest_0 : decode cL_guest 0 = .ok (.aload_n 3, 1) := by decide +kernel
theorem dL_guest_1 : decode cL_guest 1 = .ok (.iconst 0, 1) := by decide +kernel
theorem dL_guest_2 : decode cL_guest 2 = .ok (.aload_n 0, 1) := by decide +kernel
theorem dL_guest_3 : decode cL_guest 3 = .ok (.iload_n 1, 1) := by decide +kernel
theorem dL_guest_4 : decode cL_guest 4 = .ok (.iload_n 2, 1) := by decide +kernel
theorem dL_guest_5 : decode cL_guest 5 = .ok (.invokevirtual 15, 3) := by decide +kernel
theorem dL_guest_8 : decode cL_guest 8 = .ok (.i2l, 1) := by decide +kernel
theorem dL_guest_9 : decode cL_guest 9 = .ok (.lastore, 1) := by decide +kernel
theorem dL_guest_10 : decode cL_guest 10 = .ok (.goto 7, 3) := by decide +kernel
theorem dL_guest_13 : decode cL_guest 13 = .ok (.astore 4, 2) := by decide +kernel
theorem dL_guest_15 : decode cL_guest 15 = .ok (.iconst 1, 1) := by decide +kernel
theorem dL_guest_16 : decode cL_guest 16 = .ok (.ireturn, 1) := by decide +kernel
theorem dL_guest_17 : decode cL_guest 17 = .ok (.iconst 0, 1) := by decide +kernel
theorem dL_guest_18 : decode cL_guest 18 = .ok (.ireturn, 1) := by decide +kernel
theorem dL_towel_0 : decode cL_towel 0 = .ok (.aload_n 3, 1) := by decide +kernel
theorem dL_towel_1 : decode cL_towel 1 = .ok (.iconst 0, 1) := by decide +kernel
theorem dL_towel_2 : decode cL_towel 2 = .ok (.aload_n 0, 1) := by decide +kernel
theorem dL_towel_3 : decode cL_towel 3 = .ok (.iload_n 1, 1) := by decide +kernel
theorem dL_towel_4 : decode cL_towel 4 = .ok (.iload_n 2, 1) := by decide +kernel
theorem dL_towel_5 : decode cL_towel 5 = .ok (.invokevirtual 19, 3) := by decide +kernel
theorem dL_towel_8 : decode cL_towel 8 = .ok (.i2l, 1) := by decide +kernel
theorem dL_towel_9 : decode cL_towel 9 = .ok (.lastore, 1) := by decide +kernel
theorem dL_towel_10 : decode cL_towel 10 = .ok (.goto 7, 3) := by decide +kernel
theorem dL_towel_13 : decode cL_towel 13 = .ok (.astore 4, 2) := by decide +kernel
theorem dL_towel_15 : decode cL_towel 15 = .ok (.iconst 1, 1) := by decide +kernel
theorem dL_towel_16 : decode cL_towel 16 = .ok (.ireturn, 1) := by decide +kernel
theorem dL_towel_17 : decode cL_towel 17 = .ok (.iconst 0, 1) := by decide +kernel
theorem dL_towel_18 : decode cL_towel 18 = .ok (.ireturn, 1) := by decide +kernel
theorem dL_peg_0 : decode cL_peg 0 = .ok (.aload_n 2, 1) := by decide +kernel
theorem dL_peg_1 : decode cL_peg 1 = .ok (.iconst 0, 1) := by decide +kernel
theorem dL_peg_2 : decode cL_peg 2 = .ok (.aload_n 0, 1) := by decide +kernel
theorem dL_peg_3 : decode cL_peg 3 = .ok (.iload_n 1, 1) := by decide +kernel
theorem dL_peg_4 : decode cL_peg 4 = .ok (.invokevirtual 22, 3) := by decide +kernel
theorem dL_peg_7 : decode cL_peg 7 = .ok (.i2l, 1) := by decide +kernel
theorem dL_peg_8 : decode cL_peg 8 = .ok (.lastore, 1) := by decide +kernel
theorem dL_peg_9 : decode cL_peg 9 = .ok (.goto 6, 3) := by decide +kernel
theorem dL_peg_12 : decode cL_peg 12 = .ok (.astore_n 3, 1) := by decide +kernel
theorem dL_peg_13 : decode cL_peg 13 = .ok (.iconst 1, 1) := by decide +kernel
theorem dL_peg_14 : decode cL_peg 14 = .ok (.ireturn, 1) := by decide +kernel
theorem dL_peg_15 : decode cL_peg 15 = .ok (.iconst 0, 1) := by decide +kernel
theorem dL_peg_16 : decode cL_peg 16 = .ok (.ireturn, 1) := by decide +kernel
theorem dL_locker_0 : decode cL_locker 0 = .ok (.aload_n 2, 1) := by decide +kernel
theorem dL_locker_1 : decode cL_locker 1 = .ok (.iconst 0, 1) := by decide +kernel
theorem dL_locker_2 : decode cL_locker 2 = .ok (.aload_n 0, 1) := by decide +kernel
theorem dL_locker_3 : decode cL_locker 3 = .ok (.iload_n 1, 1) := by decide +kernel
theorem dL_locker_4 : decode cL_locker 4 = .ok (.invokevirtual 25, 3) := by decide +kernel
theorem dL_locker_7 : decode cL_locker 7 = .ok (.i2l, 1) := by decide +kernel
theorem dL_locker_8 : decode cL_locker 8 = .ok (.lastore, 1) := by decide +kernel
theorem dL_locker_9 : decode cL_locker 9 = .ok (.goto 6, 3) := by decide +kernel
theorem dL_locker_12 : decode cL_locker 12 = .ok (.astore_n 3, 1) := by decide +kernel
theorem dL_locker_13 : decode cL_locker 13 = .ok (.iconst 1, 1) := by decide +kernel
theorem dL_locker_14 : decode cL_locker 14 = .ok (.ireturn, 1) := by decide +kernel
theorem dL_locker_15 : decode cL_locker 15 = .ok (.iconst 0, 1) := by decide +kernel
theorem dL_locker_16 : decode cL_locker 16 = .ok (.ireturn, 1) := by decide +kernel
theorem dL_opening_0 : decode cL_opening 0 = .ok (.aload_n 2, 1) := by decide +kernel
theorem dL_opening_1 : decode cL_opening 1 = .ok (.iconst 0, 1) := by decide +kernel
theorem dL_opening_2 : decode cL_opening 2 = .ok (.aload_n 0, 1) := by decide +kernel
theorem dL_opening_3 : decode cL_opening 3 = .ok (.iload_n 1, 1) := by decide +kernel
theorem dL_opening_4 : decode cL_opening 4 = .ok (.invokevirtual 28, 3) := by decide +kernel
theorem dL_opening_7 : decode cL_opening 7 = .ok (.i2l, 1) := by decide +kernel
theorem dL_opening_8 : decode cL_opening 8 = .ok (.lastore, 1) := by decide +kernel
theorem dL_opening_9 : decode cL_opening 9 = .ok (.goto 6, 3) := by decide +kernel
theorem dL_opening_12 : decode cL_opening 12 = .ok (.astore_n 3, 1) := by decide +kernel
theorem dL_opening_13 : decode cL_opening 13 = .ok (.iconst 1, 1) := by decide +kernel
theorem dL_opening_14 : decode cL_opening 14 = .ok (.ireturn, 1) := by decide +kernel
theorem dL_opening_15 : decode cL_opening 15 = .ok (.iconst 0, 1) := by decide +kernel
theorem dL_opening_16 : decode cL_opening 16 = .ok (.ireturn, 1) := by decide +kernel
theorem dL_step_0 : decode cL_step 0 = .ok (.aload_n 3, 1) := by decide +kernel
theorem dL_step_1 : decode cL_step 1 = .ok (.iconst 0, 1) := by decide +kernel
theorem dL_step_2 : decode cL_step 2 = .ok (.aload_n 0, 1) := by decide +kernel
theorem dL_step_3 : decode cL_step 3 = .ok (.iload_n 1, 1) := by decide +kernel
theorem dL_step_4 : decode cL_step 4 = .ok (.iload_n 2, 1) := by decide +kernel
theorem dL_step_5 : decode cL_step 5 = .ok (.invokevirtual 31, 3) := by decide +kernel
theorem dL_step_8 : decode cL_step 8 = .ok (.i2l, 1) := by decide +kernel
theorem dL_step_9 : decode cL_step 9 = .ok (.lastore, 1) := by decide +kernel
theorem dL_step_10 : decode cL_step 10 = .ok (.goto 7, 3) := by decide +kernel
theorem dL_step_13 : decode cL_step 13 = .ok (.astore 4, 2) := by decide +kernel
theorem dL_step_15 : decode cL_step 15 = .ok (.iconst 1, 1) := by decide +kernel
theorem dL_step_16 : decode cL_step 16 = .ok (.ireturn, 1) := by decide +kernel
theorem dL_step_17 : decode cL_step 17 = .ok (.iconst 0, 1) := by decide +kernel
theorem dL_step_18 : decode cL_step 18 = .ok (.ireturn, 1) := by decide +kernel
theorem dL_letter_0 : decode cL_letter 0 = .ok (.aload_n 3, 1) := by decide +kernel
theorem dL_letter_1 : decode cL_letter 1 = .ok (.iconst 0, 1) := by decide +kernel
theorem dL_letter_2 : decode cL_letter 2 = .ok (.aload_n 0, 1) := by decide +kernel
theorem dL_letter_3 : decode cL_letter 3 = .ok (.iload_n 1, 1) := by decide +kernel
theorem dL_letter_4 : decode cL_letter 4 = .ok (.iload_n 2, 1) := by decide +kernel
theorem dL_letter_5 : decode cL_letter 5 = .ok (.invokevirtual 34, 3) := by decide +kernel
theorem dL_letter_8 : decode cL_letter 8 = .ok (.i2l, 1) := by decide +kernel
theorem dL_letter_9 : decode cL_letter 9 = .ok (.lastore, 1) := by decide +kernel
theorem dL_letter_10 : decode cL_letter 10 = .ok (.goto 7, 3) := by decide +kernel
theorem dL_letter_13 : decode cL_letter 13 = .ok (.astore 4, 2) := by decide +kernel
theorem dL_letter_15 : decode cL_letter 15 = .ok (.iconst 1, 1) := by decide +kernel
theorem dL_letter_16 : decode cL_letter 16 = .ok (.ireturn, 1) := by decide +kernel
theorem dL_letter_17 : decode cL_letter 17 = .ok (.iconst 0, 1) := by decide +kernel
theorem dL_letter_18 : decode cL_letter 18 = .ok (.ireturn, 1) := by decide +kernel
theorem dL_why_0 : decode cL_why 0 = .ok (.aload 4, 2) := by decide +kernel
theorem dL_why_2 : decode cL_why 2 = .ok (.iconst 0, 1) := by decide +kernel
theorem dL_why_3 : decode cL_why 3 = .ok (.aload_n 0, 1) := by decide +kernel
theorem dL_why_4 : decode cL_why 4 = .ok (.iload_n 1, 1) := by decide +kernel
theorem dL_why_5 : decode cL_why 5 = .ok (.iload_n 2, 1) := by decide +kernel
theorem dL_why_6 : decode cL_why 6 = .ok (.iload_n 3, 1) := by decide +kernel
theorem dL_why_7 : decode cL_why 7 = .ok (.invokevirtual 37, 3) := by decide +kernel
theorem dL_why_10 : decode cL_why 10 = .ok (.i2l, 1) := by decide +kernel
theorem dL_why_11 : decode cL_why 11 = .ok (.lastore, 1) := by decide +kernel
theorem dL_why_12 : decode cL_why 12 = .ok (.goto 7, 3) := by decide +kernel
theorem dL_why_15 : decode cL_why 15 = .ok (.astore 5, 2) := by decide +kernel
theorem dL_why_17 : decode cL_why 17 = .ok (.iconst 1, 1) := by decide +kernel
theorem dL_why_18 : decode cL_why 18 = .ok (.ireturn, 1) := by decide +kernel
theorem dL_why_19 : decode cL_why 19 = .ok (.iconst 0, 1) := by decide +kernel
theorem dL_why_20 : decode cL_why 20 = .ok (.ireturn, 1) := by decide +kernel
theorem dL_highest_0 : decode cL_highest 0 = .ok (.aload_n 2, 1) := by decide +kernel
theorem dL_highest_1 : decode cL_highest 1 = .ok (.iconst 0, 1) := by decide +kernel
theorem dL_highest_2 : decode cL_highest 2 = .ok (.aload_n 0, 1) := by decide +kernel
theorem dL_highest_3 : decode cL_highest 3 = .ok (.iload_n 1, 1) := by decide +kernel
theorem dL_highest_4 : decode cL_highest 4 = .ok (.invokevirtual 41, 3) := by decide +kernel
theorem dL_highest_7 : decode cL_highest 7 = .ok (.i2l, 1) := by decide +kernel
theorem dL_highest_8 : decode cL_highest 8 = .ok (.lastore, 1) := by decide +kernel
theorem dL_highest_9 : decode cL_highest 9 = .ok (.goto 6, 3) := by decide +kernel
theorem dL_highest_12 : decode cL_highest 12 = .ok (.astore_n 3, 1) := by decide +kernel
theorem dL_highest_13 : decode cL_highest 13 = .ok (.iconst 1, 1) := by decide +kernel
theorem dL_highest_14 : decode cL_highest 14 = .ok (.ireturn, 1) := by decide +kernel
theorem dL_highest_15 : decode cL_highest 15 = .ok (.iconst 0, 1) := by decide +kernel
theorem dL_highest_16 : decode cL_highest 16 = .ok (.ireturn, 1) := by decide +kernel
theorem dL_account_0 : decode cL_account 0 = .ok (.aload_n 2, 1) := by decide +kernel
theorem dL_account_1 : decode cL_account 1 = .ok (.iconst 0, 1) := by decide +kernel
theorem dL_account_2 : decode cL_account 2 = .ok (.aload_n 0, 1) := by decide +kernel
theorem dL_account_3 : decode cL_account 3 = .ok (.iload_n 1, 1) := by decide +kernel
theorem dL_account_4 : decode cL_account 4 = .ok (.invokevirtual 44, 3) := by decide +kernel
theorem dL_account_7 : decode cL_account 7 = .ok (.i2l, 1) := by decide +kernel
theorem dL_account_8 : decode cL_account 8 = .ok (.lastore, 1) := by decide +kernel
theorem dL_account_9 : decode cL_account 9 = .ok (.goto 6, 3) := by decide +kernel
theorem dL_account_12 : decode cL_account 12 = .ok (.astore_n 3, 1) := by decide +kernel
theorem dL_account_13 : decode cL_account 13 = .ok (.iconst 1, 1) := by decide +kernel
theorem dL_account_14 : decode cL_account 14 = .ok (.ireturn, 1) := by decide +kernel
theorem dL_account_15 : decode cL_account 15 = .ok (.iconst 0, 1) := by decide +kernel
theorem dL_account_16 : decode cL_account 16 = .ok (.ireturn, 1) := by decide +kernel
theorem dL_heatIn_0 : decode cL_heatIn 0 = .ok (.aload_n 2, 1) := by decide +kernel
theorem dL_heatIn_1 : decode cL_heatIn 1 = .ok (.iconst 0, 1) := by decide +kernel
theorem dL_heatIn_2 : decode cL_heatIn 2 = .ok (.aload_n 0, 1) := by decide +kernel
theorem dL_heatIn_3 : decode cL_heatIn 3 = .ok (.iload_n 1, 1) := by decide +kernel
theorem dL_heatIn_4 : decode cL_heatIn 4 = .ok (.invokevirtual 47, 3) := by decide +kernel
theorem dL_heatIn_7 : decode cL_heatIn 7 = .ok (.i2l, 1) := by decide +kernel
theorem dL_heatIn_8 : decode cL_heatIn 8 = .ok (.lastore, 1) := by decide +kernel
theorem dL_heatIn_9 : decode cL_heatIn 9 = .ok (.goto 6, 3) := by decide +kernel
theorem dL_heatIn_12 : decode cL_heatIn 12 = .ok (.astore_n 3, 1) := by decide +kernel
theorem dL_heatIn_13 : decode cL_heatIn 13 = .ok (.iconst 1, 1) := by decide +kernel
theorem dL_heatIn_14 : decode cL_heatIn 14 = .ok (.ireturn, 1) := by decide +kernel
theorem dL_heatIn_15 : decode cL_heatIn 15 = .ok (.iconst 0, 1) := by decide +kernel
theorem dL_heatIn_16 : decode cL_heatIn 16 = .ok (.ireturn, 1) := by decide +kernel
theorem dL_downIn_0 : decode cL_downIn 0 = .ok (.aload_n 2, 1) := by decide +kernel
theorem dL_downIn_1 : decode cL_downIn 1 = .ok (.iconst 0, 1) := by decide +kernel
theorem dL_downIn_2 : decode cL_downIn 2 = .ok (.aload_n 0, 1) := by decide +kernel
theorem dL_downIn_3 : decode cL_downIn 3 = .ok (.iload_n 1, 1) := by decide +kernel
theorem dL_downIn_4 : decode cL_downIn 4 = .ok (.invokevirtual 50, 3) := by decide +kernel
theorem dL_downIn_7 : decode cL_downIn 7 = .ok (.i2l, 1) := by decide +kernel
theorem dL_downIn_8 : decode cL_downIn 8 = .ok (.lastore, 1) := by decide +kernel
theorem dL_downIn_9 : decode cL_downIn 9 = .ok (.goto 6, 3) := by decide +kernel
theorem dL_downIn_12 : decode cL_downIn 12 = .ok (.astore_n 3, 1) := by decide +kernel
theorem dL_downIn_13 : decode cL_downIn 13 = .ok (.iconst 1, 1) := by decide +kernel
theorem dL_downIn_14 : decode cL_downIn 14 = .ok (.ireturn, 1) := by decide +kernel
theorem dL_downIn_15 : decode cL_downIn 15 = .ok (.iconst 0, 1) := by decide +kernel
theorem dL_downIn_16 : decode cL_downIn 16 = .ok (.ireturn, 1) := by decide +kernel
theorem dL_dryIn_0 : decode cL_dryIn 0 = .ok (.aload_n 2, 1) := by decide +kernel
theorem dL_dryIn_1 : decode cL_dryIn 1 = .ok (.iconst 0, 1) := by decide +kernel
theorem dL_dryIn_2 : decode cL_dryIn 2 = .ok (.aload_n 0, 1) := by decide +kernel
theorem dL_dryIn_3 : decode cL_dryIn 3 = .ok (.iload_n 1, 1) := by decide +kernel
theorem dL_dryIn_4 : decode cL_dryIn 4 = .ok (.invokevirtual 53, 3) := by decide +kernel
theorem dL_dryIn_7 : decode cL_dryIn 7 = .ok (.i2l, 1) := by decide +kernel
theorem dL_dryIn_8 : decode cL_dryIn 8 = .ok (.lastore, 1) := by decide +kernel
theorem dL_dryIn_9 : decode cL_dryIn 9 = .ok (.goto 6, 3) := by decide +kernel
theorem dL_dryIn_12 : decode cL_dryIn 12 = .ok (.astore_n 3, 1) := by decide +kernel
theorem dL_dryIn_13 : decode cL_dryIn 13 = .ok (.iconst 1, 1) := by decide +kernel
theorem dL_dryIn_14 : decode cL_dryIn 14 = .ok (.ireturn, 1) := by decide +kernel
theorem dL_dryIn_15 : decode cL_dryIn 15 = .ok (.iconst 0, 1) := by decide +kernel
theorem dL_dryIn_16 : decode cL_dryIn 16 = .ok (.ireturn, 1) := by decide +kernel
theorem dL_ifValve_0 : decode cL_ifValve 0 = .ok (.aload_n 3, 1) := by decide +kernel
theorem dL_ifValve_1 : decode cL_ifValve 1 = .ok (.iconst 0, 1) := by decide +kernel
theorem dL_ifValve_2 : decode cL_ifValve 2 = .ok (.aload_n 0, 1) := by decide +kernel
theorem dL_ifValve_3 : decode cL_ifValve 3 = .ok (.iload_n 1, 1) := by decide +kernel
theorem dL_ifValve_4 : decode cL_ifValve 4 = .ok (.iload_n 2, 1) := by decide +kernel
theorem dL_ifValve_5 : decode cL_ifValve 5 = .ok (.invokevirtual 56, 3) := by decide +kernel
theorem dL_ifValve_8 : decode cL_ifValve 8 = .ok (.i2l, 1) := by decide +kernel
theorem dL_ifValve_9 : decode cL_ifValve 9 = .ok (.lastore, 1) := by decide +kernel
theorem dL_ifValve_10 : decode cL_ifValve 10 = .ok (.goto 7, 3) := by decide +kernel
theorem dL_ifValve_13 : decode cL_ifValve 13 = .ok (.astore 4, 2) := by decide +kernel
theorem dL_ifValve_15 : decode cL_ifValve 15 = .ok (.iconst 1, 1) := by decide +kernel
theorem dL_ifValve_16 : decode cL_ifValve 16 = .ok (.ireturn, 1) := by decide +kernel
theorem dL_ifValve_17 : decode cL_ifValve 17 = .ok (.iconst 0, 1) := by decide +kernel
theorem dL_ifValve_18 : decode cL_ifValve 18 = .ok (.ireturn, 1) := by decide +kernel
theorem dL_enter_0 : decode cL_enter 0 = .ok (.aload_n 2, 1) := by decide +kernel
theorem dL_enter_1 : decode cL_enter 1 = .ok (.iconst 0, 1) := by decide +kernel
theorem dL_enter_2 : decode cL_enter 2 = .ok (.aload_n 0, 1) := by decide +kernel
theorem dL_enter_3 : decode cL_enter 3 = .ok (.iload_n 1, 1) := by decide +kernel
theorem dL_enter_4 : decode cL_enter 4 = .ok (.invokevirtual 59, 3) := by decide +kernel
theorem dL_enter_7 : decode cL_enter 7 = .ok (.i2l, 1) := by decide +kernel
theorem dL_enter_8 : decode cL_enter 8 = .ok (.lastore, 1) := by decide +kernel
theorem dL_enter_9 : decode cL_enter 9 = .ok (.goto 6, 3) := by decide +kernel
theorem dL_enter_12 : decode cL_enter 12 = .ok (.astore_n 3, 1) := by decide +kernel
theorem dL_enter_13 : decode cL_enter 13 = .ok (.iconst 1, 1) := by decide +kernel
theorem dL_enter_14 : decode cL_enter 14 = .ok (.ireturn, 1) := by decide +kernel
theorem dL_enter_15 : decode cL_enter 15 = .ok (.iconst 0, 1) := by decide +kernel
theorem dL_enter_16 : decode cL_enter 16 = .ok (.ireturn, 1) := by decide +kernel
theorem dL_sit_0 : decode cL_sit 0 = .ok (.aload_n 3, 1) := by decide +kernel
theorem dL_sit_1 : decode cL_sit 1 = .ok (.iconst 0, 1) := by decide +kernel
theorem dL_sit_2 : decode cL_sit 2 = .ok (.aload_n 0, 1) := by decide +kernel
theorem dL_sit_3 : decode cL_sit 3 = .ok (.iload_n 1, 1) := by decide +kernel
theorem dL_sit_4 : decode cL_sit 4 = .ok (.iload_n 2, 1) := by decide +kernel
theorem dL_sit_5 : decode cL_sit 5 = .ok (.invokevirtual 62, 3) := by decide +kernel
theorem dL_sit_8 : decode cL_sit 8 = .ok (.i2l, 1) := by decide +kernel
theorem dL_sit_9 : decode cL_sit 9 = .ok (.lastore, 1) := by decide +kernel
theorem dL_sit_10 : decode cL_sit 10 = .ok (.goto 7, 3) := by decide +kernel
theorem dL_sit_13 : decode cL_sit 13 = .ok (.astore 4, 2) := by decide +kernel
theorem dL_sit_15 : decode cL_sit 15 = .ok (.iconst 1, 1) := by decide +kernel
theorem dL_sit_16 : decode cL_sit 16 = .ok (.ireturn, 1) := by decide +kernel
theorem dL_sit_17 : decode cL_sit 17 = .ok (.iconst 0, 1) := by decide +kernel
theorem dL_sit_18 : decode cL_sit 18 = .ok (.ireturn, 1) := by decide +kernel
theorem dL_hall_0 : decode cL_hall 0 = .ok (.aload_n 2, 1) := by decide +kernel
theorem dL_hall_1 : decode cL_hall 1 = .ok (.iconst 0, 1) := by decide +kernel
theorem dL_hall_2 : decode cL_hall 2 = .ok (.aload_n 0, 1) := by decide +kernel
theorem dL_hall_3 : decode cL_hall 3 = .ok (.iload_n 1, 1) := by decide +kernel
theorem dL_hall_4 : decode cL_hall 4 = .ok (.invokevirtual 65, 3) := by decide +kernel
theorem dL_hall_7 : decode cL_hall 7 = .ok (.i2l, 1) := by decide +kernel
theorem dL_hall_8 : decode cL_hall 8 = .ok (.lastore, 1) := by decide +kernel
theorem dL_hall_9 : decode cL_hall 9 = .ok (.goto 6, 3) := by decide +kernel
theorem dL_hall_12 : decode cL_hall 12 = .ok (.astore_n 3, 1) := by decide +kernel
theorem dL_hall_13 : decode cL_hall 13 = .ok (.iconst 1, 1) := by decide +kernel
theorem dL_hall_14 : decode cL_hall 14 = .ok (.ireturn, 1) := by decide +kernel
theorem dL_hall_15 : decode cL_hall 15 = .ok (.iconst 0, 1) := by decide +kernel
theorem dL_hall_16 : decode cL_hall 16 = .ok (.ireturn, 1) := by decide +kernel
theorem dL_hang_0 : decode cL_hang 0 = .ok (.aload_n 3, 1) := by decide +kernel
theorem dL_hang_1 : decode cL_hang 1 = .ok (.iconst 0, 1) := by decide +kernel
theorem dL_hang_2 : decode cL_hang 2 = .ok (.aload_n 0, 1) := by decide +kernel
theorem dL_hang_3 : decode cL_hang 3 = .ok (.iload_n 1, 1) := by decide +kernel
theorem dL_hang_4 : decode cL_hang 4 = .ok (.iload_n 2, 1) := by decide +kernel
theorem dL_hang_5 : decode cL_hang 5 = .ok (.invokevirtual 68, 3) := by decide +kernel
theorem dL_hang_8 : decode cL_hang 8 = .ok (.i2l, 1) := by decide +kernel
theorem dL_hang_9 : decode cL_hang 9 = .ok (.lastore, 1) := by decide +kernel
theorem dL_hang_10 : decode cL_hang 10 = .ok (.goto 7, 3) := by decide +kernel
theorem dL_hang_13 : decode cL_hang 13 = .ok (.astore 4, 2) := by decide +kernel
theorem dL_hang_15 : decode cL_hang 15 = .ok (.iconst 1, 1) := by decide +kernel
theorem dL_hang_16 : decode cL_hang 16 = .ok (.ireturn, 1) := by decide +kernel
theorem dL_hang_17 : decode cL_hang 17 = .ok (.iconst 0, 1) := by decide +kernel
theorem dL_hang_18 : decode cL_hang 18 = .ok (.ireturn, 1) := by decide +kernel
theorem dL_take_0 : decode cL_take 0 = .ok (.aload_n 3, 1) := by decide +kernel
theorem dL_take_1 : decode cL_take 1 = .ok (.iconst 0, 1) := by decide +kernel
theorem dL_take_2 : decode cL_take 2 = .ok (.aload_n 0, 1) := by decide +kernel
theorem dL_take_3 : decode cL_take 3 = .ok (.iload_n 1, 1) := by decide +kernel
theorem dL_take_4 : decode cL_take 4 = .ok (.iload_n 2, 1) := by decide +kernel
theorem dL_take_5 : decode cL_take 5 = .ok (.invokevirtual 71, 3) := by decide +kernel
theorem dL_take_8 : decode cL_take 8 = .ok (.i2l, 1) := by decide +kernel
theorem dL_take_9 : decode cL_take 9 = .ok (.lastore, 1) := by decide +kernel
theorem dL_take_10 : decode cL_take 10 = .ok (.goto 7, 3) := by decide +kernel
theorem dL_take_13 : decode cL_take 13 = .ok (.astore 4, 2) := by decide +kernel
theorem dL_take_15 : decode cL_take 15 = .ok (.iconst 1, 1) := by decide +kernel
theorem dL_take_16 : decode cL_take 16 = .ok (.ireturn, 1) := by decide +kernel
theorem dL_take_17 : decode cL_take 17 = .ok (.iconst 0, 1) := by decide +kernel
theorem dL_take_18 : decode cL_take 18 = .ok (.ireturn, 1) := by decide +kernel
theorem dL_leave_0 : decode cL_leave 0 = .ok (.aload_n 2, 1) := by decide +kernel
theorem dL_leave_1 : decode cL_leave 1 = .ok (.iconst 0, 1) := by decide +kernel
theorem dL_leave_2 : decode cL_leave 2 = .ok (.aload_n 0, 1) := by decide +kernel
theorem dL_leave_3 : decode cL_leave 3 = .ok (.iload_n 1, 1) := by decide +kernel
theorem dL_leave_4 : decode cL_leave 4 = .ok (.invokevirtual 74, 3) := by decide +kernel
theorem dL_leave_7 : decode cL_leave 7 = .ok (.i2l, 1) := by decide +kernel
theorem dL_leave_8 : decode cL_leave 8 = .ok (.lastore, 1) := by decide +kernel
theorem dL_leave_9 : decode cL_leave 9 = .ok (.goto 6, 3) := by decide +kernel
theorem dL_leave_12 : decode cL_leave 12 = .ok (.astore_n 3, 1) := by decide +kernel
theorem dL_leave_13 : decode cL_leave 13 = .ok (.iconst 1, 1) := by decide +kernel
theorem dL_leave_14 : decode cL_leave 14 = .ok (.ireturn, 1) := by decide +kernel
theorem dL_leave_15 : decode cL_leave 15 = .ok (.iconst 0, 1) := by decide +kernel
theorem dL_leave_16 : decode cL_leave 16 = .ok (.ireturn, 1) := by decide +kernel
theorem dL_speak_0 : decode cL_speak 0 = .ok (.aload_n 2, 1) := by decide +kernel
theorem dL_speak_1 : decode cL_speak 1 = .ok (.iconst 0, 1) := by decide +kernel
theorem dL_speak_2 : decode cL_speak 2 = .ok (.aload_n 0, 1) := by decide +kernel
theorem dL_speak_3 : decode cL_speak 3 = .ok (.iload_n 1, 1) := by decide +kernel
theorem dL_speak_4 : decode cL_speak 4 = .ok (.invokevirtual 77, 3) := by decide +kernel
theorem dL_speak_7 : decode cL_speak 7 = .ok (.i2l, 1) := by decide +kernel
theorem dL_speak_8 : decode cL_speak 8 = .ok (.lastore, 1) := by decide +kernel
theorem dL_speak_9 : decode cL_speak 9 = .ok (.goto 6, 3) := by decide +kernel
theorem dL_speak_12 : decode cL_speak 12 = .ok (.astore_n 3, 1) := by decide +kernel
theorem dL_speak_13 : decode cL_speak 13 = .ok (.iconst 1, 1) := by decide +kernel
theorem dL_speak_14 : decode cL_speak 14 = .ok (.ireturn, 1) := by decide +kernel
theorem dL_speak_15 : decode cL_speak 15 = .ok (.iconst 0, 1) := by decide +kernel
theorem dL_speak_16 : decode cL_speak 16 = .ok (.ireturn, 1) := by decide +kernel
theorem dL_valve_0 : decode cL_valve 0 = .ok (.aload_n 3, 1) := by decide +kernel
theorem dL_valve_1 : decode cL_valve 1 = .ok (.iconst 0, 1) := by decide +kernel
theorem dL_valve_2 : decode cL_valve 2 = .ok (.aload_n 0, 1) := by decide +kernel
theorem dL_valve_3 : decode cL_valve 3 = .ok (.iload_n 1, 1) := by decide +kernel
theorem dL_valve_4 : decode cL_valve 4 = .ok (.iload_n 2, 1) := by decide +kernel
theorem dL_valve_5 : decode cL_valve 5 = .ok (.invokevirtual 80, 3) := by decide +kernel
theorem dL_valve_8 : decode cL_valve 8 = .ok (.i2l, 1) := by decide +kernel
theorem dL_valve_9 : decode cL_valve 9 = .ok (.lastore, 1) := by decide +kernel
theorem dL_valve_10 : decode cL_valve 10 = .ok (.goto 7, 3) := by decide +kernel
theorem dL_valve_13 : decode cL_valve 13 = .ok (.astore 4, 2) := by decide +kernel
theorem dL_valve_15 : decode cL_valve 15 = .ok (.iconst 1, 1) := by decide +kernel
theorem dL_valve_16 : decode cL_valve 16 = .ok (.ireturn, 1) := by decide +kernel
theorem dL_valve_17 : decode cL_valve 17 = .ok (.iconst 0, 1) := by decide +kernel
theorem dL_valve_18 : decode cL_valve 18 = .ok (.ireturn, 1) := by decide +kernel
theorem dL_waits_0 : decode cL_waits 0 = .ok (.aload_n 2, 1) := by decide +kernel
theorem dL_waits_1 : decode cL_waits 1 = .ok (.iconst 0, 1) := by decide +kernel
theorem dL_waits_2 : decode cL_waits 2 = .ok (.aload_n 0, 1) := by decide +kernel
theorem dL_waits_3 : decode cL_waits 3 = .ok (.iload_n 1, 1) := by decide +kernel
theorem dL_waits_4 : decode cL_waits 4 = .ok (.invokevirtual 83, 3) := by decide +kernel
theorem dL_waits_7 : decode cL_waits 7 = .ok (.i2l, 1) := by decide +kernel
theorem dL_waits_8 : decode cL_waits 8 = .ok (.lastore, 1) := by decide +kernel
theorem dL_waits_9 : decode cL_waits 9 = .ok (.goto 6, 3) := by decide +kernel
theorem dL_waits_12 : decode cL_waits 12 = .ok (.astore_n 3, 1) := by decide +kernel
theorem dL_waits_13 : decode cL_waits 13 = .ok (.iconst 1, 1) := by decide +kernel
theorem dL_waits_14 : decode cL_waits 14 = .ok (.ireturn, 1) := by decide +kernel
theorem dL_waits_15 : decode cL_waits 15 = .ok (.iconst 0, 1) := by decide +kernel
theorem dL_waits_16 : decode cL_waits 16 = .ok (.ireturn, 1) := by decide +kernel
theorem dL_set_0 : decode cL_set 0 = .ok (.aload_n 3, 1) := by decide +kernel
theorem dL_set_1 : decode cL_set 1 = .ok (.iconst 0, 1) := by decide +kernel
theorem dL_set_2 : decode cL_set 2 = .ok (.aload_n 0, 1) := by decide +kernel
theorem dL_set_3 : decode cL_set 3 = .ok (.iload_n 1, 1) := by decide +kernel
theorem dL_set_4 : decode cL_set 4 = .ok (.iload_n 2, 1) := by decide +kernel
theorem dL_set_5 : decode cL_set 5 = .ok (.invokevirtual 86, 3) := by decide +kernel
theorem dL_set_8 : decode cL_set 8 = .ok (.i2l, 1) := by decide +kernel
theorem dL_set_9 : decode cL_set 9 = .ok (.lastore, 1) := by decide +kernel
theorem dL_set_10 : decode cL_set 10 = .ok (.goto 7, 3) := by decide +kernel
theorem dL_set_13 : decode cL_set 13 = .ok (.astore 4, 2) := by decide +kernel
theorem dL_set_15 : decode cL_set 15 = .ok (.iconst 1, 1) := by decide +kernel
theorem dL_set_16 : decode cL_set 16 = .ok (.ireturn, 1) := by decide +kernel
theorem dL_set_17 : decode cL_set 17 = .ok (.iconst 0, 1) := by decide +kernel
theorem dL_set_18 : decode cL_set 18 = .ok (.ireturn, 1) := by decide +kernel
theorem dL_save_0 : decode cL_save 0 = .ok (.aload_n 2, 1) := by decide +kernel
theorem dL_save_1 : decode cL_save 1 = .ok (.iconst 0, 1) := by decide +kernel
theorem dL_save_2 : decode cL_save 2 = .ok (.aload_n 0, 1) := by decide +kernel
theorem dL_save_3 : decode cL_save 3 = .ok (.iload_n 1, 1) := by decide +kernel
theorem dL_save_4 : decode cL_save 4 = .ok (.invokevirtual 89, 3) := by decide +kernel
theorem dL_save_7 : decode cL_save 7 = .ok (.i2l, 1) := by decide +kernel
theorem dL_save_8 : decode cL_save 8 = .ok (.lastore, 1) := by decide +kernel
theorem dL_save_9 : decode cL_save 9 = .ok (.goto 6, 3) := by decide +kernel
theorem dL_save_12 : decode cL_save 12 = .ok (.astore_n 3, 1) := by decide +kernel
theorem dL_save_13 : decode cL_save 13 = .ok (.iconst 1, 1) := by decide +kernel
theorem dL_save_14 : decode cL_save 14 = .ok (.ireturn, 1) := by decide +kernel
theorem dL_save_15 : decode cL_save 15 = .ok (.iconst 0, 1) := by decide +kernel
theorem dL_save_16 : decode cL_save 16 = .ok (.ireturn, 1) := by decide +kernel
theorem dL_restore_0 : decode cL_restore 0 = .ok (.aload_n 2, 1) := by decide +kernel
theorem dL_restore_1 : decode cL_restore 1 = .ok (.iconst 0, 1) := by decide +kernel
theorem dL_restore_2 : decode cL_restore 2 = .ok (.aload_n 0, 1) := by decide +kernel
theorem dL_restore_3 : decode cL_restore 3 = .ok (.iload_n 1, 1) := by decide +kernel
theorem dL_restore_4 : decode cL_restore 4 = .ok (.invokevirtual 92, 3) := by decide +kernel
theorem dL_restore_7 : decode cL_restore 7 = .ok (.i2l, 1) := by decide +kernel
theorem dL_restore_8 : decode cL_restore 8 = .ok (.lastore, 1) := by decide +kernel
theorem dL_restore_9 : decode cL_restore 9 = .ok (.goto 9, 3) := by decide +kernel
theorem dL_restore_12 : decode cL_restore 12 = .ok (.astore_n 3, 1) := by decide +kernel
theorem dL_restore_13 : decode cL_restore 13 = .ok (.iconst 1, 1) := by decide +kernel
theorem dL_restore_14 : decode cL_restore 14 = .ok (.ireturn, 1) := by decide +kernel
theorem dL_restore_15 : decode cL_restore 15 = .ok (.astore_n 3, 1) := by decide +kernel
theorem dL_restore_16 : decode cL_restore 16 = .ok (.iconst 2, 1) := by decide +kernel
theorem dL_restore_17 : decode cL_restore 17 = .ok (.ireturn, 1) := by decide +kernel
theorem dL_restore_18 : decode cL_restore 18 = .ok (.iconst 0, 1) := by decide +kernel
theorem dL_restore_19 : decode cL_restore 19 = .ok (.ireturn, 1) := by decide +kernel
