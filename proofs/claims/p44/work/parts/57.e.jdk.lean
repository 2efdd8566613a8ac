theorem tw_6_104 : (Jvm.Cond.classLink "HotStepsLaw" (35 : Nat) "java/lang/StringBuilder") ∈ hz_TB := hz_tb (hz_t6 _ (List.mem_of_getElem? (i := 104) rfl)) rfl
theorem tw_7_21 : (Jvm.Cond.methodLink "HotStepsLaw" (44 : Nat) ({ cls := "java/lang/StringBuilder", name := "append", desc := "(C)Ljava/lang/StringBuilder;" } : Jvm.MethodName)) ∈ hz_TB := hz_tb (hz_t7 _ (List.mem_of_getElem? (i := 21) rfl)) rfl
theorem tw_7_22 : (Jvm.Cond.instanceMethod ({ cls := "java/lang/StringBuilder", name := "append", desc := "(C)Ljava/lang/StringBuilder;" } : Jvm.MethodName)) ∈ hz_TB := hz_tb (hz_t7 _ (List.mem_of_getElem? (i := 22) rfl)) rfl
theorem tw_7_23 : (Jvm.Cond.selects "java/lang/StringBuilder" ({ cls := "java/lang/StringBuilder", name := "append", desc := "(C)Ljava/lang/StringBuilder;" } : Jvm.MethodName) ({ cls := "java/lang/StringBuilder", name := "append", desc := "(C)Ljava/lang/StringBuilder;" } : Jvm.MethodName)) ∈ hz_TB := hz_tb (hz_t7 _ (List.mem_of_getElem? (i := 23) rfl)) rfl
theorem tw_7_35 : (Jvm.Cond.methodLink "HotStepsLaw" (40 : Nat) ({ cls := "java/lang/StringBuilder", name := "append", desc := "(Ljava/lang/String;)Ljava/lang/StringBuilder;" } : Jvm.MethodName)) ∈ hz_TB := hz_tb (hz_t7 _ (List.mem_of_getElem? (i := 35) rfl)) rfl
theorem tw_7_38 : (Jvm.Cond.code ({ cls := "HotStepsLaw", name := "name", desc := "(I)Ljava/lang/String;" } : Jvm.MethodName) method_6_code (1 : Nat) (Option.some (Jvm.ClassFile.FieldType.object "java/lang/String"))) ∈ hz_TB := hz_tb (hz_t7 _ (List.mem_of_getElem? (i := 38) rfl)) rfl
theorem tw_7_39 : (Jvm.Cond.methodLink "HotStepsLaw" (37 : Nat) ({ cls := "java/lang/StringBuilder", name := "<init>", desc := "()V" } : Jvm.MethodName)) ∈ hz_TB := hz_tb (hz_t7 _ (List.mem_of_getElem? (i := 39) rfl)) rfl
theorem tw_7_40 : (Jvm.Cond.instanceMethod ({ cls := "java/lang/StringBuilder", name := "<init>", desc := "()V" } : Jvm.MethodName)) ∈ hz_TB := hz_tb (hz_t7 _ (List.mem_of_getElem? (i := 40) rfl)) rfl
theorem tw_7_46 : (Jvm.Cond.methodLink "HotStepsLaw" (47 : Nat) ({ cls := "java/lang/StringBuilder", name := "toString", desc := "()Ljava/lang/String;" } : Jvm.MethodName)) ∈ hz_TB := hz_tb (hz_t7 _ (List.mem_of_getElem? (i := 46) rfl)) rfl
theorem tw_7_47 : (Jvm.Cond.instanceMethod ({ cls := "java/lang/StringBuilder", name := "toString", desc := "()Ljava/lang/String;" } : Jvm.MethodName)) ∈ hz_TB := hz_tb (hz_t7 _ (List.mem_of_getElem? (i := 47) rfl)) rfl
theorem tw_7_48 : (Jvm.Cond.selects "java/lang/StringBuilder" ({ cls := "java/lang/StringBuilder", name := "toString", desc := "()Ljava/lang/String;" } : Jvm.MethodName) ({ cls := "java/lang/StringBuilder", name := "toString", desc := "()Ljava/lang/String;" } : Jvm.MethodName)) ∈ hz_TB := hz_tb (hz_t7 _ (List.mem_of_getElem? (i := 48) rfl)) rfl
theorem tw_7_49 : (Jvm.Cond.code ({ cls := "java/lang/StringBuilder", name := "toString", desc := "()Ljava/lang/String;" } : Jvm.MethodName) prog_26_method_42_code (1 : Nat) (Option.some (Jvm.ClassFile.FieldType.object "java/lang/String"))) ∈ hz_TB := hz_tb (hz_t7 _ (List.mem_of_getElem? (i := 49) rfl)) rfl
theorem tw_7_50 : (Jvm.Cond.classLink "java/lang/StringBuilder" (18 : Nat) "java/lang/String") ∈ hz_TB := hz_tb (hz_t7 _ (List.mem_of_getElem? (i := 50) rfl)) rfl
theorem tw_7_51 : (Jvm.Cond.instantiable "java/lang/String" (4 : Nat)) ∈ hz_TB := hz_tb (hz_t7 _ (List.mem_of_getElem? (i := 51) rfl)) rfl
theorem tw_7_52 : (Jvm.Cond.methodLink "java/lang/StringBuilder" (137 : Nat) ({ cls := "java/lang/String", name := "<init>", desc := "(Ljava/lang/StringBuilder;)V" } : Jvm.MethodName)) ∈ hz_TB := hz_tb (hz_t7 _ (List.mem_of_getElem? (i := 52) rfl)) rfl
theorem tw_7_53 : (Jvm.Cond.instanceMethod ({ cls := "java/lang/String", name := "<init>", desc := "(Ljava/lang/StringBuilder;)V" } : Jvm.MethodName)) ∈ hz_TB := hz_tb (hz_t7 _ (List.mem_of_getElem? (i := 53) rfl)) rfl
theorem tw_7_54 : (Jvm.Cond.code ({ cls := "java/lang/String", name := "<init>", desc := "(Ljava/lang/StringBuilder;)V" } : Jvm.MethodName) prog_25_method_53_code (2 : Nat) (Option.none : Option Jvm.ClassFile.FieldType)) ∈ hz_TB := hz_tb (hz_t7 _ (List.mem_of_getElem? (i := 54) rfl)) rfl
theorem tw_7_55 : (Jvm.Cond.methodLink "java/lang/String" (489 : Nat) ({ cls := "java/lang/String", name := "<init>", desc := "(Ljava/lang/AbstractStringBuilder;Ljava/lang/Void;)V" } : Jvm.MethodName)) ∈ hz_TB := hz_tb (hz_t7 _ (List.mem_of_getElem? (i := 55) rfl)) rfl
theorem tw_7_56 : (Jvm.Cond.instanceMethod ({ cls := "java/lang/String", name := "<init>", desc := "(Ljava/lang/AbstractStringBuilder;Ljava/lang/Void;)V" } : Jvm.MethodName)) ∈ hz_TB := hz_tb (hz_t7 _ (List.mem_of_getElem? (i := 56) rfl)) rfl
theorem tw_7_57 : (Jvm.Cond.code ({ cls := "java/lang/String", name := "<init>", desc := "(Ljava/lang/AbstractStringBuilder;Ljava/lang/Void;)V" } : Jvm.MethodName) prog_25_method_150_code (5 : Nat) (Option.none : Option Jvm.ClassFile.FieldType)) ∈ hz_TB := hz_tb (hz_t7 _ (List.mem_of_getElem? (i := 57) rfl)) rfl
theorem tw_7_58 : (Jvm.Cond.methodLink "java/lang/String" (1 : Nat) ({ cls := "java/lang/Object", name := "<init>", desc := "()V" } : Jvm.MethodName)) ∈ hz_TB := hz_tb (hz_t7 _ (List.mem_of_getElem? (i := 58) rfl)) rfl
theorem tw_7_59 : (Jvm.Cond.methodLink "java/lang/String" (552 : Nat) ({ cls := "java/lang/AbstractStringBuilder", name := "getValue", desc := "()[B" } : Jvm.MethodName)) ∈ hz_TB := hz_tb (hz_t7 _ (List.mem_of_getElem? (i := 59) rfl)) rfl
theorem tw_7_60 : (Jvm.Cond.instanceMethod ({ cls := "java/lang/AbstractStringBuilder", name := "getValue", desc := "()[B" } : Jvm.MethodName)) ∈ hz_TB := hz_tb (hz_t7 _ (List.mem_of_getElem? (i := 60) rfl)) rfl
theorem tw_7_62 : (Jvm.Cond.selects "java/lang/StringBuilder" ({ cls := "java/lang/AbstractStringBuilder", name := "getValue", desc := "()[B" } : Jvm.MethodName) ({ cls := "java/lang/AbstractStringBuilder", name := "getValue", desc := "()[B" } : Jvm.MethodName)) ∈ hz_TB := hz_tb (hz_t7 _ (List.mem_of_getElem? (i := 62) rfl)) rfl
theorem tw_7_64 : (Jvm.Cond.methodLink "java/lang/String" (549 : Nat) ({ cls := "java/lang/AbstractStringBuilder", name := "length", desc := "()I" } : Jvm.MethodName)) ∈ hz_TB := hz_tb (hz_t7 _ (List.mem_of_getElem? (i := 64) rfl)) rfl
theorem tw_7_67 : (Jvm.Cond.selects "java/lang/StringBuilder" ({ cls := "java/lang/AbstractStringBuilder", name := "length", desc := "()I" } : Jvm.MethodName) ({ cls := "java/lang/StringBuilder", name := "length", desc := "()I" } : Jvm.MethodName)) ∈ hz_TB := hz_tb (hz_t7 _ (List.mem_of_getElem? (i := 67) rfl)) rfl
theorem tw_7_68 : (Jvm.Cond.instanceMethod ({ cls := "java/lang/StringBuilder", name := "length", desc := "()I" } : Jvm.MethodName)) ∈ hz_TB := hz_tb (hz_t7 _ (List.mem_of_getElem? (i := 68) rfl)) rfl
theorem tw_7_72 : (Jvm.Cond.methodLink "java/lang/String" (1047 : Nat) ({ cls := "java/lang/AbstractStringBuilder", name := "isLatin1", desc := "()Z" } : Jvm.MethodName)) ∈ hz_TB := hz_tb (hz_t7 _ (List.mem_of_getElem? (i := 72) rfl)) rfl
theorem tw_7_73 : (Jvm.Cond.methodLink "java/lang/String" (54 : Nat) ({ cls := "java/util/Arrays", name := "copyOfRange", desc := "([BII)[B" } : Jvm.MethodName)) ∈ hz_TB := hz_tb (hz_t7 _ (List.mem_of_getElem? (i := 73) rfl)) rfl
theorem tw_7_74 : (Jvm.Cond.static ({ cls := "java/util/Arrays", name := "copyOfRange", desc := "([BII)[B" } : Jvm.MethodName)) ∈ hz_TB := hz_tb (hz_t7 _ (List.mem_of_getElem? (i := 74) rfl)) rfl
theorem hx_cal_J0_init_81219 : hz_CalXV yJ0_init_81219 cJ0_init_81219 2 none 1 := ⟨⟨tw_7_54, tw_1_10, ⟨by decide, by decide, by decide +kernel⟩, Nat.le_of_ble_eq_true rfl⟩, tw_7_53⟩
theorem hx_cal_J0_init_db425 : hz_CalXV yJ0_init_db425 cJ0_init_db425 5 none 2 := ⟨⟨tw_7_57, tw_1_10, ⟨by decide, by decide, by decide +kernel⟩, Nat.le_of_ble_eq_true rfl⟩, tw_7_56⟩
theorem hx_cal_J4_append_cf468 : hz_CalXV yJ4_append_cf468 cJ4_append_cf468 2 (some (.object "java/lang/StringBuilder")) 1 := ⟨⟨tw_7_24, tw_1_18, ⟨by decide, by decide, by decide +kernel⟩, Nat.le_of_ble_eq_true rfl⟩, tw_7_22⟩
theorem hx_cal_J4_init_da8c8 : hz_CalXV yJ4_init_da8c8 cJ4_init_da8c8 1 none 0 := ⟨⟨tw_7_41, tw_1_18, ⟨by decide, by decide, by decide +kernel⟩, Nat.le_of_ble_eq_true rfl⟩, tw_7_40⟩
theorem hx_cal_J4_length_8abf5 : hz_CalXV yJ4_length_8abf5 cJ4_length_8abf5 1 (some .int) 0 := ⟨⟨tw_7_69, tw_1_18, ⟨by decide, by decide, by decide +kernel⟩, Nat.le_of_ble_eq_true rfl⟩, tw_7_68⟩
theorem hx_cal_J4_toString_0e30d : hz_CalXV yJ4_toString_0e30d cJ4_toString_0e30d 1 (some (.object "java/lang/String")) 0 := ⟨⟨tw_7_49, tw_1_18, ⟨by decide, by decide, by decide +kernel⟩, Nat.le_of_ble_eq_true rfl⟩, tw_7_47⟩
theorem hx_cal_J5_getValue_6d5f1 : hz_CalXV yJ5_getValue_6d5f1 cJ5_getValue_6d5f1 1 (some (.array Jvm.ClassFile.FieldType.byte)) 0 := ⟨⟨tw_7_63, tw_1_17, ⟨by decide, by decide, by decide +kernel⟩, Nat.le_of_ble_eq_true rfl⟩, tw_7_60⟩
theorem hx_cal_J7_copyOfRange_39247 : hz_CalXS yJ7_copyOfRange_39247 cJ7_copyOfRange_39247 3 (some (.array Jvm.ClassFile.FieldType.byte)) 3 := ⟨⟨tw_7_75, tw_1_15, ⟨by decide, by decide, by decide +kernel⟩, Nat.le_of_ble_eq_true rfl⟩, tw_7_74⟩
def hz_str (w : hz_C) (q n : Nat) (t : Nat → Nat) (S1 : va_W) : Prop := ∃ (v : Nat) (f : Nat → Int32), S1 = [(q, .inr (0, [.ref v, .int 0, .int 0, .int 0])), (v, .inl (hz_tc w 5, n, .inl f))] ∧ sb_Lat t n f ∧ sb_Fit f
theorem hz_perm3 {X0 : va_W} {x y z : Nat × va_E} : ∀ k q, (X0 ++ [z, x, y])[k]? = some q → (X0 ++ [x, y, z])[if k < X0.length then k else if k = X0.length then k + 2 else if k ≤ X0.length + 2 then k - 1 else k]? = some q := by
  intro k q hk
  by_cases h1 : k < X0.length
  · rw [if_pos h1, List.getElem?_append_left h1]
    rw [List.getElem?_append_left h1] at hk
    exact hk
  · rw [if_neg h1]
    obtain ⟨j, hj⟩ : ∃ j, k = X0.length + j := ⟨k - X0.length, by omega⟩
    subst hj
    rw [List.getElem?_append_right (by omega), show X0.length + j - X0.length = j by omega] at hk
    match j, hk with
    | 0, hk =>
      rw [if_pos (by omega), List.getElem?_append_right (by omega), show X0.length + 0 + 2 - X0.length = 2 by omega]
      exact hk
    | 1, hk =>
      rw [if_neg (by omega), if_pos (by omega), List.getElem?_append_right (by omega), show X0.length + 1 - 1 - X0.length = 0 by omega]
      exact hk
    | 2, hk =>
      rw [if_neg (by omega), if_pos (by omega), List.getElem?_append_right (by omega), show X0.length + 2 - 1 - X0.length = 1 by omega]
      exact hk
    | j + 3, hk => simp at hk
theorem hz_perm3i {n : Nat} : ∀ i j : Nat, (if i < n then i else if i = n then i + 2 else if i ≤ n + 2 then i - 1 else i) = (if j < n then j else if j = n then j + 2 else if j ≤ n + 2 then j - 1 else j) → i = j := by
  intro i j h
  repeat' split at h
  all_goals omega
theorem hz_drop2 {X0 : va_W} {x y z u : Nat × va_E} : ∀ k q, (X0 ++ [x, u])[k]? = some q → (X0 ++ [x, y, z, u])[if k ≤ X0.length then k else k + 2]? = some q := by
  intro k q hk
  by_cases h1 : k < X0.length
  · rw [if_pos (by omega), List.getElem?_append_left h1]
    rw [List.getElem?_append_left h1] at hk
    exact hk
  · obtain ⟨j, hj⟩ : ∃ j, k = X0.length + j := ⟨k - X0.length, by omega⟩
    subst hj
    rw [List.getElem?_append_right (by omega), show X0.length + j - X0.length = j by omega] at hk
    match j, hk with
    | 0, hk =>
      rw [if_pos (by omega), List.getElem?_append_right (by omega), show X0.length + 0 - X0.length = 0 by omega]
      exact hk
    | 1, hk =>
      rw [if_neg (by omega), List.getElem?_append_right (by omega), show X0.length + 1 + 2 - X0.length = 3 by omega]
      exact hk
    | j + 2, hk => simp at hk
theorem hz_drop2i {n : Nat} : ∀ i j : Nat, (if i ≤ n then i else i + 2) = (if j ≤ n then j else j + 2) → i = j := by
  intro i j h
  split at h <;> split at h <;> omega
theorem hz_latT {t t1 : Nat → Nat} {n : Nat} {f : Nat → Int32} (h : sb_Lat t n f) (e : ∀ j, j < n → t1 j = t j) : sb_Lat t1 n f := fun j hj => by
  rw [e j hj]
  exact h j hj
def hz_nmT (k : Nat) : Nat → Nat := fun i => if i = 0 then 103 else 97 + k
theorem hz_ln3 {w : hz_C} : hz_ln w 3 = 1 := by
  unfold hz_ln
  rw [if_pos (by decide)]
  rfl
theorem hz_by3 {w : hz_C} : ∀ j, j < hz_ln w 3 → (103 : Nat) < 128 ∧ hz_by w 3 j = nI 103 := by
  intro j hj
  rw [hz_ln3] at hj
  obtain rfl : j = 0 := by omega
  refine ⟨by decide, ?_⟩
  unfold hz_by
  rw [if_pos (by decide)]
  rfl
theorem hz_i2c' : ∀ {k : Nat}, k < 26 → (((97 : Int32) + nI k).toUInt32 % 65536).toInt32 = nI (97 + k) := by
  have h : ∀ k, k < 26 → (((97 : Int32) + nI k).toUInt32 % 65536).toInt32 = nI (97 + k) := by decide +kernel
  exact fun {k} hk => h k hk
set_option maxRecDepth 100000 in
set_option maxHeartbeats 4000000 in
theorem c_y_strI (l : Launch) (w : hz_C) {X0 : va_W} {st : Nat} {sb va m n : Nat} {a : Nat → Int32} (hnm : n ≤ m) (hm : m ≤ 262) (hf : sb_Fit a) : hz_CY l yJ0_init_db425 cJ0_init_db425 5 none 3 1 300 w [.ref st, .ref sb, .null] (X0 ++ [(st, .inr (0, [.null, .int 0, .int 0, .int 0])), (sb, .inr (1, [.ref va, .int 0, .int 0, .int (nI n)])), (va, .inl (hz_tc w 5, m, .inl a))]) (hz_YQv w (fun S1 => ∃ b f, S1 = [(st, .inr (0, [.ref b, .int 0, .int 0, .int 0])), (sb, .inr (1, [.ref va, .int 0, .int 0, .int (nI n)])), (va, .inl (hz_tc w 5, m, .inl a)), (b, .inl (hz_tc w 5, n, .inl f))] ∧ sb_Fit f ∧ ∀ j, j < n → f j = a j) X0) := by
  refine hz_y_ofW (by decide) rfl (Nat.le_of_ble_eq_true rfl) tw_7_57 ?_
  intro p e s m1 args below meth c hO hin
  show hz_Y p l e 3 ((1, 300), (0, 0)) s m1 args below meth c w 5 _ X0 [(st, .inr (0, [.null, .int 0, .int 0, .int 0])), (sb, .inr (1, [.ref va, .int 0, .int 0, .int (nI n)])), (va, .inl (hz_tc w 5, m, .inl a))] 0 [(0, .ref st), (1, .ref sb), (2, .null)] []
  refine hz_y_aload_n hO dJ0_init_db425_0 rfl 0 rfl ?_
  refine hz_y_obj hO tw_7_58 (Nat.le_of_ble_eq_true rfl) (Nat.le_of_ble_eq_true rfl) dJ0_init_db425_1 ?_
  refine hz_y_re (X1 := X0 ++ [(st, .inr (0, [.null, .int 0, .int 0, .int 0]))]) (S1 := [(sb, .inr (1, [.ref va, .int 0, .int 0, .int (nI n)])), (va, .inl (hz_tc w 5, m, .inl a))]) (by rw [List.append_assoc]; rfl) ?_
  refine hz_y_aload_n hO dJ0_init_db425_4 rfl 1 rfl ?_
  refine hz_y_callVr (as := []) (rest := []) (hc := 0) (mc := 0) (ms := 0) hO (c_y_getV l w) hx_cal_J5_getValue_6d5f1 (hz_sel_w hO tw_7_62) hz_K_1 (j := 0) rfl tw_7_59 (Nat.le_of_ble_eq_true rfl) rfl rfl (Nat.le_of_ble_eq_true rfl) ⟨(Nat.le_of_ble_eq_true rfl), (Nat.le_of_ble_eq_true rfl)⟩ dJ0_init_db425_5 (fun b S1 hR => ?_)
  obtain ⟨hb, rfl⟩ := hR
  rw [hb]
  refine hz_y_astore_n (ls1 := [(3, .ref va), (0, .ref st), (1, .ref sb), (2, .null)]) hO dJ0_init_db425_8 rfl (Nat.le_of_ble_eq_true rfl) rfl ?_
  refine hz_y_aload_n hO dJ0_init_db425_9 rfl 2 rfl ?_
  refine hz_y_callOi (owner := "java/lang/AbstractStringBuilder") (x := yJ5_length_8abf5) (as := []) (rest := []) (hc := 1) (mc := 0) (ms := 0) hO (c_y_SBlen l w) hx_cal_J4_length_8abf5 ⟨by decide, by decide, by decide +kernel⟩ tw_7_71 tw_7_66 tw_7_65 tw_7_67 hz_K_1 (j := 0) rfl tw_7_64 (Nat.le_of_ble_eq_true rfl) rfl rfl (Nat.le_of_ble_eq_true rfl) ⟨(Nat.le_of_ble_eq_true rfl), (Nat.le_of_ble_eq_true rfl)⟩ dJ0_init_db425_10 (fun r S1 hR => ?_)
  obtain ⟨rfl, rfl⟩ := hR
  refine hz_y_istore (ls1 := [(4, .int (nI n)), (3, .ref va), (0, .ref st), (1, .ref sb), (2, .null)]) hO dJ0_init_db425_13 (Nat.le_of_ble_eq_true rfl) rfl ?_
  refine hz_y_aload_n hO dJ0_init_db425_15 rfl 3 rfl ?_
  refine hz_y_callVi (as := []) (rest := []) (hc := 0) (mc := 0) (ms := 0) hO (c_y_isL1 l w) hx_cal_J5_isLatin1_aae02 (hz_sel_w hO tw_6_173) hz_K_1 (j := 0) rfl tw_7_72 (Nat.le_of_ble_eq_true rfl) rfl rfl (Nat.le_of_ble_eq_true rfl) ⟨(Nat.le_of_ble_eq_true rfl), (Nat.le_of_ble_eq_true rfl)⟩ dJ0_init_db425_16 (fun r S1 hR => ?_)
  obtain ⟨rfl, rfl⟩ := hR
  refine hz_y_if_eq (tgt := 41) hO dJ0_init_db425_19 (by decide) (fun hc => absurd hc (by decide)) (fun _ => ?_)
  refine hz_y_re (X1 := X0) (S1 := [(st, .inr (0, [.null, .int 0, .int 0, .int 0])), (sb, .inr (1, [.ref va, .int 0, .int 0, .int (nI n)])), (va, .inl (hz_tc w 5, m, .inl a))]) (by rw [List.append_assoc]; rfl) ?_
  refine hz_y_aload_n hO dJ0_init_db425_22 rfl 2 rfl ?_
  refine hz_y_iconst (v := (0 : Int32)) hO dJ0_init_db425_23 (by decide) ?_
  refine hz_y_putF (j := 0) (k := 1) (S1 := [(st, .inr (0, [.null, .int (0 : Int32), .int 0, .int 0])), (sb, .inr (1, [.ref va, .int 0, .int 0, .int (nI n)])), (va, .inl (hz_tc w 5, m, .inl a))]) hO hin hz_K_0 tyJ0_ok nmJ0 rfl (Nat.le_of_ble_eq_true rfl) tw_7_93 rfl rfl rfl rfl rfl rfl (Nat.le_of_ble_eq_true rfl) rfl dJ0_init_db425_24 ?_
  refine hz_y_aload_n hO dJ0_init_db425_27 rfl 2 rfl ?_
  refine hz_y_aload_n hO dJ0_init_db425_28 rfl 1 rfl ?_
  refine hz_y_iconst (v := (0 : Int32)) hO dJ0_init_db425_29 (by decide) ?_
  refine hz_y_iload hO dJ0_init_db425_30 0 rfl ?_
  refine hz_y_re (X1 := X0 ++ [(st, .inr (0, [.null, .int 0, .int 0, .int 0]))]) (S1 := [(sb, .inr (1, [.ref va, .int 0, .int 0, .int (nI n)])), (va, .inl (hz_tc w 5, m, .inl a))]) (by rw [List.append_assoc]; rfl) ?_
  refine hz_y_callSr (as := [.ref va, .int (0 : Int32), .int (nI n)]) (rest := [.ref st]) (hc := 2) (mc := 1) (ms := 300) hO (c_y_cor l w hnm hm hf) hx_cal_J7_copyOfRange_39247 tw_7_73 (Nat.le_of_ble_eq_true rfl) rfl rfl (Nat.le_of_ble_eq_true rfl) ⟨(Nat.le_of_ble_eq_true rfl), (Nat.le_of_ble_eq_true rfl)⟩ dJ0_init_db425_32 (fun b S1 hR => ?_)
  obtain ⟨f, rfl, hf1, hk1⟩ := hR
  refine hz_y_re (X1 := X0) (S1 := [(st, .inr (0, [.null, .int 0, .int 0, .int 0])), (sb, .inr (1, [.ref va, .int 0, .int 0, .int (nI n)])), (va, .inl (hz_tc w 5, m, .inl a)), (b, .inl (hz_tc w 5, n, .inl f))]) (by rw [List.append_assoc]; rfl) ?_
  refine hz_y_putF (j := 0) (k := 0) (S1 := [(st, .inr (0, [.ref b, .int 0, .int 0, .int 0])), (sb, .inr (1, [.ref va, .int 0, .int 0, .int (nI n)])), (va, .inl (hz_tc w 5, m, .inl a)), (b, .inl (hz_tc w 5, n, .inl f))]) hO hin hz_K_0 tyJ0_ok nmJ0 rfl (Nat.le_of_ble_eq_true rfl) tw_7_92 rfl rfl rfl rfl rfl rfl (Nat.le_of_ble_eq_true rfl) rfl dJ0_init_db425_35 ?_
  refine hz_y_goto (tgt := 97) hO dJ0_init_db425_38 (by decide) ?_
  exact hz_y_vret hO ⟨b, f, rfl, hf1, hk1⟩ dJ0_init_db425_97
set_option maxRecDepth 100000 in
set_option maxHeartbeats 4000000 in
theorem c_y_strJ (l : Launch) (w : hz_C) {X0 : va_W} {st : Nat} {sb va m n : Nat} {a : Nat → Int32} (hnm : n ≤ m) (hm : m ≤ 262) (hf : sb_Fit a) : hz_CY l yJ0_init_81219 cJ0_init_81219 2 none 4 1 300 w [.ref st, .ref sb] (X0 ++ [(st, .inr (0, [.null, .int 0, .int 0, .int 0])), (sb, .inr (1, [.ref va, .int 0, .int 0, .int (nI n)])), (va, .inl (hz_tc w 5, m, .inl a))]) (hz_YQv w (fun S1 => ∃ b f, S1 = [(st, .inr (0, [.ref b, .int 0, .int 0, .int 0])), (sb, .inr (1, [.ref va, .int 0, .int 0, .int (nI n)])), (va, .inl (hz_tc w 5, m, .inl a)), (b, .inl (hz_tc w 5, n, .inl f))] ∧ sb_Fit f ∧ ∀ j, j < n → f j = a j) X0) := by
  refine hz_y_ofW (by decide) rfl (Nat.le_of_ble_eq_true rfl) tw_7_54 ?_
  intro p e s m1 args below meth c hO hin
  show hz_Y p l e 4 ((1, 300), (0, 0)) s m1 args below meth c w 2 _ X0 [(st, .inr (0, [.null, .int 0, .int 0, .int 0])), (sb, .inr (1, [.ref va, .int 0, .int 0, .int (nI n)])), (va, .inl (hz_tc w 5, m, .inl a))] 0 [(0, .ref st), (1, .ref sb)] []
  refine hz_y_aload_n hO dJ0_init_81219_0 rfl 0 rfl ?_
  refine hz_y_aload_n hO dJ0_init_81219_1 rfl 1 rfl ?_
  refine hz_y_null hO dJ0_init_81219_2 ?_
  refine hz_y_callIv (as := [.ref sb, .null]) (rest := []) (hc := 3) (mc := 1) (ms := 300) hO (c_y_strI l w hnm hm hf) hx_cal_J0_init_db425 rfl tw_7_55 (Nat.le_of_ble_eq_true rfl) rfl rfl (Nat.le_of_ble_eq_true rfl) ⟨(Nat.le_of_ble_eq_true rfl), (Nat.le_of_ble_eq_true rfl)⟩ dJ0_init_81219_3 (fun S1 hR => ?_)
  exact hz_y_vret hO hR dJ0_init_81219_6
set_option maxRecDepth 100000 in
set_option maxHeartbeats 4000000 in
theorem c_y_toS (l : Launch) (w : hz_C) {X0 : va_W} {sb va m n : Nat} {a : Nat → Int32} {t : Nat → Nat} (hnm : n ≤ m) (hm : m ≤ 262) (hL : sb_Lat t n a) (hf : sb_Fit a) : hz_CY l yJ4_toString_0e30d cJ4_toString_0e30d 1 (some (.object "java/lang/String")) 5 2 304 w [.ref sb] (X0 ++ [(sb, .inr (1, [.ref va, .int 0, .int 0, .int (nI n)])), (va, .inl (hz_tc w 5, m, .inl a))]) (hz_YQr w (fun q S1 => hz_str w q n t S1) X0) := by
  refine hz_y_ofW (by decide) rfl (Nat.le_of_ble_eq_true rfl) tw_7_49 ?_
  intro p e s m1 args below meth c hO hin
  show hz_Y p l e 5 ((2, 304), (0, 0)) s m1 args below meth c w 1 _ X0 [(sb, .inr (1, [.ref va, .int 0, .int 0, .int (nI n)])), (va, .inl (hz_tc w 5, m, .inl a))] 0 [(0, .ref sb)] []
  refine hz_y_new hO hz_K_0 tyJ0 tyJ0_ok tw_7_50 tw_7_51 tw_1_10 (fs := [.null, .int 0, .int 0, .int 0]) (by decide) ⟨(by decide), (by decide)⟩ dJ4_toString_0e30d_0 (fun st => ?_)
  refine hz_y_S (S1 := [(sb, .inr (1, [.ref va, .int 0, .int 0, .int (nI n)])), (va, .inl (hz_tc w 5, m, .inl a)), (st, .inr (0, [.null, .int 0, .int 0, .int 0]))]) rfl ?_
  refine hz_y_sub (X1 := X0) (S1 := [(st, .inr (0, [.null, .int 0, .int 0, .int 0])), (sb, .inr (1, [.ref va, .int 0, .int 0, .int (nI n)])), (va, .inl (hz_tc w 5, m, .inl a))]) (fun k => if k < X0.length then k else if k = X0.length then k + 2 else if k ≤ X0.length + 2 then k - 1 else k) hz_perm3 hz_perm3i ?_
  refine hz_y_dup hO dJ4_toString_0e30d_3 rfl ?_
  refine hz_y_aload_n hO dJ4_toString_0e30d_4 rfl 0 rfl ?_
  refine hz_y_callIv (as := [.ref sb]) (rest := [.ref st]) (hc := 4) (mc := 1) (ms := 300) hO (c_y_strJ l w hnm hm hf) hx_cal_J0_init_81219 rfl tw_7_52 (Nat.le_of_ble_eq_true rfl) rfl rfl (Nat.le_of_ble_eq_true rfl) ⟨(Nat.le_of_ble_eq_true rfl), (Nat.le_of_ble_eq_true rfl)⟩ dJ4_toString_0e30d_5 (fun S1 hR => ?_)
  obtain ⟨b, f, rfl, hf1, hk1⟩ := hR
  refine hz_y_sub (X1 := X0) (S1 := [(st, .inr (0, [.ref b, .int 0, .int 0, .int 0])), (b, .inl (hz_tc w 5, n, .inl f))]) (fun k => if k ≤ X0.length then k else k + 2) hz_drop2 hz_drop2i ?_
  refine hz_y_widen (z1 := ((2, 304), (2, 304))) rfl (Nat.le_of_ble_eq_true rfl) (Nat.le_of_ble_eq_true rfl) ⟨Nat.le_refl _, Nat.le_refl _⟩ ?_
  exact hz_y_aret hO (Or.inl ⟨_, rfl⟩) ⟨b, f, rfl, sb_latKeep hL hk1, hf1⟩ dJ4_toString_0e30d_8
set_option maxRecDepth 100000 in
set_option maxHeartbeats 4000000 in
theorem c_L_name (l : Launch) (w : hz_C) {X0 : va_W} {k : Nat} (hk : k < 26) : hz_CY l yL_name cL_name 1 (some (.object "java/lang/String")) 6 6 1524 w [.int (nI k)] (X0 ++ []) (hz_YQr w (fun q S1 => hz_str w q 2 (hz_nmT k) S1) X0) := by
  refine hz_y_ofW (by decide) rfl (Nat.le_of_ble_eq_true rfl) tw_7_38 ?_
  intro p e s m1 args below meth c hO hin
  show hz_Y p l e 6 ((6, 1524), (0, 0)) s m1 args below meth c w 1 _ X0 [] 0 [(0, .int (nI k))] []
  refine hz_y_new hO hz_K_1 tyJ4 tyJ4_ok tw_6_104 tw_6_105 tw_1_18 (fs := [.null, .int 0, .int 0, .int 0]) (by decide) ⟨(by decide), (by decide)⟩ dL_name_0 (fun sb => ?_)
  refine hz_y_S (S1 := [(sb, .inr (1, [.null, .int 0, .int 0, .int 0]))]) rfl ?_
  refine hz_y_dup hO dL_name_3 rfl ?_
  refine hz_y_callIv (as := []) (rest := [.ref sb]) (hc := 2) (mc := 1) (ms := 16) hO (c_y_SBinit l w) hx_cal_J4_init_da8c8 rfl tw_7_39 (Nat.le_of_ble_eq_true rfl) rfl rfl (Nat.le_of_ble_eq_true rfl) ⟨(Nat.le_of_ble_eq_true rfl), (Nat.le_of_ble_eq_true rfl)⟩ dL_name_4 (fun S1 hR => ?_)
  obtain ⟨va, rfl⟩ := hR
  refine hz_y_ldcS (i := 3) hO (List.mem_of_getElem? (i := 5) rfl) dL_name_7 ?_
  refine hz_y_callVr (as := [.ref (hz_sa w 3)]) (rest := []) (hc := 5) (mc := 1) (ms := 600) hO (c_y_SBappS (i := 3) (t := fun _ => 0) (n := 0) (s0 := fun _ => 103) l w (Nat.lt_of_lt_of_le (by decide) hO.2.2.2.1.2.1.1) hz_by3 (by omega) (by omega) (by omega) (fun j hj => absurd hj (Nat.not_lt_zero j)) sb_fit0 (by rw [hz_ln3]; decide)) hx_cal_J4_append_15ec4 (hz_sel_w hO tw_6_133) hz_K_1 (j := 0) rfl tw_7_35 (Nat.le_of_ble_eq_true rfl) rfl rfl (Nat.le_of_ble_eq_true rfl) ⟨(Nat.le_of_ble_eq_true rfl), (Nat.le_of_ble_eq_true rfl)⟩ dL_name_9 (fun b S1 hR => ?_)
  have hb := hR.1
  rw [hb]
  obtain ⟨va1, m2, a1, rfl, hnm1, hm1, hL1, hf1⟩ := hR.2
  have e3 := hz_ln3 (w := w)
  refine hz_y_bipush (v := (97 : Int32)) hO dL_name_12 (by decide) ?_
  refine hz_y_iload_n hO dL_name_14 rfl 0 rfl ?_
  refine hz_y_iadd hO dL_name_15 ?_
  refine hz_y_name (y := ((97 : Int32) + nI k)) rfl ?_
  refine hz_y_i2c hO dL_name_16 ?_
  refine hz_y_name (y := nI (97 + k)) (hz_i2c' hk).symm ?_
  refine hz_y_callVr (as := [.int (nI (97 + k))]) (rest := []) (hc := 5) (mc := 1) (ms := 600) hO (c_y_SBappC (c0 := 97 + k) l w hnm1 (by omega) hm1 hL1 hf1 (by omega) (by omega)) hx_cal_J4_append_cf468 (hz_sel_w hO tw_7_23) hz_K_1 (j := 0) rfl tw_7_21 (Nat.le_of_ble_eq_true rfl) rfl rfl (Nat.le_of_ble_eq_true rfl) ⟨(Nat.le_of_ble_eq_true rfl), (Nat.le_of_ble_eq_true rfl)⟩ dL_name_17 (fun b2 S1 hR2 => ?_)
  have hb2 := hR2.1
  rw [hb2]
  obtain ⟨va2, m3, a2, rfl, hnm2, hm2, hL2, hf2⟩ := hR2.2
  refine hz_y_callVr (as := []) (rest := []) (hc := 5) (mc := 2) (ms := 304) hO (c_y_toS l w hnm2 hm2 hL2 hf2) hx_cal_J4_toString_0e30d (hz_sel_w hO tw_7_48) hz_K_1 (j := 0) rfl tw_7_46 (Nat.le_of_ble_eq_true rfl) rfl rfl (Nat.le_of_ble_eq_true rfl) ⟨(Nat.le_of_ble_eq_true rfl), (Nat.le_of_ble_eq_true rfl)⟩ dL_name_20 (fun q S1 hR3 => ?_)
  refine hz_y_aret hO (Or.inl ⟨_, rfl⟩) ?_ dL_name_23
  obtain ⟨v, f, h1, h2, h3⟩ := hR3
  rw [e3] at h1 h2
  exact ⟨v, f, h1, hz_latT h2 (fun j hj => by match j, hj with | 0, _ => rfl | 1, _ => rfl | j + 2, hj => exact absurd hj (by omega)), h3⟩
