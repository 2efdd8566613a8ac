/-! texts: the JDK's own members over the claim's String constants (a text is its place) -/
section HZ3
variable {p : Program} {l : Launch} {e : Env} {h : Nat} {z : hz_Z} {s : State} {m : MethodId} {args : Array Value} {below : List Frame} {meth : Method} {c : Code} {w : hz_C} {N nL : Nat} {Q : State → Prop} {M : hz_M} {pc : Nat} {ls : List (Nat × Value)} {st : List Value} {cc : ByteArray} {own : String} {ret : Option FieldType}
theorem hz_gets (hO : hz_Ok p s m args meth c w cc nL own ret) {C n d ref : String} {v : Value} {idx : Nat} (hZ : va_Z C n d v (hz_A w) s s.heap) (hlink : Cond.fieldLink own idx ref n d ∈ hz_TB) (href : C = ref) (hdg : decode cc pc = .ok (.getstatic idx, 3))
    (kk : hz_G p l e h z s m args below meth c w N nL Q M (pc + 3) ls (v :: st)) : hz_G p l e h z s m args below meth c w N nL Q M pc ls st :=
  fun hzk H locs la hW hS hL => va_gets hO.1.1 hO.1.2.1 hZ hS hO.1.2.2.2.1 (hO.1.2.2.2.2 _ hlink) (fun x hx => href ▸ hx) hdg (kk hzk H locs la hW hS hL)
theorem hz_getO (hO : hz_Ok p s m args meth c w cc nL own ret) {o n d ref : String} {v : Value} {idx q : Nat} (hE : va_OF o n d v q (hz_A w) s s.heap) (hlink : Cond.fieldLink own idx ref n d ∈ hz_TB) (href : o = ref) (hdg : decode cc pc = .ok (.getfield idx, 3))
    (kk : hz_G p l e h z s m args below meth c w N nL Q M (pc + 3) ls (v :: st)) : hz_G p l e h z s m args below meth c w N nL Q M pc ls (.ref q :: st) :=
  fun hzk H locs la hW hS hL => vk_getf hO.1.1 hO.1.2.1 hE hS hO.1.2.2.2.1 (hO.1.2.2.2.2 _ hlink) (fun x hx => href ▸ hx) hdg (kk hzk H locs la hW hS hL)
theorem hz_tlen (hO : hz_Ok p s m args meth c w cc nL own ret) {ty : FieldType} {t n : Nat} {f : Nat → Value} {v : Int32} (hT : va_T ty t n f (hz_A w) s s.heap) (hv : Int32.ofNat n = v) (hdg : decode cc pc = .ok (.arraylength, 1))
    (kk : hz_G p l e h z s m args below meth c w N nL Q M (pc + 1) ls (.int v :: st)) : hz_G p l e h z s m args below meth c w N nL Q M pc ls (.ref t :: st) :=
  fun hzk H locs la hW hS hL => va_tlen hO.1.1 hO.1.2.1 hT hS hv hdg (kk hzk H locs la hW hS hL)
theorem hz_tb8 (hO : hz_Ok p s m args meth c w cc nL own ret) {t n : Nat} {f : Nat → Value} {i : Int32} {v : Value} (hT : va_T .byte t n f (hz_A w) s s.heap) (hin : vp_in i n) (hv : f i.toNatClampNeg = v) (hdg : decode cc pc = .ok (.baload, 1))
    (kk : hz_G p l e h z s m args below meth c w N nL Q M (pc + 1) ls (v :: st)) : hz_G p l e h z s m args below meth c w N nL Q M pc ls (.int i :: .ref t :: st) :=
  fun hzk H locs la hW hS hL => va_tb hO.1.1 hO.1.2.1 hT hS hin hv hdg (kk hzk H locs la hW hS hL)
theorem hz_ti (hO : hz_Ok p s m args meth c w cc nL own ret) {t n : Nat} {f : Nat → Value} {i : Int32} {v : Value} (hT : va_T .int t n f (hz_A w) s s.heap) (hin : vp_in i n) (hv : f i.toNatClampNeg = v) (hdg : decode cc pc = .ok (.iaload, 1))
    (kk : hz_G p l e h z s m args below meth c w N nL Q M (pc + 1) ls (v :: st)) : hz_G p l e h z s m args below meth c w N nL Q M pc ls (.int i :: .ref t :: st) :=
  fun hzk H locs la hW hS hL => va_ti hO.1.1 hO.1.2.1 hT hS hin hv hdg (kk hzk H locs la hW hS hL)
theorem hz_i2c (hO : hz_Ok p s m args meth c w cc nL own ret) {x : Int32} (hdg : decode cc pc = .ok (.i2c, 1)) (kk : hz_G p l e h z s m args below meth c w N nL Q M (pc + 1) ls (.int (x.toUInt32 % 65536).toInt32 :: st)) : hz_G p l e h z s m args below meth c w N nL Q M pc ls (.int x :: st) :=
  fun hzk H locs la hW hS hL => lv_i2c hO.1.1 hO.1.2.1 hdg rfl (kk hzk H locs la hW hS hL)
theorem hz_nret {ty : FieldType} (hO : hz_Ok p s m args meth c w cc nL own (some ty)) {r : Int32} (hr : narrow ty (.int r) = .int r) (hdg : decode cc pc = .ok (.ireturn, 1)) : hz_G p l e h z s m args below meth c w N nL (MQ below (hz_Qi w N r M) args s z.2.1 z.2.2 (hz_A w)) M pc ls [.int r] :=
  fun hzk H locs la hW hS hL => W.zret (v := r) hO.1.1 hO.1.2.1 hO.2.1 hr (fun t ht hW9 => ⟨⟨r, (), rfl, rfl, hz_end ht hW hW9.alike⟩, hS.F ht⟩) hS.2.2 hdg hO.2.2.1
/-- a call on a text -/
theorem hz_callTi (hO : hz_Ok p s m args meth c w cc nL own ret) {idx n nLy hc i : Nat} {y : MethodName} {b : ByteArray} {rt : Option FieldType} {as rest : List Value} {r : Int32} {M1 : hz_M} (hC : hz_Ct l y b nLy rt hc w N (.ref (hz_sa w i) :: as) M (hz_Qi w N r M1)) (hcal : hz_CalV "java/lang/String" y b nLy rt n) (hi : i < hz_ns w) (hlink : Cond.methodLink own idx y ∈ hz_TB) (hh : hc + 1 ≤ h) (hn : as.length = n) (hst : st = as.reverse ++ .ref (hz_sa w i) :: rest) (hcat : (rest.map fun v => v.category).sum ≤ 8) (hdg : decode cc pc = .ok (.invokevirtual idx, 3))
    (kk : hz_G p l e h z s m args below meth c w N nL Q M1 (pc + 3) ls (.int r :: rest)) : hz_G p l e h z s m args below meth c w N nL Q M pc ls st := by
  intro hzk H locs la hW hS hL
  obtain ⟨cell, g1, g2, g3, -⟩ := (hO.2.2.2.1.2.2.1 i hi).1.kept hS.2.1
  refine va_calli (va_runV (As := as) (rest := rest) hO.1 hC (hz_wV hO hcal hlink hh) ⟨hz_blind, ⟨cell, g1, g2, g3⟩, hz_pre hO hW hS⟩ rfl hn hL.1 hst (lv_room hcat) hdg ⟨hzk.1, hzk.2⟩) hS (fun q _ z => z) (fun q z => z) (fun r1 u t H1 locs1 ht hvm hr hB hz1 hk1 hS1 => ?_)
  subst hr
  exact kk hzk H1 locs1 la (hz_back ht hvm hB) hS1 hL
/-- a String constant of its own class -/
theorem hz_ldcS (hO : hz_Ok p s m args meth c w cc nL own ret) {k i : Nat} {tx : String} (hq : (own, k, tx, i) ∈ hz_ldcs) (hdg : decode cc pc = .ok (.ldc k, 2))
    (kk : hz_G p l e h z s m args below meth c w N nL Q M (pc + 2) ls (.ref (hz_sa w i) :: st)) : hz_G p l e h z s m args below meth c w N nL Q M pc ls st :=
  fun hzk H locs la hW hS hL => va_ldcS hO.1.1 hO.1.2.1 hO.1.2.2.2.1 (hO.2.2.2.1.2.2.2.1 _ hq) hdg (kk hzk H locs la hW hS hL)
theorem hz_ldcwS (hO : hz_Ok p s m args meth c w cc nL own ret) {k i : Nat} {tx : String} (hq : (own, k, tx, i) ∈ hz_ldcs) (hdg : decode cc pc = .ok (.ldc_w k, 3))
    (kk : hz_G p l e h z s m args below meth c w N nL Q M (pc + 3) ls (.ref (hz_sa w i) :: st)) : hz_G p l e h z s m args below meth c w N nL Q M pc ls st := by
  intro hzk H locs la hW hS hL T hT X
  have hZ := hO.2.2.2.1.2.2.2.1 _ hq
  obtain ⟨t, a1, b1⟩ := kk hzk H locs la hW hS hL T hT X
  exact ⟨t, X.ldcStringW hO.1.1 hO.1.2.2.2.1 (text := tx) (a := hz_sa w i) hZ.1 hZ.2 (g := F0 m pc la st) rfl (by rw [hO.1.2.1]; exact hdg) t a1, b1⟩
/-- a value that is a reference or null is carried along -/
theorem hz_getsq (hO : hz_Ok p s m args meth c w cc nL own ret) {C n d ref : String} {idx : Nat} (hZ : va_Zq C n d (hz_A w) s s.heap) (hlink : Cond.fieldLink own idx ref n d ∈ hz_TB) (href : C = ref) (hdg : decode cc pc = .ok (.getstatic idx, 3))
    (kk : ∀ v : Value, (v = .null ∨ ∃ t : Nat, v = .ref t) → hz_G p l e h z s m args below meth c w N nL Q M (pc + 3) ls (v :: st)) : hz_G p l e h z s m args below meth c w N nL Q M pc ls st := by
  rcases hZ with hZ | ⟨t, hZ⟩
  · exact hz_gets hO hZ hlink href hdg (kk _ (Or.inl rfl))
  · exact hz_gets hO hZ hlink href hdg (kk _ (Or.inr ⟨t, rfl⟩))
end HZ3
def hz_sl (i : Nat) : Int32 := nI (hz_len.getD i 0)
def hz_cc (i : Nat) (x : Int32) : Int32 := (((hz_byt.getD i []).getD x.toNatClampNeg 0 &&& 255).toUInt32 % 65536).toInt32
def hz_sok (i : Nat) : Bool := decide (i < 6)
theorem hz_sok_e {i : Nat} (h : hz_sok i = true) : i < 6 := of_decide_eq_true h
def hz_slw (w : hz_C) (i : Nat) : Int32 := nI (hz_ln w i)
def hz_ccw (w : hz_C) (i : Nat) (x : Int32) : Int32 := ((hz_by w i x.toNatClampNeg &&& 255).toUInt32 % 65536).toInt32
theorem hz_ln_c {w : hz_C} {i : Nat} (h : i < 6) : hz_ln w i = hz_len.getD i 0 := if_pos h
theorem hz_slw_c {w : hz_C} {i : Nat} (h : i < 6) : hz_slw w i = hz_sl i := by unfold hz_slw hz_sl; rw [hz_ln_c h]
theorem hz_ccw_c {w : hz_C} {i : Nat} (h : i < 6) (x : Int32) : hz_ccw w i x = hz_cc i x := by unfold hz_ccw hz_cc hz_by; rw [if_pos h]
theorem hz_cal_J0_coder_7d493 : hz_CalV "java/lang/String" yJ0_coder_7d493 cJ0_coder_7d493 1 (some .byte) 0 := ⟨⟨tw_2_122, tw_1_10, ⟨rfl, by decide, by decide, by decide +kernel⟩, Nat.le_of_ble_eq_true rfl⟩, tw_2_120, tw_2_121⟩
theorem hz_cal_J0_isLatin1_aae02 : hz_CalV "java/lang/String" yJ0_isLatin1_aae02 cJ0_isLatin1_aae02 1 (some .boolean) 0 := ⟨⟨tw_2_132, tw_1_10, ⟨rfl, by decide, by decide, by decide +kernel⟩, Nat.le_of_ble_eq_true rfl⟩, tw_2_130, tw_2_131⟩
theorem hz_cal_J0_checkIndex_df160 : hz_CalS "java/lang/String" yJ0_checkIndex_df160 cJ0_checkIndex_df160 2 none 2 := ⟨⟨tw_2_138, tw_1_10, ⟨rfl, by decide, by decide, by decide +kernel⟩, Nat.le_of_ble_eq_true rfl⟩, tw_2_137⟩
theorem hz_cal_J3_checkIndex_8e157 : hz_CalS "jdk/internal/util/Preconditions" yJ3_checkIndex_8e157 cJ3_checkIndex_8e157 3 (some .int) 3 := ⟨⟨tw_2_143, tw_1_12, ⟨rfl, by decide, by decide, by decide +kernel⟩, Nat.le_of_ble_eq_true rfl⟩, tw_2_142⟩
theorem hz_cal_J1_charAt_3b067 : hz_CalS "java/lang/StringLatin1" yJ1_charAt_3b067 cJ1_charAt_3b067 2 (some .char) 2 := ⟨⟨tw_2_135, tw_1_11, ⟨rfl, by decide, by decide, by decide +kernel⟩, Nat.le_of_ble_eq_true rfl⟩, tw_2_134⟩
theorem hz_cal_J0_length_8abf5 : hz_CalV "java/lang/String" yJ0_length_8abf5 cJ0_length_8abf5 1 (some .int) 0 := ⟨⟨tw_2_118, tw_1_10, ⟨rfl, by decide, by decide, by decide +kernel⟩, Nat.le_of_ble_eq_true rfl⟩, tw_2_116, tw_2_117⟩
theorem hz_cal_J0_charAt_5068e : hz_CalV "java/lang/String" yJ0_charAt_5068e cJ0_charAt_5068e 2 (some .char) 1 := ⟨⟨tw_2_128, tw_1_10, ⟨rfl, by decide, by decide, by decide +kernel⟩, Nat.le_of_ble_eq_true rfl⟩, tw_2_126, tw_2_127⟩
set_option maxRecDepth 100000 in
set_option maxHeartbeats 4000000 in
theorem c_J0_coder_7d493 (l : Launch) (w : hz_C) {N : Nat} {i : Nat} (hi : i < hz_ns w) {M : hz_M} : hz_Ct l yJ0_coder_7d493 cJ0_coder_7d493 1 (some .byte) 0 w N [.ref (hz_sa w i)] M (hz_Qi w N 0 M) := by
  refine hz_ofW (by decide) rfl (Nat.le_of_ble_eq_true rfl) tw_2_122 ?_
  intro p e s m args below meth c hO
  show hz_G p l e 0 hz_z0 s m args below meth c w N 1 _ M 0 [(0, .ref (hz_sa w i))] []
  refine hz_gets hO hO.2.2.2.1.2.2.2.2.2.2.2.1 tw_2_123 rfl dJ0_coder_7d493_0 ?_
  refine hz_if_eq (tgt := 13) hO dJ0_coder_7d493_3 (by decide) (fun hc => absurd hc (by decide)) (fun hc => ?_)
  refine hz_aload_n hO dJ0_coder_7d493_6 rfl 0 rfl ?_
  refine hz_getO hO (hO.2.2.2.1.2.2.1 i hi).2.1 tw_7_93 rfl dJ0_coder_7d493_7 ?_
  refine hz_goto (tgt := 14) hO dJ0_coder_7d493_10 (by decide) ?_
  exact hz_nret hO rfl dJ0_coder_7d493_14
set_option maxRecDepth 100000 in
set_option maxHeartbeats 4000000 in
theorem c_J0_isLatin1_aae02 (l : Launch) (w : hz_C) {N : Nat} {i : Nat} (hi : i < hz_ns w) {M : hz_M} : hz_Ct l yJ0_isLatin1_aae02 cJ0_isLatin1_aae02 1 (some .boolean) 0 w N [.ref (hz_sa w i)] M (hz_Qi w N 1 M) := by
  refine hz_ofW (by decide) rfl (Nat.le_of_ble_eq_true rfl) tw_2_132 ?_
  intro p e s m args below meth c hO
  show hz_G p l e 0 hz_z0 s m args below meth c w N 1 _ M 0 [(0, .ref (hz_sa w i))] []
  refine hz_gets hO hO.2.2.2.1.2.2.2.2.2.2.2.1 tw_2_123 rfl dJ0_isLatin1_aae02_0 ?_
  refine hz_if_eq (tgt := 17) hO dJ0_isLatin1_aae02_3 (by decide) (fun hc => absurd hc (by decide)) (fun hc => ?_)
  refine hz_aload_n hO dJ0_isLatin1_aae02_6 rfl 0 rfl ?_
  refine hz_getO hO (hO.2.2.2.1.2.2.1 i hi).2.1 tw_7_93 rfl dJ0_isLatin1_aae02_7 ?_
  refine hz_if_ne (tgt := 17) hO dJ0_isLatin1_aae02_10 (by decide) (fun hc => absurd rfl hc) (fun hc => ?_)
  refine hz_iconst (v := (1 : Int32)) hO dJ0_isLatin1_aae02_13 (by decide) ?_
  refine hz_goto (tgt := 18) hO dJ0_isLatin1_aae02_14 (by decide) ?_
  exact hz_nret hO rfl dJ0_isLatin1_aae02_18
set_option maxRecDepth 100000 in
set_option maxHeartbeats 4000000 in
theorem c_J3_checkIndex_8e157 (l : Launch) (w : hz_C) {N : Nat} {x y : Int32} {v : Value} (hv : v = .null ∨ ∃ t : Nat, v = .ref t) (h0 : ¬ x < 0) (h1 : x < y) {M : hz_M} : hz_Ct l yJ3_checkIndex_8e157 cJ3_checkIndex_8e157 3 (some .int) 0 w N [.int x, .int y, v] M (hz_Qi w N x M) := by
  have hc1 : v.category = 1 := by rcases hv with rfl | ⟨t, rfl⟩ <;> rfl
  refine hz_ofW (by decide) rfl (by rcases hv with rfl | ⟨t, rfl⟩ <;> exact Nat.le_of_ble_eq_true rfl) tw_2_143 ?_
  intro p e s m args below meth c hO
  refine hz_ls (ls1 := [(0, .int x), (1, .int y)]) [0, 1] rfl ?_
  show hz_G p l e 0 hz_z0 s m args below meth c w N 3 _ M 0 [(0, .int x), (1, .int y)] []
  refine hz_iload_n hO dJ3_checkIndex_8e157_0 rfl 0 rfl ?_
  refine hz_if_lt (tgt := 9) hO dJ3_checkIndex_8e157_1 (by decide) (fun hc => absurd hc h0) (fun hc => ?_)
  refine hz_iload_n hO dJ3_checkIndex_8e157_4 rfl 0 rfl ?_
  refine hz_iload_n hO dJ3_checkIndex_8e157_5 rfl 1 rfl ?_
  refine hz_icmp_lt (tgt := 16) hO dJ3_checkIndex_8e157_6 (by decide) (fun hc => ?_) (fun hc => absurd h1 hc)
  refine hz_iload_n hO dJ3_checkIndex_8e157_16 rfl 0 rfl ?_
  exact hz_iret hO dJ3_checkIndex_8e157_17
set_option maxRecDepth 100000 in
set_option maxHeartbeats 4000000 in
theorem c_J0_checkIndex_df160 (l : Launch) (w : hz_C) {N : Nat} {x y : Int32} (h0 : ¬ x < 0) (h1 : x < y) {M : hz_M} : hz_Ct l yJ0_checkIndex_df160 cJ0_checkIndex_df160 2 none 1 w N [.int x, .int y] M (hz_Qv w N M) := by
  refine hz_ofW (by decide) rfl (Nat.le_of_ble_eq_true rfl) tw_2_138 ?_
  intro p e s m args below meth c hO
  show hz_G p l e 1 hz_z0 s m args below meth c w N 2 _ M 0 [(0, .int x), (1, .int y)] []
  refine hz_iload_n hO dJ0_checkIndex_df160_0 rfl 0 rfl ?_
  refine hz_iload_n hO dJ0_checkIndex_df160_1 rfl 1 rfl ?_
  refine hz_getsq hO hO.2.2.2.1.2.2.2.2.2.2.2.2.1 tw_2_139 rfl dJ0_checkIndex_df160_2 (fun v hv => ?_)
  refine hz_callSi (as := [.int x, .int y, v]) (rest := []) hO (c_J3_checkIndex_8e157 l w hv h0 h1) hz_cal_J3_checkIndex_8e157 tw_2_141 (Nat.le_of_ble_eq_true rfl) rfl rfl (Nat.le_of_ble_eq_true rfl) dJ0_checkIndex_df160_5 ?_
  refine hz_pop hO dJ0_checkIndex_df160_8 rfl ?_
  exact hz_vret hO dJ0_checkIndex_df160_9
theorem hz_len_ok6 : ∀ i, i < 6 → hz_len.getD i 0 < 2 ^ 30 := by decide +kernel
theorem hz_len_ok {w : hz_C} (hd : hz_dl w < 2 ^ 30) (i : Nat) : hz_ln w i < 2 ^ 31 := by
  unfold hz_ln
  split
  · rename_i h
    have := hz_len_ok6 i h
    omega
  · omega
set_option maxRecDepth 100000 in
set_option maxHeartbeats 4000000 in
theorem c_J1_charAt_3b067 (l : Launch) (w : hz_C) {N : Nat} {i : Nat} (hi : i < hz_ns w) {x : Int32} (hx : hz_in x (hz_ln w i) = true) {M : hz_M} : hz_Ct l yJ1_charAt_3b067 cJ1_charAt_3b067 2 (some .char) 2 w N [.ref (hz_sv w i), .int x] M (hz_Qi w N (hz_ccw w i x) M) := by
  refine hz_ofW (by decide) rfl (Nat.le_of_ble_eq_true rfl) tw_2_135 ?_
  intro p e s m args below meth c hO
  show hz_G p l e 2 hz_z0 s m args below meth c w N 2 _ M 0 [(0, .ref (hz_sv w i)), (1, .int x)] []
  have hT := (hO.2.2.2.1.2.2.1 i hi).2.2.2
  obtain ⟨j, hj, rfl⟩ := vp_in_of (hz_in_e hx) (hz_len_ok hO.2.2.2.1.2.1.2.2 i)
  refine hz_iload_n hO dJ1_charAt_3b067_0 rfl 1 rfl ?_
  refine hz_aload_n hO dJ1_charAt_3b067_1 rfl 0 rfl ?_
  refine hz_tlen (v := nI (hz_ln w i)) hO hT rfl dJ1_charAt_3b067_2 ?_
  refine hz_callSv (as := [.int (nI j), .int (nI (hz_ln w i))]) (rest := []) hO (c_J0_checkIndex_df160 l w (nI_pos (Nat.lt_trans hj (hz_len_ok hO.2.2.2.1.2.1.2.2 i))) (nI_lt hj (hz_len_ok hO.2.2.2.1.2.1.2.2 i))) hz_cal_J0_checkIndex_df160 tw_2_136 (Nat.le_of_ble_eq_true rfl) rfl rfl (Nat.le_of_ble_eq_true rfl) dJ1_charAt_3b067_3 ?_
  refine hz_aload_n hO dJ1_charAt_3b067_6 rfl 0 rfl ?_
  refine hz_iload_n hO dJ1_charAt_3b067_7 rfl 1 rfl ?_
  refine hz_tb8 hO hT (hz_in_e hx) rfl dJ1_charAt_3b067_8 ?_
  refine hz_sipush (v := (255 : Int32)) hO dJ1_charAt_3b067_9 (by decide) ?_
  refine hz_iand hO dJ1_charAt_3b067_12 ?_
  refine hz_i2c hO dJ1_charAt_3b067_13 ?_
  exact hz_nret hO (pk_nc _) dJ1_charAt_3b067_14
set_option maxRecDepth 100000 in
set_option maxHeartbeats 4000000 in
theorem cw_J0_length_8abf5 (l : Launch) (w : hz_C) {N : Nat} {i : Nat} (hi : i < hz_ns w) {M : hz_M} : hz_Ct l yJ0_length_8abf5 cJ0_length_8abf5 1 (some .int) 1 w N [.ref (hz_sa w i)] M (hz_Qi w N (hz_slw w i) M) := by
  refine hz_ofW (by decide) rfl (Nat.le_of_ble_eq_true rfl) tw_2_118 ?_
  intro p e s m args below meth c hO
  show hz_G p l e 1 hz_z0 s m args below meth c w N 1 _ M 0 [(0, .ref (hz_sa w i))] []
  refine hz_aload_n hO dJ0_length_8abf5_0 rfl 0 rfl ?_
  refine hz_getO hO (hO.2.2.2.1.2.2.1 i hi).2.2.1 tw_7_92 rfl dJ0_length_8abf5_1 ?_
  refine hz_tlen (v := hz_slw w i) hO (hO.2.2.2.1.2.2.1 i hi).2.2.2 rfl dJ0_length_8abf5_4 ?_
  refine hz_aload_n hO dJ0_length_8abf5_5 rfl 0 rfl ?_
  refine hz_callTi (as := []) (rest := [.int (hz_slw w i)]) hO (c_J0_coder_7d493 l w hi) hz_cal_J0_coder_7d493 hi tw_2_119 (Nat.le_of_ble_eq_true rfl) rfl rfl (Nat.le_of_ble_eq_true rfl) dJ0_length_8abf5_6 ?_
  refine hz_ishr hO dJ0_length_8abf5_9 ?_
  refine hz_name (sb_shr0 _).symm ?_
  exact hz_iret hO dJ0_length_8abf5_10
set_option maxRecDepth 100000 in
set_option maxHeartbeats 4000000 in
theorem cw_J0_charAt_5068e (l : Launch) (w : hz_C) {N : Nat} {i : Nat} (hi : i < hz_ns w) {x : Int32} (hx : hz_in x (hz_ln w i) = true) {M : hz_M} : hz_Ct l yJ0_charAt_5068e cJ0_charAt_5068e 2 (some .char) 3 w N [.ref (hz_sa w i), .int x] M (hz_Qi w N (hz_ccw w i x) M) := by
  refine hz_ofW (by decide) rfl (Nat.le_of_ble_eq_true rfl) tw_2_128 ?_
  intro p e s m args below meth c hO
  show hz_G p l e 3 hz_z0 s m args below meth c w N 2 _ M 0 [(0, .ref (hz_sa w i)), (1, .int x)] []
  refine hz_aload_n hO dJ0_charAt_5068e_0 rfl 0 rfl ?_
  refine hz_callTi (as := []) (rest := []) hO (c_J0_isLatin1_aae02 l w hi) hz_cal_J0_isLatin1_aae02 hi tw_2_129 (Nat.le_of_ble_eq_true rfl) rfl rfl (Nat.le_of_ble_eq_true rfl) dJ0_charAt_5068e_1 ?_
  refine hz_if_eq (tgt := 16) hO dJ0_charAt_5068e_4 (by decide) (fun hc => absurd hc (by decide)) (fun hc => ?_)
  refine hz_aload_n hO dJ0_charAt_5068e_7 rfl 0 rfl ?_
  refine hz_getO hO (hO.2.2.2.1.2.2.1 i hi).2.2.1 tw_7_92 rfl dJ0_charAt_5068e_8 ?_
  refine hz_iload_n hO dJ0_charAt_5068e_11 rfl 1 rfl ?_
  refine hz_callSi (as := [.ref (hz_sv w i), .int x]) (rest := []) hO (c_J1_charAt_3b067 l w hi hx) hz_cal_J1_charAt_3b067 tw_2_133 (Nat.le_of_ble_eq_true rfl) rfl rfl (Nat.le_of_ble_eq_true rfl) dJ0_charAt_5068e_12 ?_
  exact hz_nret hO (pk_nc _) dJ0_charAt_5068e_15

theorem c_J0_length_8abf5 (l : Launch) (w : hz_C) {N : Nat} {i : Nat} (hi : i < 6) (hn : 6 ≤ hz_ns w) {M : hz_M} : hz_Ct l yJ0_length_8abf5 cJ0_length_8abf5 1 (some .int) 1 w N [.ref (hz_sa w i)] M (hz_Qi w N (hz_sl i) M) := by
  rw [← hz_slw_c hi]
  exact cw_J0_length_8abf5 l w (Nat.lt_of_lt_of_le hi hn)
theorem c_J0_charAt_5068e (l : Launch) (w : hz_C) {N : Nat} {i : Nat} (hi : i < 6) (hn : 6 ≤ hz_ns w) {x : Int32} (hx : hz_in x (hz_len.getD i 0) = true) {M : hz_M} : hz_Ct l yJ0_charAt_5068e cJ0_charAt_5068e 2 (some .char) 3 w N [.ref (hz_sa w i), .int x] M (hz_Qi w N (hz_cc i x) M) := by
  rw [← hz_ccw_c hi]
  exact cw_J0_charAt_5068e l w (Nat.lt_of_lt_of_le hi hn) (by rw [hz_ln_c hi]; exact hx)
