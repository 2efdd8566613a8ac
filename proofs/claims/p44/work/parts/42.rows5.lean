/-! rows by hand: states' places, copies, fills, ordinal, links between nest mates -/
def hz_Sta (N b : Nat) : Prop := hz_SH[b]? = some (.inl (7, [some 1, some (b + 1), some (b + 2), some (b + 3), some (b + 4), some (b + 5), some (b + 6), some (b + 7), some (b + 8), some (b + 9), some (b + 10), some (b + 11), some (b + 12), some (b + 13), none, none, none, none, none, none])) ∧ b < N ∧ hz_SH[b + 1]? = some (.inr (.inl (0, 4))) ∧ b + 1 < N ∧ hz_SH[b + 2]? = some (.inr (.inl (0, 16))) ∧ b + 2 < N ∧ hz_SH[b + 3]? = some (.inr (.inl (0, 16))) ∧ b + 3 < N ∧ hz_SH[b + 4]? = some (.inr (.inl (0, 16))) ∧ b + 4 < N ∧ hz_SH[b + 5]? = some (.inr (.inl (0, 16))) ∧ b + 5 < N ∧ hz_SH[b + 6]? = some (.inr (.inl (0, 16))) ∧ b + 6 < N ∧ hz_SH[b + 7]? = some (.inr (.inl (0, 16))) ∧ b + 7 < N ∧ hz_SH[b + 8]? = some (.inr (.inl (0, 12))) ∧ b + 8 < N ∧ hz_SH[b + 9]? = some (.inr (.inl (0, 16))) ∧ b + 9 < N ∧ hz_SH[b + 10]? = some (.inr (.inl (0, 16))) ∧ b + 10 < N ∧ hz_SH[b + 11]? = some (.inr (.inl (0, 16))) ∧ b + 11 < N ∧ hz_SH[b + 12]? = some (.inr (.inl (0, 16))) ∧ b + 12 < N ∧ hz_SH[b + 13]? = some (.inr (.inl (0, 9))) ∧ b + 13 < N
theorem hz_sta_11 {N : Nat} (h : 178 ≤ N) : hz_Sta N 11 := ⟨hz_sh_11, hz_lt_11 h, hz_sh_12, hz_lt_12 h, hz_sh_13, hz_lt_13 h, hz_sh_14, hz_lt_14 h, hz_sh_15, hz_lt_15 h, hz_sh_16, hz_lt_16 h, hz_sh_17, hz_lt_17 h, hz_sh_18, hz_lt_18 h, hz_sh_19, hz_lt_19 h, hz_sh_20, hz_lt_20 h, hz_sh_21, hz_lt_21 h, hz_sh_22, hz_lt_22 h, hz_sh_23, hz_lt_23 h, hz_sh_24, hz_lt_24 h⟩
theorem hz_sta_36 {N : Nat} (h : 178 ≤ N) : hz_Sta N 36 := ⟨hz_sh_36, hz_lt_36 h, hz_sh_37, hz_lt_37 h, hz_sh_38, hz_lt_38 h, hz_sh_39, hz_lt_39 h, hz_sh_40, hz_lt_40 h, hz_sh_41, hz_lt_41 h, hz_sh_42, hz_lt_42 h, hz_sh_43, hz_lt_43 h, hz_sh_44, hz_lt_44 h, hz_sh_45, hz_lt_45 h, hz_sh_46, hz_lt_46 h, hz_sh_47, hz_lt_47 h, hz_sh_48, hz_lt_48 h, hz_sh_49, hz_lt_49 h⟩
theorem hz_sta_50 {N : Nat} (h : 178 ≤ N) : hz_Sta N 50 := ⟨hz_sh_50, hz_lt_50 h, hz_sh_51, hz_lt_51 h, hz_sh_52, hz_lt_52 h, hz_sh_53, hz_lt_53 h, hz_sh_54, hz_lt_54 h, hz_sh_55, hz_lt_55 h, hz_sh_56, hz_lt_56 h, hz_sh_57, hz_lt_57 h, hz_sh_58, hz_lt_58 h, hz_sh_59, hz_lt_59 h, hz_sh_60, hz_lt_60 h, hz_sh_61, hz_lt_61 h, hz_sh_62, hz_lt_62 h, hz_sh_63, hz_lt_63 h⟩
theorem hz_sta_64 {N : Nat} (h : 178 ≤ N) : hz_Sta N 64 := ⟨hz_sh_64, hz_lt_64 h, hz_sh_65, hz_lt_65 h, hz_sh_66, hz_lt_66 h, hz_sh_67, hz_lt_67 h, hz_sh_68, hz_lt_68 h, hz_sh_69, hz_lt_69 h, hz_sh_70, hz_lt_70 h, hz_sh_71, hz_lt_71 h, hz_sh_72, hz_lt_72 h, hz_sh_73, hz_lt_73 h, hz_sh_74, hz_lt_74 h, hz_sh_75, hz_lt_75 h, hz_sh_76, hz_lt_76 h, hz_sh_77, hz_lt_77 h⟩
theorem hz_sta_78 {N : Nat} (h : 178 ≤ N) : hz_Sta N 78 := ⟨hz_sh_78, hz_lt_78 h, hz_sh_79, hz_lt_79 h, hz_sh_80, hz_lt_80 h, hz_sh_81, hz_lt_81 h, hz_sh_82, hz_lt_82 h, hz_sh_83, hz_lt_83 h, hz_sh_84, hz_lt_84 h, hz_sh_85, hz_lt_85 h, hz_sh_86, hz_lt_86 h, hz_sh_87, hz_lt_87 h, hz_sh_88, hz_lt_88 h, hz_sh_89, hz_lt_89 h, hz_sh_90, hz_lt_90 h, hz_sh_91, hz_lt_91 h⟩
theorem hz_sta_92 {N : Nat} (h : 178 ≤ N) : hz_Sta N 92 := ⟨hz_sh_92, hz_lt_92 h, hz_sh_93, hz_lt_93 h, hz_sh_94, hz_lt_94 h, hz_sh_95, hz_lt_95 h, hz_sh_96, hz_lt_96 h, hz_sh_97, hz_lt_97 h, hz_sh_98, hz_lt_98 h, hz_sh_99, hz_lt_99 h, hz_sh_100, hz_lt_100 h, hz_sh_101, hz_lt_101 h, hz_sh_102, hz_lt_102 h, hz_sh_103, hz_lt_103 h, hz_sh_104, hz_lt_104 h, hz_sh_105, hz_lt_105 h⟩
theorem hz_sta_106 {N : Nat} (h : 178 ≤ N) : hz_Sta N 106 := ⟨hz_sh_106, hz_lt_106 h, hz_sh_107, hz_lt_107 h, hz_sh_108, hz_lt_108 h, hz_sh_109, hz_lt_109 h, hz_sh_110, hz_lt_110 h, hz_sh_111, hz_lt_111 h, hz_sh_112, hz_lt_112 h, hz_sh_113, hz_lt_113 h, hz_sh_114, hz_lt_114 h, hz_sh_115, hz_lt_115 h, hz_sh_116, hz_lt_116 h, hz_sh_117, hz_lt_117 h, hz_sh_118, hz_lt_118 h, hz_sh_119, hz_lt_119 h⟩
theorem hz_sta_120 {N : Nat} (h : 178 ≤ N) : hz_Sta N 120 := ⟨hz_sh_120, hz_lt_120 h, hz_sh_121, hz_lt_121 h, hz_sh_122, hz_lt_122 h, hz_sh_123, hz_lt_123 h, hz_sh_124, hz_lt_124 h, hz_sh_125, hz_lt_125 h, hz_sh_126, hz_lt_126 h, hz_sh_127, hz_lt_127 h, hz_sh_128, hz_lt_128 h, hz_sh_129, hz_lt_129 h, hz_sh_130, hz_lt_130 h, hz_sh_131, hz_lt_131 h, hz_sh_132, hz_lt_132 h, hz_sh_133, hz_lt_133 h⟩
theorem hz_sta_134 {N : Nat} (h : 178 ≤ N) : hz_Sta N 134 := ⟨hz_sh_134, hz_lt_134 h, hz_sh_135, hz_lt_135 h, hz_sh_136, hz_lt_136 h, hz_sh_137, hz_lt_137 h, hz_sh_138, hz_lt_138 h, hz_sh_139, hz_lt_139 h, hz_sh_140, hz_lt_140 h, hz_sh_141, hz_lt_141 h, hz_sh_142, hz_lt_142 h, hz_sh_143, hz_lt_143 h, hz_sh_144, hz_lt_144 h, hz_sh_145, hz_lt_145 h, hz_sh_146, hz_lt_146 h, hz_sh_147, hz_lt_147 h⟩
theorem hz_sta_148 {N : Nat} (h : 178 ≤ N) : hz_Sta N 148 := ⟨hz_sh_148, hz_lt_148 h, hz_sh_149, hz_lt_149 h, hz_sh_150, hz_lt_150 h, hz_sh_151, hz_lt_151 h, hz_sh_152, hz_lt_152 h, hz_sh_153, hz_lt_153 h, hz_sh_154, hz_lt_154 h, hz_sh_155, hz_lt_155 h, hz_sh_156, hz_lt_156 h, hz_sh_157, hz_lt_157 h, hz_sh_158, hz_lt_158 h, hz_sh_159, hz_lt_159 h, hz_sh_160, hz_lt_160 h, hz_sh_161, hz_lt_161 h⟩
theorem hz_sta_162 {N : Nat} (h : 178 ≤ N) : hz_Sta N 162 := ⟨hz_sh_162, hz_lt_162 h, hz_sh_163, hz_lt_163 h, hz_sh_164, hz_lt_164 h, hz_sh_165, hz_lt_165 h, hz_sh_166, hz_lt_166 h, hz_sh_167, hz_lt_167 h, hz_sh_168, hz_lt_168 h, hz_sh_169, hz_lt_169 h, hz_sh_170, hz_lt_170 h, hz_sh_171, hz_lt_171 h, hz_sh_172, hz_lt_172 h, hz_sh_173, hz_lt_173 h, hz_sh_174, hz_lt_174 h, hz_sh_175, hz_lt_175 h⟩
theorem hz_cl {x : Int32} {n : Nat} (g : hz_in x n = true) : x.toNatClampNeg < n := by
  have h1 : 0 ≤ x.toInt ∧ x.toInt < n := by simpa [hz_in] using g
  have e : (x.toNatClampNeg : Int) = x.toInt := by show ((x.toInt.toNat : Nat) : Int) = _; omega
  omega
def hz_pa (x : Int32) : Nat := 36 + 14 * x.toNatClampNeg
def hz_ka (x : Int32) : Nat := 148 + 14 * x.toNatClampNeg
theorem hz_pa_sta {N : Nat} (hN : 178 ≤ N) {x : Int32} (g : hz_in x 8 = true) : hz_Sta N (hz_pa x) := by
  have h := hz_cl g
  unfold hz_pa
  generalize x.toNatClampNeg = j at h
  match j, h with
  | 0, _ => exact hz_sta_36 hN
  | 1, _ => exact hz_sta_50 hN
  | 2, _ => exact hz_sta_64 hN
  | 3, _ => exact hz_sta_78 hN
  | 4, _ => exact hz_sta_92 hN
  | 5, _ => exact hz_sta_106 hN
  | 6, _ => exact hz_sta_120 hN
  | 7, _ => exact hz_sta_134 hN
  | k + 8, h => exact absurd h (by omega)
theorem hz_ka_sta {N : Nat} (hN : 178 ≤ N) {x : Int32} (g : hz_in x 2 = true) : hz_Sta N (hz_ka x) := by
  have h := hz_cl g
  unfold hz_ka
  generalize x.toNatClampNeg = j at h
  match j, h with
  | 0, _ => exact hz_sta_148 hN
  | 1, _ => exact hz_sta_162 hN
  | k + 2, h => exact absurd h (by omega)
theorem hz_pa_at {x : Int32} (g : hz_in x 8 = true) : [36, 50, 64, 78, 92, 106, 120, 134][x.toNatClampNeg]? = some (hz_pa x) := by
  have h := hz_cl g
  unfold hz_pa
  generalize x.toNatClampNeg = j at h
  match j, h with
  | 0, _ => rfl
  | 1, _ => rfl
  | 2, _ => rfl
  | 3, _ => rfl
  | 4, _ => rfl
  | 5, _ => rfl
  | 6, _ => rfl
  | 7, _ => rfl
  | k + 8, h => exact absurd h (by omega)
theorem hz_ka_at {x : Int32} (g : hz_in x 2 = true) : [148, 162][x.toNatClampNeg]? = some (hz_ka x) := by
  have h := hz_cl g
  unfold hz_ka
  generalize x.toNatClampNeg = j at h
  match j, h with
  | 0, _ => rfl
  | 1, _ => rfl
  | k + 2, h => exact absurd h (by omega)
def hz_cpy (M : hz_M) (i j n : Nat) : hz_M := fun a b => if a = j ∧ b < n then M i b else M a b
def hz_fil (M : hz_M) (i n : Nat) (v : Int32) : hz_M := fun a b => if a = i ∧ b < n then v else M a b
theorem hz_cr {a : Nat} : (Value.ref a).category = 1 := rfl
theorem hz_ci {a : Int32} : (Value.int a).category = 1 := rfl
section HZ5
variable {p : Program} {l : Launch} {e : Env} {h : Nat} {z : hz_Z} {s : State} {m : MethodId} {args : Array Value} {below : List Frame} {meth : Method} {c : Code} {w : hz_C} {N nL : Nat} {Q : State → Prop} {M : hz_M} {pc : Nat} {ls : List (Nat × Value)} {st : List Value} {cc : ByteArray} {own : String} {ret : Option FieldType}
theorem hz_nameE {x y : Int32} (hx : y = x) (kk : hz_G p l e h z s m args below meth c w N nL Q M pc ls (hz_ev w y :: st)) : hz_G p l e h z s m args below meth c w N nL Q M pc ls (hz_ev w x :: st) := hx ▸ kk
theorem hz_acopy (hO : hz_Ok p s m args meth c w cc nL own ret) {i j n0 n1 k idx : Nat} {n : Int32} (hi : hz_SH[i]? = some (.inr (.inl (0, n0)))) (hiN : i < N) (hj : hz_SH[j]? = some (.inr (.inl (0, n1)))) (hjN : j < N) (hn : ¬ n < 0) (hk : n.toNatClampNeg = k) (h0 : k ≤ n0) (h1 : k ≤ n1) (hlink : Cond.methodLink own idx arraycopyName ∈ hz_TB) (hh : 1 ≤ h) (hcat : (st.map fun v => v.category).sum ≤ 8) (hdg : decode cc pc = .ok (.invokestatic idx, 3))
    (kk : hz_G p l e h z s m args below meth c w N nL Q (hz_cpy M i j k) (pc + 3) ls st) : hz_G p l e h z s m args below meth c w N nL Q M pc ls (.int n :: .int 0 :: .ref (hz_ad w j) :: .int 0 :: .ref (hz_ad w i) :: st) := by
  intro hzk H locs la hW hS hL
  have e3 : (hz_cpy M i j k) j = va_cpy (M i) (M j) (0 : Int32).toNatClampNeg (0 : Int32).toNatClampNeg n.toNatClampNeg := by
    funext b
    rw [hk]
    have z0 : (0 : Int32).toNatClampNeg = 0 := rfl
    rw [z0]
    simp [hz_cpy, va_cpy]
  have e : hz_ws w N (hz_cpy M i j k) = (hz_ws w N M).set j (hz_ad w j, .inl (hz_tc w 0, n1, .inl (va_cpy (M i) (M j) (0 : Int32).toNatClampNeg (0 : Int32).toNatClampNeg n.toNatClampNeg))) := by
    rw [hz_ws_set (M := M) hj (fun a ha => by funext b; simp [hz_cpy, ha]), e3]
    rfl
  have hw : nativeFrameWords "java/lang/System" "arraycopy" 5 + 11 ≤ 52 := by decide
  refine va_copyi (D := hz_D w) hO.1.1 hO.1.2.1 (hO.1.2.2.1.trans hL.1.symm) hO.1.2.2.2.1 (hO.1.2.2.2.2 _ hlink) (hO.1.2.2.2.2 _ tw_3_171) (hO.1.2.2.2.2 _ tw_3_170) (hO.1.2.2.2.2 _ tw_1_20) hW.2.1 hW.1 hW.2.2.1 hS i j 0 0 (hz_ws_at hi hiN) (hz_ws_at hj hjN) rfl rfl rfl (by decide) (by decide) hn ?_ ?_ (fun _ _ => rfl) hh ?_ hdg (fun H1 locs1 hP hD hS1 => ?_)
  · rw [hk]; show 0 + k ≤ n0; omega
  · rw [hk]; show 0 + k ≤ n1; omega
  · show _ ≤ 60 * h; omega
  · rw [← e] at hP hD
    exact kk hzk H1 locs1 la ⟨hP, hW.2.1, hD, hO.2.2.2.2.le hS1.1⟩ hS1 hL
theorem hz_callNv (hO : hz_Ok p s m args meth c w cc nL own ret) {idx n nLy hc i ci nf : Nat} {C host : String} {T : u_T} {fs : List (Option Nat)} {y : MethodName} {b : ByteArray} {rt : Option FieldType} {as rest : List Value} {M1 : hz_M} (hC : hz_Ct l y b nLy rt hc w N (.ref (hz_ad w i) :: as) M (hz_Qv w N M1)) (hcal : hz_CalV C y b nLy rt n) (hKl : hz_Kl ci C T nf) (hsh : hz_SH[i]? = some (.inl (ci, fs))) (hi : i < N) (hq : (own, idx, y, host) ∈ hz_nest) (hh : hc + 1 ≤ h) (hn : as.length = n) (hst : st = as.reverse ++ .ref (hz_ad w i) :: rest) (hcat : (rest.map fun v => v.category).sum ≤ 8) (hdg : decode cc pc = .ok (.invokevirtual idx, 3))
    (kk : hz_G p l e h z s m args below meth c w N nL Q M1 (pc + 3) ls rest) : hz_G p l e h z s m args below meth c w N nL Q M pc ls st := by
  intro hzk H locs la hW hS hL
  have hts := hO.1.2.2.2.2
  have cw : va_CN (hz_rm h z) s args own idx y host b nLy rt (Cond.code y b nLy rt :: hz_TB) (hz_rm hc hz_z0) 0 0 n ∧ (Cond.instanceMethod y).before args s = true ∧ (Cond.selects C y y).before args s = true := by
    refine ⟨va_cnB n hts (hz_goodC hcal.1.1) rfl rfl rfl (hO.2.2.2.1.2.2.2.2.1 _ hq) ?_ hcal.1.2.2.1.2 (hz_fit hh hcal.1.2.2.2), hts _ hcal.2.1, hts _ hcal.2.2⟩
    rw [hcal.1.2.2.1.1]
    exact hts _ hcal.1.2.1
  refine va_callv (va_runVN (As := as) (rest := rest) hO.1 hC cw ⟨hz_blind, va_recv hW.2.1 hW.1 (ci := ci) (q0 := i) hKl.1 (hz_ws_at hsh hi), hz_pre hO hW hS⟩ rfl hn hL.1 hst (lv_room hcat) hdg ⟨hzk.1, hzk.2⟩) hS (fun q _ z => z) (fun q z => z) (fun u t H1 locs1 ht hvm hr hB hz1 hk1 hS1 => ?_)
  exact kk hzk H1 locs1 la (hz_back ht hvm hB) hS1 hL
theorem c_ord (l : Launch) (w : hz_C) {N : Nat} {x : Int32} (hx : hz_nn x = true) {M : hz_M} : hz_Ct l yJx29ce0_ordinal_8abf5 cJx29ce0_ordinal_8abf5 1 (some .int) 0 w N [hz_ev w x] M (hz_Qi w N (hz_eF 0 x) M) := by
  refine hz_ofW (by decide) rfl (by simp [lg_sl, hz_ev_cat, hz_cr, hz_ci]) tw_5_165 ?_
  intro p e s m args below meth c hO
  show hz_G p l e 0 hz_z0 s m args below meth c w N 1 _ M 0 [(0, hz_ev w x)] []
  refine hz_aload_nE hO dJx29ce0_ordinal_8abf5_0 rfl 0 rfl ?_
  refine hz_getE (j := 0) hO hx rfl tw_7_153 rfl dJx29ce0_ordinal_8abf5_1 ?_
  exact hz_iret hO dJx29ce0_ordinal_8abf5_4
theorem hz_ordG {own : String} {idx : Nat} (hlink : Cond.methodLink own idx ⟨"HotSteps$Order", "ordinal", "()I"⟩ ∈ hz_TB) : GoodIn hz_TB (va_wsU own idx "HotSteps$Order" "java/lang/Enum" ⟨"HotSteps$Order", "ordinal", "()I"⟩ yJx29ce0_ordinal_8abf5 (Cond.code yJx29ce0_ordinal_8abf5 cJx29ce0_ordinal_8abf5 1 (some .int) :: hz_TB)) := by
  intro q hq
  unfold va_wsU at hq
  rcases List.mem_append.mp hq with hq | hq
  · simp only [List.mem_cons, List.not_mem_nil, or_false] at hq
    rcases hq with rfl | rfl | rfl | rfl | rfl
    · exact hz_good _ hlink
    · exact hz_good _ tw_5_161
    · exact hz_good _ tw_5_163
    · exact hz_good _ tw_5_164
    · exact hz_good _ tw_1_28
  · exact hz_goodC tw_5_165 q hq
theorem hz_ord (hO : hz_Ok p s m args meth c w cc nL own ret) {idx : Nat} {x : Int32} {rest : List Value} (hx : hz_nn x = true) (hlink : Cond.methodLink own idx ⟨"HotSteps$Order", "ordinal", "()I"⟩ ∈ hz_TB) (hh : 1 ≤ h) (hcat : (rest.map fun v => v.category).sum ≤ 8) (hdg : decode cc pc = .ok (.invokevirtual idx, 3))
    (kk : hz_G p l e h z s m args below meth c w N nL Q M (pc + 3) ls (.int (hz_eF 0 x) :: rest)) : hz_G p l e h z s m args below meth c w N nL Q M pc ls (hz_ev w x :: rest) := by
  intro hzk H locs la hW hS hL
  have e1 := hz_nn_e hx
  have hC := c_ord l w (N := N) hx (M := M)
  rw [hz_ev_nn hx] at hC ⊢
  obtain ⟨cell, g1, g2, g3, -⟩ := (hO.2.2.2.1.1.1 (x.toNatClampNeg - 1) (by show _ < 10; omega)).2.1.kept hS.2.1
  have cw := va_cwU (R := hz_rm h z) (rm := hz_rm 0 hz_z0) 0 hO.1.2.2.2.2 (hz_ordG hlink) rfl rfl rfl rfl (by decide +kernel) (hz_fit (z := z) (hc := 0) (nLy := 1) hh (by decide))
  refine va_calli (va_runU (As := []) (rest := rest) hO.1 hC cw ⟨hz_blind, ⟨cell, g1, g2, g3⟩, hz_pre hO hW hS⟩ rfl rfl hL.1 rfl (lv_room hcat) hdg ⟨hzk.1, hzk.2⟩) hS (fun q _ z => z) (fun q z => z) (fun r1 u t H1 locs1 ht hvm hr hB hz1 hk1 hS1 => ?_)
  subst hr
  exact kk hzk H1 locs1 la (hz_back ht hvm hB) hS1 hL
end HZ5
theorem hz_cal_X7_copyRow : hz_CalS RX7 yX7_copyRow cX7_copyRow 2 none 2 := ⟨⟨tw_3_167, tw_1_4, ⟨rfl, by decide, by decide, by decide +kernel⟩, Nat.le_of_ble_eq_true rfl⟩, tw_3_166⟩
theorem hz_cal_J7_fill_53178 : hz_CalS "java/util/Arrays" yJ7_fill_53178 cJ7_fill_53178 4 none 2 := ⟨⟨tw_3_23, tw_1_15, ⟨rfl, by decide, by decide, by decide +kernel⟩, Nat.le_of_ble_eq_true rfl⟩, tw_3_22⟩
set_option maxRecDepth 100000 in
set_option maxHeartbeats 4000000 in
theorem c_X7_copyRow (l : Launch) (w : hz_C) {N i j n : Nat} (hi : hz_SH[i]? = some (.inr (.inl (0, n)))) (hiN : i < N) (hj : hz_SH[j]? = some (.inr (.inl (0, n)))) (hjN : j < N) (hn : n < 2 ^ 31) {M : hz_M} : hz_Ct l yX7_copyRow cX7_copyRow 2 none 2 w N [.ref (hz_ad w i), .ref (hz_ad w j)] M (hz_Qv w N (hz_cpy M i j n)) := by
  refine hz_ofW (by decide) rfl (Nat.le_of_ble_eq_true rfl) tw_3_167 ?_
  intro p e s m args below meth c hO
  show hz_G p l e 2 hz_z0 s m args below meth c w N 2 _ M 0 [(0, .ref (hz_ad w i)), (1, .ref (hz_ad w j))] []
  refine hz_aload_n hO dX7_copyRow_0 rfl 0 rfl ?_
  refine hz_iconst (v := (0 : Int32)) hO dX7_copyRow_1 (by decide) ?_
  refine hz_aload_n hO dX7_copyRow_2 rfl 1 rfl ?_
  refine hz_iconst (v := (0 : Int32)) hO dX7_copyRow_3 (by decide) ?_
  refine hz_aload_n hO dX7_copyRow_4 rfl 0 rfl ?_
  refine hz_alen (v := nI n) hO hi hiN rfl dX7_copyRow_5 ?_
  refine hz_aload_n hO dX7_copyRow_6 rfl 1 rfl ?_
  refine hz_alen (v := nI n) hO hj hjN rfl dX7_copyRow_7 ?_
  refine hz_mmin hO tw_3_168 (Nat.le_of_ble_eq_true rfl) (Nat.le_of_ble_eq_true rfl) dX7_copyRow_8 ?_
  refine hz_name (y := nI n) (by split <;> rfl) ?_
  refine hz_acopy (k := n) hO hi hiN hj hjN (nI_pos hn) (nI_clamp hn) (Nat.le_refl n) (Nat.le_refl n) tw_3_169 (Nat.le_of_ble_eq_true rfl) (Nat.le_of_ble_eq_true rfl) dX7_copyRow_11 ?_
  exact hz_vret hO dX7_copyRow_14
theorem hz_fil_set {M : hz_M} {i k : Nat} {v : Int32} : hz_set (hz_fil M i k v) i k v = hz_fil M i (k + 1) v := by
  funext a b
  by_cases ha : a = i
  · by_cases hb : b = k
    · subst hb
      simp [hz_set, hz_fil, ha]
    · simp only [hz_set, hz_fil, ha, hb, and_false, if_false, true_and]
      by_cases hlt : b < k
      · rw [if_pos hlt, if_pos (by omega)]
      · rw [if_neg hlt, if_neg (by omega)]
  · simp [hz_set, hz_fil, ha]
theorem hz_fil_0 {M : hz_M} {i : Nat} {v : Int32} : hz_fil M i 0 v = M := by
  funext a b
  simp [hz_fil]
set_option maxRecDepth 100000 in
set_option maxHeartbeats 4000000 in
theorem c_J7_fill_53178 (l : Launch) (w : hz_C) {N i n : Nat} (hi : hz_SH[i]? = some (.inr (.inl (0, n)))) (hiN : i < N) (hn : n < 2 ^ 31) (v : Int32) {M : hz_M} : hz_Ct l yJ7_fill_53178 cJ7_fill_53178 4 none 0 w N [.ref (hz_ad w i), .int v] M (hz_Qv w N (hz_fil M i n v)) := by
  refine hz_ofW (by decide) rfl (Nat.le_of_ble_eq_true rfl) tw_3_23 ?_
  intro p e s m args below meth c hO
  show hz_G p l e 0 hz_z0 s m args below meth c w N 4 _ M 0 [(0, .ref (hz_ad w i)), (1, .int v)] []
  refine hz_iconst (v := (0 : Int32)) hO dJ7_fill_53178_0 (by decide) ?_
  refine hz_istore_n (ls1 := [(2, .int 0), (0, .ref (hz_ad w i)), (1, .int v)]) hO dJ7_fill_53178_1 rfl (Nat.le_of_ble_eq_true rfl) rfl ?_
  refine hz_aload_n hO dJ7_fill_53178_2 rfl 1 rfl ?_
  refine hz_alen (v := nI n) hO hi hiN rfl dJ7_fill_53178_3 ?_
  refine hz_istore_n (ls1 := [(3, .int (nI n)), (2, .int 0), (0, .ref (hz_ad w i)), (1, .int v)]) hO dJ7_fill_53178_4 rfl (Nat.le_of_ble_eq_true rfl) rfl ?_
  have hl : ∀ (d k : Nat), k + d = n → hz_G p l e 0 hz_z0 s m args below meth c w N 4 (MQ below (hz_Qv w N (hz_fil M i n v)) args s 0 0 (hz_A w)) (hz_fil M i k v) 5 [(0, .ref (hz_ad w i)), (1, .int v), (2, .int (nI k)), (3, .int (nI n))] [] := by
    intro d
    induction d with
    | zero =>
      intro k hk
      have hk2 : k = n := by omega
      subst hk2
      refine hz_iload_n hO dJ7_fill_53178_5 rfl 2 rfl ?_
      refine hz_iload_n hO dJ7_fill_53178_6 rfl 3 rfl ?_
      refine hz_icmp_ge (tgt := 20) hO dJ7_fill_53178_7 (by decide) (fun hc => ?_) (fun hc => absurd (nI_le (Nat.le_refl k) hn) hc)
      exact hz_vret hO dJ7_fill_53178_20
    | succ d ih =>
      intro k hk
      have hlt : k < n := by omega
      refine hz_iload_n hO dJ7_fill_53178_5 rfl 2 rfl ?_
      refine hz_iload_n hO dJ7_fill_53178_6 rfl 3 rfl ?_
      refine hz_icmp_ge (tgt := 20) hO dJ7_fill_53178_7 (by decide) (fun hc => absurd hc (nI_ge hlt hn)) (fun hc => ?_)
      refine hz_aload_n hO dJ7_fill_53178_10 rfl 0 rfl ?_
      refine hz_iload_n hO dJ7_fill_53178_11 rfl 2 rfl ?_
      refine hz_iload_n hO dJ7_fill_53178_12 rfl 1 rfl ?_
      have hin : hz_in (nI k) n = true := by
        have e1 : (nI k).toInt = (k : Int) := nI_toInt (by omega)
        simp only [hz_in, e1, Bool.and_eq_true, decide_eq_true_eq]
        omega
      refine hz_iast hO hi hiN hin dJ7_fill_53178_13 ?_
      rw [nI_clamp (by omega), hz_fil_set]
      refine hz_iinc (k := 2) (v := nI (k + 1)) (ls1 := [(2, .int (nI (k + 1))), (0, .ref (hz_ad w i)), (1, .int v), (3, .int (nI n))]) hO dJ7_fill_53178_14 rfl (nI_1 k) (Nat.le_of_ble_eq_true rfl) rfl ?_
      refine hz_goto (tgt := 5) hO dJ7_fill_53178_17 (by decide) ?_
      exact hz_ls [1, 2, 0, 3] rfl (ih (k + 1) (by omega))
  have h0 := hl n 0 (by omega)
  rw [hz_fil_0] at h0
  exact hz_ls [2, 3, 1, 0] rfl h0
