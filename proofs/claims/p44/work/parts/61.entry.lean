/-! THE ENTRY: what the Statement gives of the start, as one world -/
def hz_fla : List Cond := flatC (Jvm.Cond.and given_1 narrow_1)
def hz_tk : List (String × Nat) := [("HotSteps", 80), ("HotSteps$House", 60), ("HotSteps$House", 87), ("HotStepsLaw", 38), ("HotStepsLaw", 301), ("HotStepsLaw", 309)]
def hz_tT (i : Nat) : Term := .string (hz_tk.getD i ("", 0)).1 (hz_tk.getD i ("", 0)).2
def hz_tV (i : Nat) : Term := .field (hz_tT i) "java/lang/String" "value" "[B"
def hz_oT (i : Nat) : Term := .static "HotSteps$Order" (hz_nm.getD i "") "LHotSteps$Order;"
set_option maxRecDepth 100000
theorem hz_e1 : ∀ i, i < 6 → Cond.exactly (hz_tT i) "java/lang/String" ∈ hz_fla := by decide +kernel
theorem hz_e2 : ∀ i, i < 6 → Cond.eq (.field (hz_tT i) "java/lang/String" "coder" "B") (.int 0) ∈ hz_fla ∧ Cond.arrayOf (hz_tV i) .byte ∈ hz_fla ∧ Cond.eq (.length (hz_tV i)) (.int (Int32.ofNat (hz_len.getD i 0))) ∈ hz_fla := by decide +kernel
def hz_el (i j : Nat) : Cond := Cond.eq (.elem (hz_tV i) (.int (Int32.ofNat j))) (.int ((hz_byt.getD i []).getD j 0))
theorem hz_e3_s {k n i j : Nat} (h : (hz_fla.drop k).take n = (List.range n).map (hz_el i)) (hj : j < n) : hz_el i j ∈ hz_fla := by
  have h1 : hz_el i j ∈ (List.range n).map (hz_el i) := List.mem_map.mpr ⟨j, List.mem_range.mpr hj, rfl⟩
  rw [← h] at h1
  exact List.mem_of_mem_drop (List.mem_of_mem_take h1)
theorem hz_e3_0 : (hz_fla.drop 372).take 90 = (List.range 90).map (hz_el 0) := by decide +kernel
theorem hz_e3_1 : (hz_fla.drop 466).take 4 = (List.range 4).map (hz_el 1) := by decide +kernel
theorem hz_e3_2 : (hz_fla.drop 475).take 5 = (List.range 5).map (hz_el 2) := by decide +kernel
theorem hz_e3_3 : (hz_fla.drop 666).take 1 = (List.range 1).map (hz_el 3) := by decide +kernel
theorem hz_e3_4 : (hz_fla.drop 629).take 5 = (List.range 5).map (hz_el 4) := by decide +kernel
theorem hz_e3_5 : (hz_fla.drop 646).take 7 = (List.range 7).map (hz_el 5) := by decide +kernel
theorem hz_e3 : ∀ i, i < 6 → ∀ j, j < hz_len.getD i 0 → Cond.eq (.elem (hz_tV i) (.int (Int32.ofNat j))) (.int ((hz_byt.getD i []).getD j 0)) ∈ hz_fla := by
  intro i hi j hj
  match i, hi, hj with
  | 0, _, hj => exact hz_e3_s hz_e3_0 hj
  | 1, _, hj => exact hz_e3_s hz_e3_1 hj
  | 2, _, hj => exact hz_e3_s hz_e3_2 hj
  | 3, _, hj => exact hz_e3_s hz_e3_3 hj
  | 4, _, hj => exact hz_e3_s hz_e3_4 hj
  | 5, _, hj => exact hz_e3_s hz_e3_5 hj
  | k + 6, hi, _ => exact absurd hi (by omega)
def hz_dT (a : Nat) : Term := .static "java/lang/Integer" (if a = 0 then "DigitOnes" else "DigitTens") "[B"
def hz_dV (a j : Nat) : Int32 := if a = 0 then nI (48 + j % 10) else nI (48 + j / 10)
def hz_dE (a j : Nat) : Cond := Cond.eq (.elem (hz_dT a) (.int (Int32.ofNat j))) (.int (hz_dV a j))
theorem hz_d3_0 : (hz_fla.drop 123).take 100 = (List.range 100).map (hz_dE 0) := by decide +kernel
theorem hz_d3_1 : (hz_fla.drop 226).take 100 = (List.range 100).map (hz_dE 1) := by decide +kernel
theorem hz_d3_s {k a j : Nat} (h : (hz_fla.drop k).take 100 = (List.range 100).map (hz_dE a)) (hj : j < 100) : hz_dE a j ∈ hz_fla := by
  have h1 : hz_dE a j ∈ (List.range 100).map (hz_dE a) := List.mem_map.mpr ⟨j, List.mem_range.mpr hj, rfl⟩
  rw [← h] at h1
  exact List.mem_of_mem_drop (List.mem_of_mem_take h1)
theorem hz_d1 : ∀ a, a < 2 → Cond.arrayOf (hz_dT a) .byte ∈ hz_fla ∧ Cond.eq (.length (hz_dT a)) (.int 100) ∈ hz_fla := by decide +kernel
theorem hz_d2 : Cond.laysStatic "java/lang/Integer" "DigitOnes" "[B" ∈ lw_tbl ∧ Cond.laysStatic "java/lang/Integer" "DigitTens" "[B" ∈ lw_tbl ∧ Cond.initialized "java/lang/Integer" ∈ lw_tbl := by decide +kernel
theorem hz_e4 : ∀ i, i < 10 → Cond.laysStatic "HotSteps$Order" (hz_nm.getD i "") "LHotSteps$Order;" ∈ lw_tbl ∧ Cond.exactly (hz_oT i) "HotSteps$Order" ∈ hz_fla := by decide +kernel
theorem hz_e4b : ∀ i, i < 11 → Cond.eq (.elem (.static "HotSteps$1" "$SwitchMap$HotSteps$Order" "[I") (.int (Int32.ofNat i))) (.int (hz_sw.getD i 0)) ∈ hz_fla := by decide +kernel
theorem hz_e5 : ∀ q ∈ hz_F, ∀ i, i < 10 → Cond.eq (.field (hz_oT i) q.1 q.2.1 q.2.2.1) (.int (q.2.2.2.getD i 0)) ∈ hz_fla := by decide +kernel
theorem hz_e6 : ∀ i, i < 10 → ∀ j, j < 10 → i ≠ j → Cond.not (.eq (hz_oT i) (hz_oT j)) ∈ hz_fla ∨ Cond.not (.eq (hz_oT j) (hz_oT i)) ∈ hz_fla := by decide +kernel
theorem hz_e7 : ∀ q ∈ hz_ldcs, q.2.2.2 < 6 ∧ Cond.stringRef q.1 q.2.1 q.2.2.1 ∈ lw_tbl ∧ (Term.string q.1 q.2.1) = hz_tT q.2.2.2 := by decide +kernel
theorem hz_e9 : ∀ q ∈ hz_nest, Cond.methodLinkNest q.1 q.2.1 q.2.2.1 q.2.2.2 ∈ lw_tbl := by decide +kernel
theorem hz_e9F : ∀ q ∈ hz_nestF, Cond.fieldLinkNest q.1 q.2.1 q.2.2.1 q.2.2.2.1 q.2.2.2.2.1 q.2.2.2.2.2 ∈ lw_tbl := by decide +kernel
theorem hz_e9P : ∀ y ∈ hz_pvl, Cond.privateMethod y ∈ lw_tbl := by decide +kernel
theorem hz_e9C : Cond.castable "[B" "java/lang/Cloneable" ∈ lw_tbl := by decide +kernel
theorem hz_e10 : Cond.arrayOf (.static "HotSteps$1" "$SwitchMap$HotSteps$Order" "[I") .int ∈ hz_fla ∧ Cond.eq (.length (.static "HotSteps$1" "$SwitchMap$HotSteps$Order" "[I")) (.int 11) ∈ hz_fla ∧ Cond.laysStatic "HotSteps$1" "$SwitchMap$HotSteps$Order" "[I" ∈ lw_tbl ∧ Cond.initialized "HotSteps$1" ∈ lw_tbl := by decide +kernel
theorem hz_e11 : Cond.initialized "HotSteps$Order" ∈ lw_tbl := by decide +kernel
theorem hz_e12 : Cond.eq (.static "java/lang/String" "COMPACT_STRINGS" "Z") (.int 1) ∈ hz_fla ∧ Cond.laysStatic "java/lang/String" "COMPACT_STRINGS" "Z" ∈ lw_tbl ∧ Cond.initialized "java/lang/String" ∈ lw_tbl := by decide +kernel
theorem hz_e13 : Cond.isRef (.static "jdk/internal/util/Preconditions" "SIOOBE_FORMATTER" "Ljava/util/function/BiFunction;") ∈ hz_fla ∧ Cond.laysStatic "jdk/internal/util/Preconditions" "SIOOBE_FORMATTER" "Ljava/util/function/BiFunction;" ∈ lw_tbl ∧ Cond.initialized "jdk/internal/util/Preconditions" ∈ lw_tbl := by decide +kernel
theorem hz_e16 : Cond.arrayClass .int ∈ lw_tbl ∧ Cond.arrayClass .boolean ∈ lw_tbl ∧ Cond.arrayClass .byte ∈ lw_tbl ∧ Cond.arrayOver (.object "HotSteps$State") ∈ lw_tbl ∧ Cond.arrayOver (.object "HotSteps$Order") ∈ lw_tbl ∧ Cond.arrayOver (.object "HotStepsLaw$Own") ∈ lw_tbl := by decide +kernel
theorem hz_e17 : ∀ q ∈ [("java/lang/String", 4), ("java/lang/StringBuilder", 4), ("HotSteps$Deeds", 4), ("HotSteps$History", 5), ("HotSteps$House", 12), ("HotSteps$Report", 3), ("HotSteps$Script", 9), ("HotSteps$State", 20), ("HotSteps$Text", 8), ("HotSteps$Why", 2), ("HotSteps", 10), ("HotStepsLaw$Own", 24)], Cond.instantiable q.1 q.2 ∈ lw_tbl := by decide +kernel
set_option maxRecDepth 512
theorem hz_OFof {args : Array Value} {s : State} {t : Term} {a : Nat} {o n d : String} {v : Value} {A : Nat → Prop} (ht : t.eval args s none [] s = some (.ref a)) (hv : (Term.field t o n d).eval args s none [] s = some v) (hA : ∀ a : Nat, a < s.heap.size → ¬ A a) : va_OF o n d v a A s s.heap := by
  cases hfo : s.fieldFound? o n d with
  | none =>
    rw [va_fe ht] at hv
    simp [State.fieldOf?, State.fieldNamed?, hfo] at hv
  | some x =>
    obtain ⟨cf, k, fi, f⟩ := x
    obtain ⟨g1, cell, g2, g3, -, -, g6⟩ := Term.field_spec hfo ht hv
    exact ⟨cf, k, fi, f, cell, hfo, g1, g2, g3, g6, hA _ (Array.getElem?_eq_some_iff.mp g2).1⟩
theorem hz_known {args : Array Value} {s : State} (hts : ∀ w ∈ lw_tbl, w.before args s = true) : ∃ (dC : Nat → ClassId) (dI : Nat → Nat → Nat), ∀ (k : Nat) (q : vw_C), vwCl[k]? = some q → u_Kn s q.1 q.2.1 q.2.2 (dC k) (dI k) := by
  have htb : ∀ w ∈ hz_TB, w.before args s = true := fun w hw => hts w (List.mem_filter.mp hw).1
  have hi := fun q hq => hts _ (hz_e17 q hq)
  obtain ⟨c0, i0, k0⟩ := u_known (C := RJ0) (T := TJ0) (N := 4) (n := 4) htb hz_K_0.2 (hi ("java/lang/String", 4) (by decide))
  obtain ⟨c1, i1, k1⟩ := u_known (C := RJ4) (T := TJ4) (N := 4) (n := 4) htb hz_K_1.2 (hi ("java/lang/StringBuilder", 4) (by decide))
  obtain ⟨c2, i2, k2⟩ := u_known (C := RX1) (T := TX1) (N := 4) (n := 4) htb hz_K_2.2 (hi ("HotSteps$Deeds", 4) (by decide))
  obtain ⟨c3, i3, k3⟩ := u_known (C := RX2) (T := TX2) (N := 5) (n := 5) htb hz_K_3.2 (hi ("HotSteps$History", 5) (by decide))
  obtain ⟨c4, i4, k4⟩ := u_known (C := RX3) (T := TX3) (N := 12) (n := 12) htb hz_K_4.2 (hi ("HotSteps$House", 12) (by decide))
  obtain ⟨c5, i5, k5⟩ := u_known (C := RX5) (T := TX5) (N := 3) (n := 3) htb hz_K_5.2 (hi ("HotSteps$Report", 3) (by decide))
  obtain ⟨c6, i6, k6⟩ := u_known (C := RX6) (T := TX6) (N := 9) (n := 9) htb hz_K_6.2 (hi ("HotSteps$Script", 9) (by decide))
  obtain ⟨c7, i7, k7⟩ := u_known (C := RX7) (T := TX7) (N := 20) (n := 20) htb hz_K_7.2 (hi ("HotSteps$State", 20) (by decide))
  obtain ⟨c8, i8, k8⟩ := u_known (C := RX8) (T := TX8) (N := 8) (n := 8) htb hz_K_8.2 (hi ("HotSteps$Text", 8) (by decide))
  obtain ⟨c9, i9, k9⟩ := u_known (C := RX9) (T := TX9) (N := 2) (n := 2) htb hz_K_9.2 (hi ("HotSteps$Why", 2) (by decide))
  obtain ⟨c10, i10, k10⟩ := u_known (C := RX10) (T := TX10) (N := 10) (n := 10) htb hz_K_10.2 (hi ("HotSteps", 10) (by decide))
  obtain ⟨c11, i11, k11⟩ := u_known (C := RX11) (T := TX11) (N := 24) (n := 24) htb hz_K_11.2 (hi ("HotStepsLaw$Own", 24) (by decide))
  refine ⟨fun k => [c0, c1, c2, c3, c4, c5, c6, c7, c8, c9, c10, c11].getD k 0, fun k => [i0, i1, i2, i3, i4, i5, i6, i7, i8, i9, i10, i11].getD k (fun _ => 0), ?_⟩
  intro k q hq
  match k, hq with
  | 0, hq => cases hq; exact k0
  | 1, hq => cases hq; exact k1
  | 2, hq => cases hq; exact k2
  | 3, hq => cases hq; exact k3
  | 4, hq => cases hq; exact k4
  | 5, hq => cases hq; exact k5
  | 6, hq => cases hq; exact k6
  | 7, hq => cases hq; exact k7
  | 8, hq => cases hq; exact k8
  | 9, hq => cases hq; exact k9
  | 10, hq => cases hq; exact k10
  | 11, hq => cases hq; exact k11
  | k + 12, hq => simp [vwCl] at hq
theorem hz_arr {args : Array Value} {s : State} {ty : FieldType} (h : (Cond.arrayClass ty).before args s = true) (hp : ∀ C, ty ≠ .object C) : ∃ cA : ClassId, s.vm.findClass ("[" ++ ty.toString) = some cA ∧ ArrOfT s cA ty ∧ va_RA s cA ty := by
  obtain ⟨cA, kA, comp, h1, h2, h3⟩ := Cond.arrayClass_spec h
  refine ⟨cA, h1, fun n z => ⟨(fun k h => by cases h), kA, h2, comp, h3⟩, ?_⟩
  cases ty with
  | object C => exact absurd rfl (hp C)
  | _ => exact h1
theorem hz_arrO {args : Array Value} {s : State} {C : String} (h : (Cond.arrayOver (.object C)).before args s = true) : ∃ cA : ClassId, s.vm.findClass ("[" ++ (FieldType.object C).toString) = some cA ∧ ArrOfT s cA (.object C) ∧ va_RA s cA (.object C) := by
  obtain ⟨comp, cA, kA, h1, h2, h3, h4, h5⟩ := Cond.arrayOver_spec h
  exact ⟨cA, h5, fun n z => ⟨(fun k h => by cases h), kA, h3, comp, h4⟩, ⟨kA, comp, h3, h4, h1, h5⟩⟩
set_option maxHeartbeats 4000000 in
theorem hz_entry {s : State} {b L : Nat} {xs : Nat → Int32} (hL : L ≤ 260) (hts : ∀ w ∈ lw_tbl, w.before #[Value.ref b] s = true) (hgv : (Jvm.Cond.and given_1 narrow_1).before #[Value.ref b] s = true) (hX : va_X b L xs s s.heap) (hbl : b < s.heap.size) : ∃ w : hz_C, hz_X w s s.heap ∧ va_K (hz_D w) vwCl (hz_tys w) s ∧ (hz_scx w = xs ∧ hz_scl w = L) ∧ hz_scb w = b ∧ (∀ i, hz_ad w i = s.heap.size + i) ∧ ∀ q, hz_A w q ↔ s.heap.size ≤ q := by
  have hs : ∀ c ∈ hz_fla, c.before #[Value.ref b] s = true := flat_of_before _ hgv
  have hA : ∀ a : Nat, a < s.heap.size → ¬ (fun q : Nat => s.heap.size ≤ q) a := fun a h => Nat.not_le.mpr h
  have hT : va_T .int b L (fun j => .int (xs j)) (fun q : Nat => s.heap.size ≤ q) s s.heap := by
    obtain ⟨scr, x1, x2, x3, x4, x5⟩ := hX
    exact ⟨scr, x1, x2, x3, Nat.le_of_eq x4.symm, congrArg Nat.toInt32 x4, x5, hA b hbl⟩
  obtain ⟨dC, dI, hKc⟩ := hz_known hts
  obtain ⟨t0, a0, b0, c0⟩ := hz_arr (hts _ hz_e16.1) (fun C h => by cases h)
  obtain ⟨t1, a1, b1, c1⟩ := hz_arr (hts _ hz_e16.2.1) (fun C h => by cases h)
  obtain ⟨t5, a5, b5, c5⟩ := hz_arr (hts _ hz_e16.2.2.1) (fun C h => by cases h)
  obtain ⟨t2, a2, b2, c2⟩ := hz_arrO (hts _ hz_e16.2.2.2.1)
  obtain ⟨t3, a3, b3, c3⟩ := hz_arrO (hts _ hz_e16.2.2.2.2.1)
  obtain ⟨t4, a4, b4, c4⟩ := hz_arrO (hts _ hz_e16.2.2.2.2.2)
  have hT0 : ∀ i, ∃ a : Nat, i < 6 → (hz_tT i).eval #[Value.ref b] s none [] s = some (.ref a) ∧ va_O "java/lang/String" a (fun q : Nat => s.heap.size ≤ q) s s.heap := by
    intro i
    by_cases hi : i < 6
    · have hx := hs _ (hz_e1 i hi)
      obtain ⟨a, c, cell, k, q1, -⟩ := Cond.exactly_spec hx
      exact ⟨a, fun _ => ⟨q1, va_Oof hx q1 hA⟩⟩
    · exact ⟨0, fun h => absurd h hi⟩
  obtain ⟨sa, hsa⟩ : ∃ sa : Nat → Nat, ∀ i, i < 6 → (hz_tT i).eval #[Value.ref b] s none [] s = some (.ref (sa i)) ∧ va_O "java/lang/String" (sa i) (fun q : Nat => s.heap.size ≤ q) s s.heap := ⟨fun i => (hT0 i).choose, fun i => (hT0 i).choose_spec⟩
  have hV0 : ∀ i, ∃ t : Nat, i < 6 → (hz_tV i).eval #[Value.ref b] s none [] s = some (.ref t) ∧ va_T .byte t (hz_len.getD i 0) (fun j => .int ((hz_byt.getD i []).getD j 0)) (fun q : Nat => s.heap.size ≤ q) s s.heap := by
    intro i
    by_cases hi : i < 6
    · obtain ⟨-, h1, h2⟩ := hz_e2 i hi
      obtain ⟨t, ht, hT⟩ := va_Tof (Nat.lt_trans (hz_len_ok6 i hi) (by decide)) (hs _ h1) (va_eqv (hs _ h2) rfl) (f := fun j => .int ((hz_byt.getD i []).getD j 0)) (fun j hj => va_eqv (hs _ (hz_e3 i hi j hj)) rfl) hA
      exact ⟨t, fun _ => ⟨ht, hT⟩⟩
    · exact ⟨0, fun h => absurd h hi⟩
  obtain ⟨sv, hsv⟩ : ∃ sv : Nat → Nat, ∀ i, i < 6 → (hz_tV i).eval #[Value.ref b] s none [] s = some (.ref (sv i)) ∧ va_T .byte (sv i) (hz_len.getD i 0) (fun j => .int ((hz_byt.getD i []).getD j 0)) (fun q : Nat => s.heap.size ≤ q) s s.heap := ⟨fun i => (hV0 i).choose, fun i => (hV0 i).choose_spec⟩
  have hLd : ∀ q ∈ hz_ldcs, (Term.string q.1 q.2.1).eval #[Value.ref b] s none [] s = some (.ref (sa q.2.2.2)) := by
    intro q hq
    obtain ⟨h1, -, h3⟩ := hz_e7 q hq
    rw [h3]
    exact (hsa _ h1).1
  obtain ⟨en, hEn, hev⟩ := va_Enof2 (args := #[Value.ref b]) (s := s) (E := "HotSteps$Order") (d := "LHotSteps$Order;") (nm := hz_nm) (F := hz_F) (A := (fun q : Nat => s.heap.size ≤ q)) (fun i hi => hts _ (hz_e4 i hi).1) (hts _ hz_e11) (fun i hi => hs _ (hz_e4 i hi).2) (fun q hq i hi => hs _ (hz_e5 q hq i hi)) (fun i j hi hj hn => (hz_e6 i hi j hj hn).imp (hs _) (hs _)) hA
  obtain ⟨tw, htw, hTw⟩ := va_Tof (args := #[Value.ref b]) (s := s) (tm := .static "HotSteps$1" "$SwitchMap$HotSteps$Order" "[I") (ty := .int) (N := 11) (f := fun j => .int (hz_sw.getD j 0)) (A := (fun q : Nat => s.heap.size ≤ q)) (by decide) (hs _ hz_e10.1) (va_eqv (hs _ hz_e10.2.1) rfl) (fun j hj => va_eqv (hs _ (hz_e4b j hj)) rfl) hA
  obtain ⟨d0, hd0, hD0⟩ := va_Tof (args := #[Value.ref b]) (s := s) (tm := hz_dT 0) (ty := .byte) (N := 100) (f := fun j => .int (nI (48 + j % 10))) (A := (fun q : Nat => s.heap.size ≤ q)) (by decide) (hs _ (hz_d1 0 (by decide)).1) (va_eqv (hs _ (hz_d1 0 (by decide)).2) rfl) (fun j hj => va_eqv (hs _ (hz_d3_s hz_d3_0 hj)) rfl) hA
  obtain ⟨d1, hd1, hD1⟩ := va_Tof (args := #[Value.ref b]) (s := s) (tm := hz_dT 1) (ty := .byte) (N := 100) (f := fun j => .int (nI (48 + j / 10))) (A := (fun q : Nat => s.heap.size ≤ q)) (by decide) (hs _ (hz_d1 1 (by decide)).1) (va_eqv (hs _ (hz_d1 1 (by decide)).2) rfl) (fun j hj => va_eqv (hs _ (hz_d3_s hz_d3_1 hj)) rfl) hA
  refine ⟨((dC, dI), fun k => [t0, t1, t2, t3, t4, t5].getD k 0, fun i => s.heap.size + i, en, sa, sv, (fun q : Nat => s.heap.size ≤ q), 6, 0, fun _ => 0, b, L, xs), ?_, ⟨hKc, ?_⟩, ⟨rfl, rfl⟩, rfl, fun i => rfl, fun q => Iff.rfl⟩
  · refine ⟨hEn, ⟨by show 6 ≤ 6; decide, by show 6 ≤ 7; decide, by show 0 < 2 ^ 30; decide⟩, fun i hi => ?_, fun q hq => vk_R.of (hts _ (hz_e7 q hq).2.1) (hLd q hq), fun q hq => va_Nw.of rfl (hts _ (hz_e9 q hq)), ⟨tw, va_Zref (hts _ hz_e10.2.2.1) (hts _ hz_e10.2.2.2) htw hA, hTw⟩, ⟨⟨d0, va_Zref (hts _ hz_d2.1) (hts _ hz_d2.2.2) hd0 hA, hD0⟩, ⟨d1, va_Zref (hts _ hz_d2.2.1) (hts _ hz_d2.2.2) hd1 hA, hD1⟩⟩, va_Zof (hts _ hz_e12.2.1) (hts _ hz_e12.2.2) (va_eqv (hs _ hz_e12.1) rfl) hA, va_Zqof (hts _ hz_e13.2.1) (hts _ hz_e13.2.2) (hs _ hz_e13.1) hA, fun t ht => ?_, va_AO.of (hts _ hz_e16.2.2.2.1), va_AO.of (hts _ hz_e16.2.2.2.2.1), va_AO.of (hts _ hz_e16.2.2.2.2.2), fun q hq => va_Nw.of rfl (hts _ (hz_e9F q hq)), hL, hT, fun y hy => va_Nw.of rfl (hts _ (hz_e9P y hy)), va_Nw.of rfl (hts _ hz_e9C)⟩
    · have hi6 : i < 6 := hi
      obtain ⟨h1, h2⟩ := hsa i hi6
      obtain ⟨h3, h4⟩ := hsv i hi6
      refine ⟨h2, hz_OFof h1 (va_eqv (hs _ (hz_e2 i hi6).1) rfl) hA, hz_OFof h1 h3 hA, ?_⟩
      unfold hz_ln hz_by
      rw [if_pos hi6]
      simp only [if_pos hi6]
      exact h4
    · match t, ht with
      | 0, _ => exact a0
      | 1, _ => exact a1
      | 2, _ => exact a2
      | 3, _ => exact a3
      | 4, _ => exact a4
      | 5, _ => exact a5
      | k + 6, h => exact absurd h (by omega)
  · intro k q hk
    match k, hk with
    | 0, hk => cases hk; exact ⟨b0, c0⟩
    | 1, hk => cases hk; exact ⟨b1, c1⟩
    | 2, hk => cases hk; exact ⟨b2, c2⟩
    | 3, hk => cases hk; exact ⟨b3, c3⟩
    | 4, hk => cases hk; exact ⟨b4, c4⟩
    | 5, hk => cases hk; exact ⟨b5, c5⟩
    | k + 6, hk => simp [hz_tys] at hk
