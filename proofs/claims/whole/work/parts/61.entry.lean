set_option maxRecDepth 512
theorem hz_OFof {args : Array Value} {s : State} {t : Term} {a : Nat} {o n d : String} {v : Value} {A : Nat → Prop} (ht : t.eval args s none [] s = some (.ref a)) (hv : (Term.field t o n d).eval args s none [] s = some v) (hA : ∀ a : Nat, a < s.heap.size → ¬ A a) : va_OF o n d v a A s s.heap := by
  cases hfo : s.fieldFound? o n d with
  | none =>
    rw [va_fe ht] at hv
    simp [State.fieldOf?, State.fieldNamed?, hfo] at hv
  | some x =>
    obtain ⟨cf, k, fi, f⟩ := x
    obtain ⟨g1, cell, g2, g3, -, -, g6⟩ := Term.field_spec hfo ht hv
    exact ⟨cf, k, fi, f, cell, hfo, g1, g2, g3, g6, hA _ (Array.getElem?_eq_some_iff.mp g2).1⟩
theorem hz_known {args : Array Value} {s : State} (hts : ∀ w ∈ lw_tbl, w.before args s = true) : ∃ (dC : Nat → ClassId) (dI : Nat → Nat → Nat), ∀ (k : Nat) (q : vw_C), vwCl[k]? = some q → u_Kn s q.1 q.2.1 q.2.2 (dC k) (dI k) := by
  have htb : ∀ w ∈ hz_TB, w.before args s = true := fun w hw => hts w (List.mem_filter.mp hw).1
  have hi := fun q hq => hts _ (hz_e17 q hq)
  obtain ⟨c0, i0, k0⟩ := u_known (C := RX1) (T := TX1) (N := 4) (n := 4) htb hz_K_0.2 (hi ("HotSteps$Deeds", 4) (by decide))
  obtain ⟨c1, i1, k1⟩ := u_known (C := RX2) (T := TX2) (N := 5) (n := 5) htb hz_K_1.2 (hi ("HotSteps$History", 5) (by decide))
  obtain ⟨c2, i2, k2⟩ := u_known (C := RX3) (T := TX3) (N := 12) (n := 12) htb hz_K_2.2 (hi ("HotSteps$House", 12) (by decide))
  obtain ⟨c3, i3, k3⟩ := u_known (C := RX5) (T := TX5) (N := 3) (n := 3) htb hz_K_3.2 (hi ("HotSteps$Report", 3) (by decide))
  obtain ⟨c4, i4, k4⟩ := u_known (C := RX6) (T := TX6) (N := 9) (n := 9) htb hz_K_4.2 (hi ("HotSteps$Script", 9) (by decide))
  obtain ⟨c5, i5, k5⟩ := u_known (C := RX7) (T := TX7) (N := 20) (n := 20) htb hz_K_5.2 (hi ("HotSteps$State", 20) (by decide))
  obtain ⟨c6, i6, k6⟩ := u_known (C := RX8) (T := TX8) (N := 8) (n := 8) htb hz_K_6.2 (hi ("HotSteps$Text", 8) (by decide))
  obtain ⟨c7, i7, k7⟩ := u_known (C := RX9) (T := TX9) (N := 2) (n := 2) htb hz_K_7.2 (hi ("HotSteps$Why", 2) (by decide))
  obtain ⟨c8, i8, k8⟩ := u_known (C := RX10) (T := TX10) (N := 10) (n := 10) htb hz_K_8.2 (hi ("HotSteps", 10) (by decide))
  obtain ⟨c9, i9, k9⟩ := u_known (C := RX11) (T := TX11) (N := 28) (n := 28) htb hz_K_9.2 (hi ("HotStepsModel", 28) (by decide))
  refine ⟨fun k => [c0, c1, c2, c3, c4, c5, c6, c7, c8, c9].getD k 0, fun k => [i0, i1, i2, i3, i4, i5, i6, i7, i8, i9].getD k (fun _ => 0), ?_⟩
  intro k q hq
  match k, hq with
  | 0, hq => cases hq; exact k0
  | 1, hq => cases hq; exact k1
  | 2, hq => cases hq; exact k2
  | 3, hq => cases hq; exact k3
  | 4, hq => cases hq; exact k4
  | 5, hq => cases hq; exact k5
  | 6, hq => cases hq; exact k6
  | 7, hq => cases hq; exact k7
  | 8, hq => cases hq; exact k8
  | 9, hq => cases hq; exact k9
  | k + 10, hq => simp [vwCl] at hq
theorem hz_arr {args : Array Value} {s : State} {ty : FieldType} (h : (Cond.arrayClass ty).before args s = true) (hp : ∀ C, ty ≠ .object C) : ∃ cA : ClassId, s.vm.findClass ("[" ++ ty.toString) = some cA ∧ ArrOfT s cA ty ∧ va_RA s cA ty := by
  obtain ⟨cA, kA, comp, h1, h2, h3⟩ := Cond.arrayClass_spec h
  refine ⟨cA, h1, fun n z => ⟨(fun k h => by cases h), kA, h2, comp, h3⟩, ?_⟩
  cases ty with
  | object C => exact absurd rfl (hp C)
  | _ => exact h1
theorem hz_arrO {args : Array Value} {s : State} {C : String} (h : (Cond.arrayOver (.object C)).before args s = true) : ∃ cA : ClassId, s.vm.findClass ("[" ++ (FieldType.object C).toString) = some cA ∧ ArrOfT s cA (.object C) ∧ va_RA s cA (.object C) := by
  obtain ⟨comp, cA, kA, h1, h2, h3, h4, h5⟩ := Cond.arrayOver_spec h
  exact ⟨cA, h5, fun n z => ⟨(fun k h => by cases h), kA, h3, comp, h4⟩, ⟨kA, comp, h3, h4, h1, h5⟩⟩
theorem hz_entry {s : State} {b : Nat} (hts : ∀ w ∈ lw_tbl, w.before #[Value.ref b] s = true) (hgv : (Jvm.Cond.and given_1 narrow_1).before #[Value.ref b] s = true) : ∃ w : hz_C, hz_X w s s.heap ∧ va_K (hz_D w) vwCl (hz_tys w) s ∧ hz_sz w = s.heap.size ∧ ∀ i, hz_ad w i = hz_sz w + i := by
  have hs : ∀ c ∈ hz_fla, c.before #[Value.ref b] s = true := flat_of_before _ hgv
  have hA : ∀ a : Nat, a < s.heap.size → ¬ (fun q : Nat => s.heap.size ≤ q) a := fun a h => Nat.not_le.mpr h
  obtain ⟨dC, dI, hKc⟩ := hz_known hts
  obtain ⟨t0, a0, b0, c0⟩ := hz_arr (hts _ hz_e16.1) (fun C h => by cases h)
  obtain ⟨t1, a1, b1, c1⟩ := hz_arr (hts _ hz_e16.2.1) (fun C h => by cases h)
  obtain ⟨t4, a4, b4, c4⟩ := hz_arr (hts _ hz_e16.2.2.1) (fun C h => by cases h)
  obtain ⟨t2, a2, b2, c2⟩ := hz_arrO (hts _ hz_e16.2.2.2.1)
  obtain ⟨t3, a3, b3, c3⟩ := hz_arrO (hts _ hz_e16.2.2.2.2)
  -- the texts
  have hT0 : ∀ i, ∃ a : Nat, i < 20 → (hz_tT i).eval #[Value.ref b] s none [] s = some (.ref a) ∧ va_O "java/lang/String" a (fun q : Nat => s.heap.size ≤ q) s s.heap := by
    intro i
    by_cases hi : i < 20
    · have hx := hs _ (hz_e1 i hi)
      obtain ⟨a, c, cell, k, q1, -⟩ := Cond.exactly_spec hx
      exact ⟨a, fun _ => ⟨q1, va_Oof hx q1 hA⟩⟩
    · exact ⟨0, fun h => absurd h hi⟩
  obtain ⟨sa, hsa⟩ : ∃ sa : Nat → Nat, ∀ i, i < 20 → (hz_tT i).eval #[Value.ref b] s none [] s = some (.ref (sa i)) ∧ va_O "java/lang/String" (sa i) (fun q : Nat => s.heap.size ≤ q) s s.heap := ⟨fun i => (hT0 i).choose, fun i => (hT0 i).choose_spec⟩
  have hV0 : ∀ i, ∃ t : Nat, i < 14 → (hz_tV i).eval #[Value.ref b] s none [] s = some (.ref t) ∧ va_T .byte t (hz_len.getD i 0) (fun j => .int ((hz_byt.getD i []).getD j 0)) (fun q : Nat => s.heap.size ≤ q) s s.heap := by
    intro i
    by_cases hi : i < 14
    · obtain ⟨-, h1, h2⟩ := hz_e2 i hi
      obtain ⟨t, ht, hT⟩ := va_Tof (hz_len_ok i hi) (hs _ h1) (va_eqv (hs _ h2) rfl) (f := fun j => .int ((hz_byt.getD i []).getD j 0)) (fun j hj => va_eqv (hs _ (hz_e3 i hi j hj)) rfl) hA
      exact ⟨t, fun _ => ⟨ht, hT⟩⟩
    · exact ⟨0, fun h => absurd h hi⟩
  obtain ⟨sv, hsv⟩ : ∃ sv : Nat → Nat, ∀ i, i < 14 → (hz_tV i).eval #[Value.ref b] s none [] s = some (.ref (sv i)) ∧ va_T .byte (sv i) (hz_len.getD i 0) (fun j => .int ((hz_byt.getD i []).getD j 0)) (fun q : Nat => s.heap.size ≤ q) s s.heap := ⟨fun i => (hV0 i).choose, fun i => (hV0 i).choose_spec⟩
  -- every String constant
  have hL : ∀ q ∈ hz_ldcs, (Term.string q.1 q.2.1).eval #[Value.ref b] s none [] s = some (.ref (sa q.2.2.2)) := by
    intro q hq
    obtain ⟨h1, -, h3⟩ := hz_e7 q hq
    rcases h3 with h3 | ⟨h3, h4⟩
    · rw [h3]
      exact (hsa _ h1).1
    · obtain ⟨a, c, cell, k, q1, -⟩ := Cond.exactly_spec (hs _ h3)
      have q2 := va_eqv (hs _ h4) q1
      rw [(hsa _ h1).1] at q2
      cases q2
      exact q1
  -- the enum
  obtain ⟨en, hEn, hev⟩ := va_Enof2 (args := #[Value.ref b]) (s := s) (E := "HotSteps$Order") (d := "LHotSteps$Order;") (nm := hz_nm) (F := hz_F) (A := fun q : Nat => s.heap.size ≤ q) (fun i hi => hts _ (hz_e4 i hi).1) (hts _ hz_e11.2.2.2.2) (fun i hi => hs _ (hz_e4 i hi).2.1) (fun q hq i hi => hs _ (hz_e5 q hq i hi)) (fun i j hi hj hn => (hz_e6 i hi j hj hn).imp (hs _) (hs _)) hA
  have hEf : va_Ef 11 "HotSteps$Order" "word" "Ljava/lang/String;" (fun i => .ref (sa (3 + i))) en (fun q : Nat => s.heap.size ≤ q) s s.heap := by
    refine va_Efof (args := #[Value.ref b]) (E := "HotSteps$Order") (d0 := "LHotSteps$Order;") (nm := hz_nm) (tm := fun i => .string "HotSteps$Order" (hz_ok.getD i 0)) hev (fun i hi => hs _ (hz_e4 i hi).2.2.1) (fun i hi => ?_) hA
    obtain ⟨q, hq, e1, e2, e3⟩ := hz_e8 i hi
    have h := hL q hq
    rw [e1, e2, e3] at h
    exact h
  obtain ⟨tw, htw, hTw⟩ := va_Tof (args := #[Value.ref b]) (s := s) (tm := .static "HotSteps$1" "$SwitchMap$HotSteps$Order" "[I") (ty := .int) (N := 11) (f := fun j => .int (hz_sw.getD j 0)) (A := fun q : Nat => s.heap.size ≤ q) (by decide) (hs _ hz_e10.1) (va_eqv (hs _ hz_e10.2.1) rfl) (fun j hj => va_eqv (hs _ (hz_e4 j hj).2.2.2.2) rfl) hA
  obtain ⟨to, hto, hTo⟩ := va_Tof (args := #[Value.ref b]) (s := s) (tm := .static "HotSteps$Script" "ORDERS" "[LHotSteps$Order;") (ty := .object "HotSteps$Order") (N := 11) (f := fun j => .ref (en j)) (A := fun q : Nat => s.heap.size ≤ q) (by decide) (hs _ hz_e11.1) (va_eqv (hs _ hz_e11.2.1) rfl) (fun j hj => va_eqv (hs _ (hz_e4 j hj).2.2.2.1) (hev j hj)) hA
  refine ⟨((dC, dI), fun k => [t0, t1, t2, t3, t4].getD k 0, fun i => s.heap.size + i, en, sa, sv, s.heap.size), ?_, ⟨hKc, ?_⟩, rfl, fun i => rfl⟩
  · refine ⟨hEn, hEf, fun i hi => ?_, fun q hq => vk_R.of (hts _ (hz_e7 q hq).2.1) (hL q hq), fun q hq => va_Nw.of rfl (hts _ (hz_e9 q hq)), ⟨tw, va_Zref (hts _ hz_e10.2.2.1) (hts _ hz_e10.2.2.2) htw hA, hTw⟩, ⟨to, va_Zref (hts _ hz_e11.2.2.1) (hts _ hz_e11.2.2.2.1) hto hA, hTo⟩, va_Zof (hts _ hz_e12.2.1) (hts _ hz_e12.2.2) (va_eqv (hs _ hz_e12.1) rfl) hA, va_Zqof (hts _ hz_e13.2.1) (hts _ hz_e13.2.2) (hs _ hz_e13.1) hA, fun x hx => va_Nw.of rfl (hts _ (hz_e14.1 x hx)), fun k hk => va_Nw.of rfl (hts _ (hz_e14.2.1 k hk)), va_Nc.of (hs _ hz_e14.2.2), vx_Zqof (hts _ hz_e15.2.1) (hts _ hz_e15.2.2.2.2) (hs _ hz_e15.1) hA, vx_Zqof (hts _ hz_e15.2.2.2.1) (hts _ hz_e15.2.2.2.2) (hs _ hz_e15.2.2.1) hA, fun t ht => ?_, va_AO.of (hts _ hz_e16.2.2.2.1), va_AO.of (hts _ hz_e16.2.2.2.2)⟩
    · obtain ⟨h1, h2⟩ := hsa i (by omega)
      obtain ⟨h3, h4⟩ := hsv i hi
      exact ⟨h2, hz_OFof h1 (va_eqv (hs _ (hz_e2 i hi).1) rfl) hA, hz_OFof h1 h3 hA, h4⟩
    · match t, ht with
      | 0, _ => exact a0
      | 1, _ => exact a1
      | 2, _ => exact a2
      | 3, _ => exact a3
      | 4, _ => exact a4
      | k + 5, h => exact absurd h (by omega)
  · intro k q hk
    match k, hk with
    | 0, hk => cases hk; exact ⟨b0, c0⟩
    | 1, hk => cases hk; exact ⟨b1, c1⟩
    | 2, hk => cases hk; exact ⟨b2, c2⟩
    | 3, hk => cases hk; exact ⟨b3, c3⟩
    | 4, hk => cases hk; exact ⟨b4, c4⟩
    | k + 5, hk => simp [hz_tys] at hk
