
theorem hy_sg (o : hz_O) : hz_ct (hz_ct o (fun r M => if r < 0 then some ((0 : Int32), M) else some (1, M))) (fun r M => if r = 0 then some ((0 : Int32), M) else some (1, M)) = hz_ct o (fun r M => if r < 0 then some ((0 : Int32), M) else some (1, M)) := by
  cases o with
  | none => rfl
  | some p =>
    show hz_ct (if p.1 < 0 then some ((0 : Int32), p.2) else some (1, p.2)) _ = (if p.1 < 0 then some ((0 : Int32), p.2) else some (1, p.2))
    split
    · rw [hy_cts, if_pos rfl]
    · rw [hy_cts, if_neg (by decide)]

theorem run_0 {q : Nat → Int32} {d k : Nat} {Mc Mr : hz_M} (R : RS q d Mc Mr) (hd : d < 40) (hk : k < 30) (O : OR Mc Mr k 0) : R1 q d Mc Mr (f_X6_runOrder (nI k) Mc) (f_X11_does (nI k) Mr) := by
  have W := R.1
  have hq := R.2.2.1
  have hZ := R.1.1.1
  have hC := R.1.1
  have hz := hZ
  obtain ⟨⟨z1, z2⟩, ⟨z3, z4, z5⟩, ⟨z6, z7, z8⟩, ⟨z9, z10⟩, ⟨z11, z12, z13⟩, ⟨z14, z15, z16⟩⟩ := hz
  obtain ⟨_, o28, o187, osub, o1, o34, o8, o9⟩ := O
  have nm := n_named (M := Mr) (G := gz q) (by rw [hq]; exact z1) z2 (Mr 188 k)
  rw [hq, nmc_eq hC.2.1] at nm
  have os := osub (by omega) (by omega) (by omega)
  have rd : f_X11_does (nI k) Mr = (if nmc Mc (Mr 188 k) = -1 then some (0, Mr) else hz_ct (f_X11_doesOf (nI 0) (nmc Mc (Mr 188 k)) (Mr 189 k) Mr) fun r31 M32 => if r31 = 0 then some (0, M32) else some (1, M32)) := by
    simp (disch := omega) only [f_X11_does, hy_in, hy_gt, hy_c, nm, hy_cts, hy_lt', o187, show (nI 0 = (7 : Int32)) = False from eq_false (by decide), show (nI 0 = (8 : Int32)) = False from eq_false (by decide), show (nI 0 = (9 : Int32)) = False from eq_false (by decide), if_false]
  rw [ro_eq hk (by omega) o28, rd, os]
  rcases nmc_al hC.2.1 (Mr 188 k) with e | ⟨g, hg, e⟩
  · refine R1_no R ?_ ?_
    · rw [e, show nI (0 + 1) = (1 : Int32) from rfl, it_1, c_isGuestN (M := Mc) (-1) (by decide), hy_cts, if_pos rfl, hy_cts, if_pos rfl]
    · rw [if_pos e]
  · have ne : ¬ nmc Mc (Mr 188 k) = -1 := by rw [e, hy_n1 (by omega)]; exact not_false
    rw [if_neg ne, e]
    refine R1_op (k := k) (cc := 0) R hd (op_enter (Mc 30 k) W R.2.1 hg) rfl (by rw [os, e]) rfl ?_ ?_
    · rw [show nI (0 + 1) = (1 : Int32) from rfl, it_1, c_isGuest hC hg, hy_cts, if_neg (by decide), hy_cts, if_neg (by decide), os, e]
    · rw [show f_X11_doesOf (nI 0) (nI g) (Mr 189 k) Mr = hz_ct (f_X11_entering (nI g) Mr) (fun r M => if r < 0 then some ((0 : Int32), M) else some (1, M)) by
        simp only [f_X11_doesOf, show (nI 0 = (0 : Int32)) = True from eq_true (by decide), show (nI 0 = (1 : Int32)) = False from eq_false (by decide), show (nI 0 = (2 : Int32)) = False from eq_false (by decide), show (nI 0 = (3 : Int32)) = False from eq_false (by decide), show (nI 0 = (4 : Int32)) = False from eq_false (by decide), show (nI 0 = (5 : Int32)) = False from eq_false (by decide), show (nI 0 = (6 : Int32)) = False from eq_false (by decide), if_true, if_false]]
      exact hy_sg _
theorem run_1 {q : Nat → Int32} {d k : Nat} {Mc Mr : hz_M} (R : RS q d Mc Mr) (hd : d < 40) (hk : k < 30) (O : OR Mc Mr k 1) : R1 q d Mc Mr (f_X6_runOrder (nI k) Mc) (f_X11_does (nI k) Mr) := by
  have W := R.1
  have hq := R.2.2.1
  have hZ := R.1.1.1
  have hC := R.1.1
  have hz := hZ
  obtain ⟨⟨z1, z2⟩, ⟨z3, z4, z5⟩, ⟨z6, z7, z8⟩, ⟨z9, z10⟩, ⟨z11, z12, z13⟩, ⟨z14, z15, z16⟩⟩ := hz
  obtain ⟨_, o28, o187, osub, o1, o34, o8, o9⟩ := O
  have nm := n_named (M := Mr) (G := gz q) (by rw [hq]; exact z1) z2 (Mr 188 k)
  rw [hq, nmc_eq hC.2.1] at nm
  have os := osub (by omega) (by omega) (by omega)
  have rd : f_X11_does (nI k) Mr = (if nmc Mc (Mr 188 k) = -1 then some (0, Mr) else hz_ct (f_X11_doesOf (nI 1) (nmc Mc (Mr 188 k)) (Mr 189 k) Mr) fun r31 M32 => if r31 = 0 then some (0, M32) else some (1, M32)) := by
    simp (disch := omega) only [f_X11_does, hy_in, hy_gt, hy_c, nm, hy_cts, hy_lt', o187, show (nI 1 = (7 : Int32)) = False from eq_false (by decide), show (nI 1 = (8 : Int32)) = False from eq_false (by decide), show (nI 1 = (9 : Int32)) = False from eq_false (by decide), if_false]
  rw [ro_eq hk (by omega) o28, rd, os]
  rcases nmc_al hC.2.1 (Mr 188 k) with e | ⟨g, hg, e⟩
  · refine R1_no R ?_ ?_
    · rw [e, show nI (1 + 1) = (2 : Int32) from rfl, it_2, c_isGuestN (M := Mc) (-1) (by decide), hy_cts, if_pos rfl, hy_cts, if_pos rfl]
    · rw [if_pos e]
  · have ne : ¬ nmc Mc (Mr 188 k) = -1 := by rw [e, hy_n1 (by omega)]; exact not_false
    rw [if_neg ne, e]
    obtain ⟨n, n1, n2, hn, hn2⟩ := o1 rfl
    rw [hn, hn2]
    rcases hy_two1 (nI n) (n := sz q) (by omega) with h | ⟨s, s1, s2, es⟩
    · refine R1_no R ?_ ?_
      · rw [show nI (1 + 1) = (2 : Int32) from rfl, it_2, c_isGuest hC hg, hy_cts, if_neg (by decide), c_isStepN hC h, hy_cts, hy_bt0, hy_gt, hy_cts, if_pos rfl]
      · simp only [f_X11_doesOf, show (nI 1 = (0 : Int32)) = False from eq_false (by decide), show (nI 1 = (1 : Int32)) = True from eq_true (by decide), show (nI 1 = (2 : Int32)) = False from eq_false (by decide), show (nI 1 = (3 : Int32)) = False from eq_false (by decide), show (nI 1 = (4 : Int32)) = False from eq_false (by decide), show (nI 1 = (5 : Int32)) = False from eq_false (by decide), show (nI 1 = (6 : Int32)) = False from eq_false (by decide), if_true, if_false, r_isStepO hq hZ h, hy_cts]
    · rw [es] at hn hn2 ⊢
      refine R1_op (k := k) (cc := 1) R hd (op_sit W R.2.1 hg s1 s2) rfl (by rw [os, e]) hn ?_ ?_
      · rw [show nI (1 + 1) = (2 : Int32) from rfl, it_2, c_isGuest hC hg, hy_cts, if_neg (by decide), c_isStep hC s1 s2, hy_cts, hy_bt1, hy_gt, hy_cts, if_neg (by decide), os, e, hn]
      · rw [show f_X11_doesOf (nI 1) (nI g) (nI s) Mr = hz_ct (f_X11_sitting (nI g) (nI s) Mr) (fun r M => if r < 0 then some ((0 : Int32), M) else some (1, M)) by
          simp only [f_X11_doesOf, show (nI 1 = (0 : Int32)) = False from eq_false (by decide), show (nI 1 = (1 : Int32)) = True from eq_true (by decide), show (nI 1 = (2 : Int32)) = False from eq_false (by decide), show (nI 1 = (3 : Int32)) = False from eq_false (by decide), show (nI 1 = (4 : Int32)) = False from eq_false (by decide), show (nI 1 = (5 : Int32)) = False from eq_false (by decide), show (nI 1 = (6 : Int32)) = False from eq_false (by decide), if_true, if_false, r_isStep hq hZ s1 s2, hy_cts, hy_f10]]
        exact hy_sg _
theorem run_2 {q : Nat → Int32} {d k : Nat} {Mc Mr : hz_M} (R : RS q d Mc Mr) (hd : d < 40) (hk : k < 30) (O : OR Mc Mr k 2) : R1 q d Mc Mr (f_X6_runOrder (nI k) Mc) (f_X11_does (nI k) Mr) := by
  have W := R.1
  have hq := R.2.2.1
  have hZ := R.1.1.1
  have hC := R.1.1
  have hz := hZ
  obtain ⟨⟨z1, z2⟩, ⟨z3, z4, z5⟩, ⟨z6, z7, z8⟩, ⟨z9, z10⟩, ⟨z11, z12, z13⟩, ⟨z14, z15, z16⟩⟩ := hz
  obtain ⟨_, o28, o187, osub, o1, o34, o8, o9⟩ := O
  have nm := n_named (M := Mr) (G := gz q) (by rw [hq]; exact z1) z2 (Mr 188 k)
  rw [hq, nmc_eq hC.2.1] at nm
  have os := osub (by omega) (by omega) (by omega)
  have rd : f_X11_does (nI k) Mr = (if nmc Mc (Mr 188 k) = -1 then some (0, Mr) else hz_ct (f_X11_doesOf (nI 2) (nmc Mc (Mr 188 k)) (Mr 189 k) Mr) fun r31 M32 => if r31 = 0 then some (0, M32) else some (1, M32)) := by
    simp (disch := omega) only [f_X11_does, hy_in, hy_gt, hy_c, nm, hy_cts, hy_lt', o187, show (nI 2 = (7 : Int32)) = False from eq_false (by decide), show (nI 2 = (8 : Int32)) = False from eq_false (by decide), show (nI 2 = (9 : Int32)) = False from eq_false (by decide), if_false]
  rw [ro_eq hk (by omega) o28, rd, os]
  rcases nmc_al hC.2.1 (Mr 188 k) with e | ⟨g, hg, e⟩
  · refine R1_no R ?_ ?_
    · rw [e, show nI (2 + 1) = (3 : Int32) from rfl, it_3, c_isGuestN (M := Mc) (-1) (by decide), hy_cts, if_pos rfl, hy_cts, if_pos rfl]
    · rw [if_pos e]
  · have ne : ¬ nmc Mc (Mr 188 k) = -1 := by rw [e, hy_n1 (by omega)]; exact not_false
    rw [if_neg ne, e]
    refine R1_op (k := k) (cc := 2) R hd (op_hall (Mc 30 k) W R.2.1 hg) rfl (by rw [os, e]) rfl ?_ ?_
    · rw [show nI (2 + 1) = (3 : Int32) from rfl, it_3, c_isGuest hC hg, hy_cts, if_neg (by decide), hy_cts, if_neg (by decide), os, e]
    · rw [show f_X11_doesOf (nI 2) (nI g) (Mr 189 k) Mr = hz_ct (f_X11_halling (nI g) Mr) (fun r M => if r < 0 then some ((0 : Int32), M) else some (1, M)) by
        simp only [f_X11_doesOf, show (nI 2 = (0 : Int32)) = False from eq_false (by decide), show (nI 2 = (1 : Int32)) = False from eq_false (by decide), show (nI 2 = (2 : Int32)) = True from eq_true (by decide), show (nI 2 = (3 : Int32)) = False from eq_false (by decide), show (nI 2 = (4 : Int32)) = False from eq_false (by decide), show (nI 2 = (5 : Int32)) = False from eq_false (by decide), show (nI 2 = (6 : Int32)) = False from eq_false (by decide), if_true, if_false]]
      exact hy_sg _
theorem run_3 {q : Nat → Int32} {d k : Nat} {Mc Mr : hz_M} (R : RS q d Mc Mr) (hd : d < 40) (hk : k < 30) (O : OR Mc Mr k 3) : R1 q d Mc Mr (f_X6_runOrder (nI k) Mc) (f_X11_does (nI k) Mr) := by
  have W := R.1
  have hq := R.2.2.1
  have hZ := R.1.1.1
  have hC := R.1.1
  have hz := hZ
  obtain ⟨⟨z1, z2⟩, ⟨z3, z4, z5⟩, ⟨z6, z7, z8⟩, ⟨z9, z10⟩, ⟨z11, z12, z13⟩, ⟨z14, z15, z16⟩⟩ := hz
  obtain ⟨_, o28, o187, osub, o1, o34, o8, o9⟩ := O
  have nm := n_named (M := Mr) (G := gz q) (by rw [hq]; exact z1) z2 (Mr 188 k)
  rw [hq, nmc_eq hC.2.1] at nm
  have os := osub (by omega) (by omega) (by omega)
  have rd : f_X11_does (nI k) Mr = (if nmc Mc (Mr 188 k) = -1 then some (0, Mr) else hz_ct (f_X11_doesOf (nI 3) (nmc Mc (Mr 188 k)) (Mr 189 k) Mr) fun r31 M32 => if r31 = 0 then some (0, M32) else some (1, M32)) := by
    simp (disch := omega) only [f_X11_does, hy_in, hy_gt, hy_c, nm, hy_cts, hy_lt', o187, show (nI 3 = (7 : Int32)) = False from eq_false (by decide), show (nI 3 = (8 : Int32)) = False from eq_false (by decide), show (nI 3 = (9 : Int32)) = False from eq_false (by decide), if_false]
  rw [ro_eq hk (by omega) o28, rd, os]
  rcases nmc_al hC.2.1 (Mr 188 k) with e | ⟨g, hg, e⟩
  · refine R1_no R ?_ ?_
    · rw [e, show nI (3 + 1) = (4 : Int32) from rfl, it_4, c_isGuestN (M := Mc) (-1) (by decide), hy_cts, if_pos rfl, hy_cts, if_pos rfl]
    · rw [if_pos e]
  · have ne : ¬ nmc Mc (Mr 188 k) = -1 := by rw [e, hy_n1 (by omega)]; exact not_false
    rw [if_neg ne, e]
    obtain ⟨n, n2, hn, hn2⟩ := o34 (by omega)
    rw [hn, hn2]
    rcases hy_two (nI n) (n := pz q) (by omega) with h | ⟨s, s1, es⟩
    · refine R1_no R ?_ ?_
      · rw [show nI (3 + 1) = (4 : Int32) from rfl, it_4, c_isGuest hC hg, hy_cts, if_neg (by decide), c_isPegO hC h, hy_cts, if_pos rfl, hy_cts, if_pos rfl]
      · simp only [f_X11_doesOf, show (nI 3 = (0 : Int32)) = False from eq_false (by decide), show (nI 3 = (1 : Int32)) = False from eq_false (by decide), show (nI 3 = (2 : Int32)) = False from eq_false (by decide), show (nI 3 = (3 : Int32)) = True from eq_true (by decide), show (nI 3 = (4 : Int32)) = False from eq_false (by decide), show (nI 3 = (5 : Int32)) = False from eq_false (by decide), show (nI 3 = (6 : Int32)) = False from eq_false (by decide), if_true, if_false, r_isPegO hq hZ h, hy_cts]
    · rw [es] at hn hn2 ⊢
      refine R1_op (k := k) (cc := 3) R hd (op_hang W R.2.1 hg s1) rfl (by rw [os, e]) hn ?_ ?_
      · rw [show nI (3 + 1) = (4 : Int32) from rfl, it_4, c_isGuest hC hg, hy_cts, if_neg (by decide), c_isPeg hC s1, hy_cts, if_neg (by decide), hy_cts, if_neg (by decide), os, e, hn]
      · rw [show f_X11_doesOf (nI 3) (nI g) (nI s) Mr = hz_ct (f_X11_hanging (nI g) (nI s) Mr) (fun r M => if r < 0 then some ((0 : Int32), M) else some (1, M)) by
          simp only [f_X11_doesOf, show (nI 3 = (0 : Int32)) = False from eq_false (by decide), show (nI 3 = (1 : Int32)) = False from eq_false (by decide), show (nI 3 = (2 : Int32)) = False from eq_false (by decide), show (nI 3 = (3 : Int32)) = True from eq_true (by decide), show (nI 3 = (4 : Int32)) = False from eq_false (by decide), show (nI 3 = (5 : Int32)) = False from eq_false (by decide), show (nI 3 = (6 : Int32)) = False from eq_false (by decide), if_true, if_false, r_isPeg hq hZ s1, hy_cts, hy_f10]]
        exact hy_sg _
theorem run_4 {q : Nat → Int32} {d k : Nat} {Mc Mr : hz_M} (R : RS q d Mc Mr) (hd : d < 40) (hk : k < 30) (O : OR Mc Mr k 4) : R1 q d Mc Mr (f_X6_runOrder (nI k) Mc) (f_X11_does (nI k) Mr) := by
  have W := R.1
  have hq := R.2.2.1
  have hZ := R.1.1.1
  have hC := R.1.1
  have hz := hZ
  obtain ⟨⟨z1, z2⟩, ⟨z3, z4, z5⟩, ⟨z6, z7, z8⟩, ⟨z9, z10⟩, ⟨z11, z12, z13⟩, ⟨z14, z15, z16⟩⟩ := hz
  obtain ⟨_, o28, o187, osub, o1, o34, o8, o9⟩ := O
  have nm := n_named (M := Mr) (G := gz q) (by rw [hq]; exact z1) z2 (Mr 188 k)
  rw [hq, nmc_eq hC.2.1] at nm
  have os := osub (by omega) (by omega) (by omega)
  have rd : f_X11_does (nI k) Mr = (if nmc Mc (Mr 188 k) = -1 then some (0, Mr) else hz_ct (f_X11_doesOf (nI 4) (nmc Mc (Mr 188 k)) (Mr 189 k) Mr) fun r31 M32 => if r31 = 0 then some (0, M32) else some (1, M32)) := by
    simp (disch := omega) only [f_X11_does, hy_in, hy_gt, hy_c, nm, hy_cts, hy_lt', o187, show (nI 4 = (7 : Int32)) = False from eq_false (by decide), show (nI 4 = (8 : Int32)) = False from eq_false (by decide), show (nI 4 = (9 : Int32)) = False from eq_false (by decide), if_false]
  rw [ro_eq hk (by omega) o28, rd, os]
  rcases nmc_al hC.2.1 (Mr 188 k) with e | ⟨g, hg, e⟩
  · refine R1_no R ?_ ?_
    · rw [e, show nI (4 + 1) = (5 : Int32) from rfl, it_5, c_isGuestN (M := Mc) (-1) (by decide), hy_cts, if_pos rfl, hy_cts, if_pos rfl]
    · rw [if_pos e]
  · have ne : ¬ nmc Mc (Mr 188 k) = -1 := by rw [e, hy_n1 (by omega)]; exact not_false
    rw [if_neg ne, e]
    obtain ⟨n, n2, hn, hn2⟩ := o34 (by omega)
    rw [hn, hn2]
    rcases hy_two (nI n) (n := pz q) (by omega) with h | ⟨s, s1, es⟩
    · refine R1_no R ?_ ?_
      · rw [show nI (4 + 1) = (5 : Int32) from rfl, it_5, c_isGuest hC hg, hy_cts, if_neg (by decide), c_isPegO hC h, hy_cts, if_pos rfl, hy_cts, if_pos rfl]
      · simp only [f_X11_doesOf, show (nI 4 = (0 : Int32)) = False from eq_false (by decide), show (nI 4 = (1 : Int32)) = False from eq_false (by decide), show (nI 4 = (2 : Int32)) = False from eq_false (by decide), show (nI 4 = (3 : Int32)) = False from eq_false (by decide), show (nI 4 = (4 : Int32)) = True from eq_true (by decide), show (nI 4 = (5 : Int32)) = False from eq_false (by decide), show (nI 4 = (6 : Int32)) = False from eq_false (by decide), if_true, if_false, r_isPegO hq hZ h, hy_cts]
    · rw [es] at hn hn2 ⊢
      refine R1_op (k := k) (cc := 4) R hd (op_take W R.2.1 hg s1) rfl (by rw [os, e]) hn ?_ ?_
      · rw [show nI (4 + 1) = (5 : Int32) from rfl, it_5, c_isGuest hC hg, hy_cts, if_neg (by decide), c_isPeg hC s1, hy_cts, if_neg (by decide), hy_cts, if_neg (by decide), os, e, hn]
      · rw [show f_X11_doesOf (nI 4) (nI g) (nI s) Mr = hz_ct (f_X11_taking (nI g) (nI s) Mr) (fun r M => if r < 0 then some ((0 : Int32), M) else some (1, M)) by
          simp only [f_X11_doesOf, show (nI 4 = (0 : Int32)) = False from eq_false (by decide), show (nI 4 = (1 : Int32)) = False from eq_false (by decide), show (nI 4 = (2 : Int32)) = False from eq_false (by decide), show (nI 4 = (3 : Int32)) = False from eq_false (by decide), show (nI 4 = (4 : Int32)) = True from eq_true (by decide), show (nI 4 = (5 : Int32)) = False from eq_false (by decide), show (nI 4 = (6 : Int32)) = False from eq_false (by decide), if_true, if_false, r_isPeg hq hZ s1, hy_cts, hy_f10]]
        exact hy_sg _
theorem run_5 {q : Nat → Int32} {d k : Nat} {Mc Mr : hz_M} (R : RS q d Mc Mr) (hd : d < 40) (hk : k < 30) (O : OR Mc Mr k 5) : R1 q d Mc Mr (f_X6_runOrder (nI k) Mc) (f_X11_does (nI k) Mr) := by
  have W := R.1
  have hq := R.2.2.1
  have hZ := R.1.1.1
  have hC := R.1.1
  have hz := hZ
  obtain ⟨⟨z1, z2⟩, ⟨z3, z4, z5⟩, ⟨z6, z7, z8⟩, ⟨z9, z10⟩, ⟨z11, z12, z13⟩, ⟨z14, z15, z16⟩⟩ := hz
  obtain ⟨_, o28, o187, osub, o1, o34, o8, o9⟩ := O
  have nm := n_named (M := Mr) (G := gz q) (by rw [hq]; exact z1) z2 (Mr 188 k)
  rw [hq, nmc_eq hC.2.1] at nm
  have os := osub (by omega) (by omega) (by omega)
  have rd : f_X11_does (nI k) Mr = (if nmc Mc (Mr 188 k) = -1 then some (0, Mr) else hz_ct (f_X11_doesOf (nI 5) (nmc Mc (Mr 188 k)) (Mr 189 k) Mr) fun r31 M32 => if r31 = 0 then some (0, M32) else some (1, M32)) := by
    simp (disch := omega) only [f_X11_does, hy_in, hy_gt, hy_c, nm, hy_cts, hy_lt', o187, show (nI 5 = (7 : Int32)) = False from eq_false (by decide), show (nI 5 = (8 : Int32)) = False from eq_false (by decide), show (nI 5 = (9 : Int32)) = False from eq_false (by decide), if_false]
  rw [ro_eq hk (by omega) o28, rd, os]
  rcases nmc_al hC.2.1 (Mr 188 k) with e | ⟨g, hg, e⟩
  · refine R1_no R ?_ ?_
    · rw [e, show nI (5 + 1) = (6 : Int32) from rfl, it_6, c_isGuestN (M := Mc) (-1) (by decide), hy_cts, if_pos rfl, hy_cts, if_pos rfl]
    · rw [if_pos e]
  · have ne : ¬ nmc Mc (Mr 188 k) = -1 := by rw [e, hy_n1 (by omega)]; exact not_false
    rw [if_neg ne, e]
    refine R1_op (k := k) (cc := 5) R hd (op_leave (Mc 30 k) W R.2.1 hg) rfl (by rw [os, e]) rfl ?_ ?_
    · rw [show nI (5 + 1) = (6 : Int32) from rfl, it_6, c_isGuest hC hg, hy_cts, if_neg (by decide), hy_cts, if_neg (by decide), os, e]
    · rw [show f_X11_doesOf (nI 5) (nI g) (Mr 189 k) Mr = hz_ct (f_X11_leaving (nI g) Mr) (fun r M => if r < 0 then some ((0 : Int32), M) else some (1, M)) by
        simp only [f_X11_doesOf, show (nI 5 = (0 : Int32)) = False from eq_false (by decide), show (nI 5 = (1 : Int32)) = False from eq_false (by decide), show (nI 5 = (2 : Int32)) = False from eq_false (by decide), show (nI 5 = (3 : Int32)) = False from eq_false (by decide), show (nI 5 = (4 : Int32)) = False from eq_false (by decide), show (nI 5 = (5 : Int32)) = True from eq_true (by decide), show (nI 5 = (6 : Int32)) = False from eq_false (by decide), if_true, if_false]]
      exact hy_sg _
theorem run_6 {q : Nat → Int32} {d k : Nat} {Mc Mr : hz_M} (R : RS q d Mc Mr) (hd : d < 40) (hk : k < 30) (O : OR Mc Mr k 6) : R1 q d Mc Mr (f_X6_runOrder (nI k) Mc) (f_X11_does (nI k) Mr) := by
  have W := R.1
  have hq := R.2.2.1
  have hZ := R.1.1.1
  have hC := R.1.1
  have hz := hZ
  obtain ⟨⟨z1, z2⟩, ⟨z3, z4, z5⟩, ⟨z6, z7, z8⟩, ⟨z9, z10⟩, ⟨z11, z12, z13⟩, ⟨z14, z15, z16⟩⟩ := hz
  obtain ⟨_, o28, o187, osub, o1, o34, o8, o9⟩ := O
  have nm := n_named (M := Mr) (G := gz q) (by rw [hq]; exact z1) z2 (Mr 188 k)
  rw [hq, nmc_eq hC.2.1] at nm
  have os := osub (by omega) (by omega) (by omega)
  have rd : f_X11_does (nI k) Mr = (if nmc Mc (Mr 188 k) = -1 then some (0, Mr) else hz_ct (f_X11_doesOf (nI 6) (nmc Mc (Mr 188 k)) (Mr 189 k) Mr) fun r31 M32 => if r31 = 0 then some (0, M32) else some (1, M32)) := by
    simp (disch := omega) only [f_X11_does, hy_in, hy_gt, hy_c, nm, hy_cts, hy_lt', o187, show (nI 6 = (7 : Int32)) = False from eq_false (by decide), show (nI 6 = (8 : Int32)) = False from eq_false (by decide), show (nI 6 = (9 : Int32)) = False from eq_false (by decide), if_false]
  rw [ro_eq hk (by omega) o28, rd, os]
  rcases nmc_al hC.2.1 (Mr 188 k) with e | ⟨g, hg, e⟩
  · refine R1_no R ?_ ?_
    · rw [e, show nI (6 + 1) = (7 : Int32) from rfl, it_7, c_isGuestN (M := Mc) (-1) (by decide), hy_cts, if_pos rfl, hy_cts, if_pos rfl]
    · rw [if_pos e]
  · have ne : ¬ nmc Mc (Mr 188 k) = -1 := by rw [e, hy_n1 (by omega)]; exact not_false
    rw [if_neg ne, e]
    refine R1_op (k := k) (cc := 6) R hd (op_speak (Mc 30 k) W R.2.1 hg) rfl (by rw [os, e]) rfl ?_ ?_
    · rw [show nI (6 + 1) = (7 : Int32) from rfl, it_7, c_isGuest hC hg, hy_cts, if_neg (by decide), hy_cts, if_neg (by decide), os, e]
    · rw [show f_X11_doesOf (nI 6) (nI g) (Mr 189 k) Mr = hz_ct (f_X11_speaking (nI g) Mr) (fun r M => if r < 0 then some ((0 : Int32), M) else some (1, M)) by
        simp only [f_X11_doesOf, show (nI 6 = (0 : Int32)) = False from eq_false (by decide), show (nI 6 = (1 : Int32)) = False from eq_false (by decide), show (nI 6 = (2 : Int32)) = False from eq_false (by decide), show (nI 6 = (3 : Int32)) = False from eq_false (by decide), show (nI 6 = (4 : Int32)) = False from eq_false (by decide), show (nI 6 = (5 : Int32)) = False from eq_false (by decide), show (nI 6 = (6 : Int32)) = True from eq_true (by decide), if_true, if_false]]
      exact hy_sg _
theorem run_7 {q : Nat → Int32} {d k : Nat} {Mc Mr : hz_M} (R : RS q d Mc Mr) (hd : d < 40) (hk : k < 30) (O : OR Mc Mr k 7) : R1 q d Mc Mr (f_X6_runOrder (nI k) Mc) (f_X11_does (nI k) Mr) := by
  have W := R.1
  have hq := R.2.2.1
  have hZ := R.1.1.1
  have hC := R.1.1
  have hz := hZ
  obtain ⟨⟨z1, z2⟩, ⟨z3, z4, z5⟩, ⟨z6, z7, z8⟩, ⟨z9, z10⟩, ⟨z11, z12, z13⟩, ⟨z14, z15, z16⟩⟩ := hz
  obtain ⟨_, o28, o187, osub, o1, o34, o8, o9⟩ := O
  have nm := n_named (M := Mr) (G := gz q) (by rw [hq]; exact z1) z2 (Mr 188 k)
  rw [hq, nmc_eq hC.2.1] at nm
  have rd : f_X11_does (nI k) Mr = hz_ct (f_X11_washing Mr) (fun r M => if r < 0 then some ((0 : Int32), M) else some (1, M)) := by
    simp (disch := omega) only [f_X11_does, hy_in, hy_gt, hy_c, nm, hy_cts, hy_lt', o187, show (nI 7 = (7 : Int32)) = True from eq_true (by decide), show (nI 7 = (8 : Int32)) = False from eq_false (by decide), show (nI 7 = (9 : Int32)) = False from eq_false (by decide), if_true, if_false]
  rw [ro_eq hk (by omega) o28, rd]
  refine R1_op (k := k) (cc := 7) R hd (op_wash (Mc 29 k) (Mc 30 k) W R.2.1) rfl rfl rfl ?_ rfl
  rw [show nI (7 + 1) = (8 : Int32) from rfl, it_8, hy_cts, if_neg (by decide)]
theorem run_8 {q : Nat → Int32} {d k : Nat} {Mc Mr : hz_M} (R : RS q d Mc Mr) (hd : d < 40) (hk : k < 30) (O : OR Mc Mr k 8) : R1 q d Mc Mr (f_X6_runOrder (nI k) Mc) (f_X11_does (nI k) Mr) := by
  have W := R.1
  have hq := R.2.2.1
  have hZ := R.1.1.1
  have hC := R.1.1
  have hz := hZ
  obtain ⟨⟨z1, z2⟩, ⟨z3, z4, z5⟩, ⟨z6, z7, z8⟩, ⟨z9, z10⟩, ⟨z11, z12, z13⟩, ⟨z14, z15, z16⟩⟩ := hz
  obtain ⟨_, o28, o187, osub, o1, o34, o8, o9⟩ := O
  have nm := n_named (M := Mr) (G := gz q) (by rw [hq]; exact z1) z2 (Mr 188 k)
  rw [hq, nmc_eq hC.2.1] at nm
  obtain ⟨v, n, v3, n9, hv, hv2, hn, hn2⟩ := o8 rfl
  have rd : f_X11_does (nI k) Mr = (hz_ct (f_X11_isValve (nI v) Mr) fun r15 M16 => if r15 = 0 then some (0, M16) else hz_ct (f_X11_valving (nI v) (M16 190 k) M16) (fun r M => if r < 0 then some ((0 : Int32), M) else some (1, M))) := by
    simp (disch := omega) only [f_X11_does, hy_in, hy_gt, hy_c, nm, hy_cts, hy_lt', o187, show (nI 8 = (7 : Int32)) = False from eq_false (by decide), show (nI 8 = (8 : Int32)) = True from eq_true (by decide), show (nI 8 = (9 : Int32)) = False from eq_false (by decide), if_true, if_false, hv2]
  rw [ro_eq hk (by omega) o28, rd, hv, hn]
  rcases hy_two (nI v) (n := vz q) (by omega) with h | ⟨s, s1, es⟩
  · refine R1_no R ?_ ?_
    · rw [show nI (8 + 1) = (9 : Int32) from rfl, it_9k, c_isValveO hC h, hy_cts, hy_bt0, hy_gt, hy_cts, if_pos rfl]
    · rw [r_isValveO hq hZ h, hy_cts, if_pos rfl]
  · rw [es] at hv ⊢
    refine R1_op (k := k) (cc := 8) R hd (op_valve W R.2.1 s1 n9) rfl hv hn ?_ ?_
    · rw [show nI (8 + 1) = (9 : Int32) from rfl, it_9k, c_isValve hC s1, hy_cts, hy_bt1, hy_gt, hy_cts, if_neg (by decide), hv, hn]
    · rw [r_isValve hq hZ s1, hy_cts, if_neg (by decide), hn2]
theorem run_9 {q : Nat → Int32} {d k : Nat} {Mc Mr : hz_M} (R : RS q d Mc Mr) (hd : d < 40) (hk : k < 30) (O : OR Mc Mr k 9) : R1 q d Mc Mr (f_X6_runOrder (nI k) Mc) (f_X11_does (nI k) Mr) := by
  have W := R.1
  have hq := R.2.2.1
  have hZ := R.1.1.1
  have hC := R.1.1
  have hz := hZ
  obtain ⟨⟨z1, z2⟩, ⟨z3, z4, z5⟩, ⟨z6, z7, z8⟩, ⟨z9, z10⟩, ⟨z11, z12, z13⟩, ⟨z14, z15, z16⟩⟩ := hz
  obtain ⟨_, o28, o187, osub, o1, o34, o8, o9⟩ := O
  have nm := n_named (M := Mr) (G := gz q) (by rw [hq]; exact z1) z2 (Mr 188 k)
  rw [hq, nmc_eq hC.2.1] at nm
  obtain ⟨n, n60, hn, hn2⟩ := o9 rfl
  have rd : f_X11_does (nI k) Mr = hz_ct (f_X11_waiting (nI n) Mr) (fun r M => if r < 0 then some ((0 : Int32), M) else some (1, M)) := by
    simp (disch := omega) only [f_X11_does, hy_in, hy_gt, hy_c, nm, hy_cts, hy_lt', o187, show (nI 9 = (7 : Int32)) = False from eq_false (by decide), show (nI 9 = (8 : Int32)) = False from eq_false (by decide), show (nI 9 = (9 : Int32)) = True from eq_true (by decide), if_true, if_false, hn2]
  rw [ro_eq hk (by omega) o28, rd]
  refine R1_op (k := k) (cc := 9) R hd (op_wait (Mc 29 k) W R.2.1 n60) rfl rfl hn ?_ rfl
  rw [show nI (9 + 1) = (10 : Int32) from rfl, it_10, hy_cts, if_neg (by decide), hn]
