
theorem isSg (M : hz_M) {c : Nat} (hc : c ≤ 255) : f_X8_isSign (nI c) M = some (if c = 59 ∨ c = 40 ∨ c = 41 then 1 else 0, M) := by
  have e1 : (nI c = 59) = (c = 59) := hy_eq (b := 59) (by omega) (by omega)
  have e2 : (nI c = 40) = (c = 40) := hy_eq (b := 40) (by omega) (by omega)
  have e3 : (nI c = 41) = (c = 41) := hy_eq (b := 41) (by omega) (by omega)
  unfold f_X8_isSign
  simp only [hy_jn, e1, e2, e3]
  by_cases h1 : c = 59
  · rw [if_pos h1, if_pos (Or.inl h1)]
  · by_cases h2 : c = 40
    · rw [if_neg h1, if_pos h2, if_pos (Or.inr (Or.inl h2))]
    · by_cases h3 : c = 41
      · rw [if_neg h1, if_neg h2, if_pos h3, if_pos (Or.inr (Or.inr h3))]
      · rw [if_neg h1, if_neg h2, if_neg h3, if_neg (by omega)]
theorem j_adv {n e0 : Nat} {Mc Mr : hz_M} (t : TX n Mc Mr) (h4 : Mc 9 4 = nI e0) (h13 : Mr 178 13 = nI e0) (he : e0 ≤ n) : ∃ Mc' Mr', f_X8_advance Mc = some (0, Mc') ∧ f_X11_goesOn Mr = some (0, Mr') ∧ TK n Mc' Mr' ∧ FT Mc Mc' ∧ FG Mr Mr' := by
  unfold f_X8_advance f_X11_goesOn
  simp only [hy_lm, hy_jn, h4]
  have t1 := TX_f (FT_s Mc 3 (nI e0) (by omega)) (FG_r Mr) t
  generalize hkc : (fun (M2 : hz_M) => hz_ct (f_X8_byteAt (M2 9 3) M2) fun r3 M4 =>
      if r3 = -1 then some (0, hz_set (hz_set M4 9 4 (M4 9 3)) 9 2 0)
      else hz_ct (f_X8_isLetter r3 (hz_set M4 9 4 (M4 9 3))) fun r8 M9 =>
          if r8 = 0 then
            hz_ct (f_X8_isDigit r3 M9) fun r12 M13 =>
              if r12 = 0 then
                hz_ct (f_X8_isSign r3 M13) fun r16 M17 =>
                  if r16 = 0 then some (0, hz_set (hz_set M17 9 2 3) 9 4 (hz_set M17 9 2 3 9 4 + 1))
                  else some (0, hz_set (hz_set M17 9 2 r3) 9 4 (hz_set M17 9 2 r3 9 4 + 1))
              else f_X8_advance_L143 hz_FU (hz_set (hz_set M13 9 2 2) 9 5 0)
          else f_X8_advance_L88 hz_FU (hz_set M9 9 2 1)) = kc
  generalize hkr : (fun (M1 : hz_M) => hz_ct (f_X11_seen (hz_set M1 178 14 (M1 178 13) 178 13) (hz_set M1 178 14 (M1 178 13))) fun r3 M4 =>
      if r3 = -1 then some (0, hz_set M4 178 15 0)
      else hz_ct (f_X11_in r3 97 122 M4) fun r7 M8 =>
          if r7 = 0 then
            hz_ct (f_X11_in r3 48 57 M8) fun r11 M12 =>
              if r11 = 0 then
                if r3 = 59 then some (0, hz_set (hz_set M12 178 15 3) 178 13 (hz_set M12 178 15 3 178 13 + 1))
                else if r3 = 40 then some (0, hz_set (hz_set M12 178 15 3) 178 13 (hz_set M12 178 15 3 178 13 + 1))
                  else if r3 = 41 then some (0, hz_set (hz_set M12 178 15 3) 178 13 (hz_set M12 178 15 3 178 13 + 1))
                    else some (0, hz_set (hz_set M12 178 15 4) 178 13 (hz_set M12 178 15 4 178 13 + 1))
              else f_X11_goesOn_L137 hz_FU (hz_set (hz_set M12 178 15 2) 178 16 0)
          else f_X11_goesOn_L85 hz_FU (hz_set M8 178 15 1)) = kr
  obtain ⟨s, Mc1, Mr1, a1, a2, a3, a4, a5, a6, a7, a8⟩ := j_blank kc kr (n - e0) e0 hz_FU hz_FU (hz_set Mc 9 3 (nI e0)) Mr t1 (hy_setk _ _ _ _) h13 (by omega) (hy_FU (by have := t.1; omega)) (hy_FU (by have := t.1; omega))
  have t2 := TX_f a7 a8 t1
  have f1 : FT Mc Mc1 := FT_t (FT_s _ _ _ (by omega)) a7
  suffices h : ∃ Mc' Mr', kc Mc1 = some (0, Mc') ∧ kr Mr1 = some (0, Mr') ∧ TK n Mc' Mr' ∧ FT Mc1 Mc' ∧ FG Mr1 Mr' by
    obtain ⟨Mc', Mr', b1, b2, b3, b4, b5⟩ := h
    exact ⟨Mc', Mr', by rw [← b1, ← a3], by rw [← b2, ← a4], b3, FT_t f1 b4, FG_t a8 b5⟩
  subst hkc hkr
  have t20 := t2
  obtain ⟨hn, t3, t4, t5⟩ := t2
  have m13 : hz_set Mr1 178 14 (nI s) 178 13 = nI s := by rw [hy_setn _ _ _ (by omega)]; exact a6
  have m11 : hz_set Mr1 178 14 (nI s) 178 11 = nI n := by rw [hy_setn _ _ _ (by omega)]; exact t4
  have m186 : hz_set Mr1 178 14 (nI s) 186 = Mr1 186 := hy_seto _ _ _ (by omega)
  simp only [a5, a6]
  by_cases hsn : s < n
  · obtain ⟨u1, c, c1, c2, c3⟩ := t5 s hsn
    have si := s_in hn m11 hsn
    rw [m186, ← u1, c3] at si
    have nn1 : ¬ nI c = -1 := by rw [hy_n1 (by omega)]; exact not_false
    have k59 : (nI c = 59) = (c = 59) := hy_eq (b := 59) (by omega) (by omega)
    have k40 : (nI c = 40) = (c = 40) := hy_eq (b := 40) (by omega) (by omega)
    have k41 : (nI c = 41) = (c = 41) := hy_eq (b := 41) (by omega) (by omega)
    simp only [c_byteAt t3 hn hsn, c3, hy_cts, a5, m13, si, nn1, if_false, (isL _ c2).1, (isL _ c2).2, (isD _ c2).1, (isD _ c2).2, isSg _ c2, k59, k40, k41]
    have fA : FT Mc1 (hz_set Mc1 9 4 (nI s)) := FT_s _ _ _ (by omega)
    have gA : FG Mr1 (hz_set Mr1 178 14 (nI s)) := FG_s _ _ _ (by omega)
    by_cases L : 97 ≤ c ∧ c ≤ 122
    · simp only [if_pos L, hy_f10, if_false]
      have fB : FT Mc1 (hz_set (hz_set Mc1 9 4 (nI s)) 9 2 1) := FT_t fA (FT_s _ _ _ (by omega))
      have gB : FG Mr1 (hz_set (hz_set Mr1 178 14 (nI s)) 178 15 1) := FG_t gA (FG_s _ _ _ (by omega))
      obtain ⟨e', Mc', Mr', b1, b2, b3, b4, b5, b6, b7, b8, b9, b10, b11, b12, b13, b14⟩ := j_letters (n - s) s hz_FU hz_FU _ _ (TX_f fB gB t20) (by rw [hy_setn _ _ _ (by omega), hy_setk]) (by rw [hy_setn _ _ _ (by omega)]; exact m13) (by omega) (hy_FU (by omega)) (hy_FU (by omega))
      refine ⟨Mc', Mr', b3, b4, ⟨s, e', by omega, b2, ?_, b5, ?_, b6, Or.inr (Or.inl ⟨?_, ?_, ?_, ?_⟩)⟩, FT_t fB b7, FG_t gB b8⟩
      · rw [b9, hy_setn _ _ _ (by omega), hy_setn _ _ _ (by omega)]; exact a5
      · rw [b11, hy_setn _ _ _ (by omega), hy_setk]
      · rw [b10, hy_setk]
      · rw [b12, hy_setk]
      · exact b14 hsn ⟨c, L.1, L.2, by rw [hy_seto _ _ _ (by omega), hy_seto _ _ _ (by omega)]; exact c3⟩
      · intro i h1 h2
        have := b13 i h1 h2
        rw [hy_seto _ _ _ (by omega), hy_seto _ _ _ (by omega)] at this
        rw [b7.1 10 (by omega), hy_seto _ _ _ (by omega), hy_seto _ _ _ (by omega)]; exact this
    · simp only [if_neg L, if_true]
      by_cases D : 48 ≤ c ∧ c ≤ 57
      · simp only [if_pos D, hy_f10, if_false]
        have fB : FT Mc1 (hz_set (hz_set (hz_set Mc1 9 4 (nI s)) 9 2 2) 9 5 0) := FT_t (FT_t fA (FT_s _ _ _ (by omega))) (FT_s _ _ _ (by omega))
        have gB : FG Mr1 (hz_set (hz_set (hz_set Mr1 178 14 (nI s)) 178 15 2) 178 16 0) := FG_t (FG_t gA (FG_s _ _ _ (by omega))) (FG_s _ _ _ (by omega))
        obtain ⟨e', Mc', Mr', b1, b2, b3, b4, b5, b6, b7, b8, b9, b10, b11, b12, b13⟩ := j_digits (n - s) s hz_FU hz_FU _ _ (TX_f fB gB t20) (by rw [hy_setn _ _ _ (by omega), hy_setn _ _ _ (by omega), hy_setk]) (by rw [hy_setn _ _ _ (by omega), hy_setn _ _ _ (by omega)]; exact m13) (by rw [hy_setk, hy_setk]; exact ⟨0, by omega, rfl, rfl⟩) (by omega) (hy_FU (by omega)) (hy_FU (by omega))
        refine ⟨Mc', Mr', b3, b4, ⟨s, e', by omega, b2, ?_, b5, ?_, b6, Or.inr (Or.inr (Or.inl ⟨?_, ?_, b13⟩))⟩, FT_t fB b7, FG_t gB b8⟩
        · rw [b9, hy_setn _ _ _ (by omega), hy_setn _ _ _ (by omega), hy_setn _ _ _ (by omega)]; exact a5
        · rw [b11, hy_setn _ _ _ (by omega), hy_setn _ _ _ (by omega), hy_setk]
        · rw [b10, hy_setn _ _ _ (by omega), hy_setk]
        · rw [b12, hy_setn _ _ _ (by omega), hy_setk]
      · simp only [if_neg D, if_true]
        by_cases G : c = 59 ∨ c = 40 ∨ c = 41
        · simp only [if_pos G, hy_f10, if_false]
          have cl : hz_set (hz_set Mc1 9 4 (nI s)) 9 2 (nI c) 9 4 = nI s := by rw [hy_setn _ _ _ (by omega), hy_setk]
          have cr : hz_set (hz_set Mr1 178 14 (nI s)) 178 15 3 178 13 = nI s := by rw [hy_setn _ _ _ (by omega)]; exact m13
          simp only [cl, cr, hy_add1]
          refine ⟨_, hz_set (hz_set (hz_set Mr1 178 14 (nI s)) 178 15 3) 178 13 (nI (s + 1)), rfl, ?_, ⟨s, s + 1, by omega, by omega, ?_, hy_setk _ _ _ _, ?_, hy_setk _ _ _ _, Or.inr (Or.inr (Or.inr (Or.inl ⟨hsn, ?_, ?_, ?_⟩)))⟩, FT_t (FT_t fA (FT_s _ _ _ (by omega))) (FT_s _ _ _ (by omega)), FG_t (FG_t gA (FG_s _ _ _ (by omega))) (FG_s _ _ _ (by omega))⟩
          · by_cases g1 : c = 59
            · rw [if_pos g1]
            · rw [if_neg g1]
              by_cases g2 : c = 40
              · rw [if_pos g2]
              · rw [if_neg g2, if_pos (by omega)]
          · rw [hy_setn _ _ _ (by omega), hy_setn _ _ _ (by omega), hy_setn _ _ _ (by omega)]; exact a5
          · rw [hy_setn _ _ _ (by omega), hy_setn _ _ _ (by omega), hy_setk]
          · rw [hy_setn _ _ _ (by omega), hy_setk]
          · rw [hy_setn _ _ _ (by omega), hy_setk, hy_seto _ _ _ (by omega), hy_seto _ _ _ (by omega), m186, ← u1, c3]
          · rw [hy_seto _ _ _ (by omega), hy_seto _ _ _ (by omega), m186, ← u1, c3, k59, k40, k41]; exact G
        · simp only [if_neg G, if_true]
          have cl : hz_set (hz_set Mc1 9 4 (nI s)) 9 2 3 9 4 = nI s := by rw [hy_setn _ _ _ (by omega), hy_setk]
          have cr : hz_set (hz_set Mr1 178 14 (nI s)) 178 15 4 178 13 = nI s := by rw [hy_setn _ _ _ (by omega)]; exact m13
          simp only [cl, cr, hy_add1]
          rw [if_neg (fun h => G (Or.inl h)), if_neg (fun h => G (Or.inr (Or.inl h))), if_neg (fun h => G (Or.inr (Or.inr h)))]
          refine ⟨_, _, rfl, rfl, ⟨s, s + 1, by omega, by omega, ?_, hy_setk _ _ _ _, ?_, hy_setk _ _ _ _, Or.inr (Or.inr (Or.inr (Or.inr ⟨?_, ?_⟩)))⟩, FT_t (FT_t fA (FT_s _ _ _ (by omega))) (FT_s _ _ _ (by omega)), FG_t (FG_t gA (FG_s _ _ _ (by omega))) (FG_s _ _ _ (by omega))⟩
          · rw [hy_setn _ _ _ (by omega), hy_setn _ _ _ (by omega), hy_setn _ _ _ (by omega)]; exact a5
          · rw [hy_setn _ _ _ (by omega), hy_setn _ _ _ (by omega), hy_setk]
          · rw [hy_setn _ _ _ (by omega), hy_setk]
          · rw [hy_setn _ _ _ (by omega), hy_setk]
  · have so := s_out hn m11 (k := s) (by omega) (by omega)
    simp only [c_byteAtO t3 hn (k := s) (by omega) (by omega), hy_cts, a5, m13, so, if_true]
    refine ⟨_, _, rfl, rfl, ⟨s, s, by omega, a2, ?_, ?_, ?_, ?_, Or.inl ⟨hy_setk _ _ _ _, hy_setk _ _ _ _⟩⟩, FT_t (FT_s _ _ _ (by omega)) (FT_s _ _ _ (by omega)), FG_t (FG_s _ _ _ (by omega)) (FG_s _ _ _ (by omega))⟩
    · rw [hy_setn _ _ _ (by omega), hy_setn _ _ _ (by omega)]; exact a5
    · rw [hy_setn _ _ _ (by omega), hy_setk]
    · rw [hy_setn _ _ _ (by omega), hy_setk]
    · rw [hy_setn _ _ _ (by omega)]; exact m13

