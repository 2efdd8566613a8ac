/-! THE SETUP IS READ -/
theorem t_isWL {M : hz_M} {x : hz_TX} {s e a len : Nat} (h : Tk M x 1 s e) (ha : a < 3) (hl : hz_len.getD a 0 = len) (hse : e = s + len) (he : e ≤ x.1) (hc : ∀ j, j < len → nI (x.2 (s + j)) = hz_cc a (nI j)) : ∀ (k j f : Nat), j + k = len → k < f → f_X8_isWord_L28 f a (nI j) M = some (1, M)
  | 0, j, f, hj, hf => by
    obtain ⟨f, rfl⟩ : ∃ e, f = e + 1 := ⟨f - 1, by omega⟩
    obtain ⟨w1, w2, w3⟩ := w_ok a ha
    rw [hl] at w2 w3
    rw [f_X8_isWord_L28, w1, hy_gt, w2, if_pos (by rw [hy_le (by omega) (by omega)]; omega)]
  | k + 1, j, f, hj, hf => by
    obtain ⟨f, rfl⟩ : ∃ e, f = e + 1 := ⟨f - 1, by omega⟩
    obtain ⟨w1, w2, w3⟩ := w_ok a ha
    rw [hl] at w2 w3
    rw [f_X8_isWord_L28, w1, hy_gt, w2, if_neg (by rw [hy_le (by omega) (by omega)]; omega), h.2.2.1, hy_add, t_byte h.1 (by omega), hy_cts, hy_gt, hl, hy_in (by omega) (by omega), hy_gt, if_pos (hc j (by omega)), hy_lt', hy_add1]
    exact t_isWL h ha hl hse he hc k (j + 1) f (by omega) (by omega)
theorem t_isW {M : hz_M} {x : hz_TX} {s e a len : Nat} (h : Tk M x 1 s e) (ha : a < 3) (hl : hz_len.getD a 0 = len) (hse : e = s + len) (he : e ≤ x.1) (hc : ∀ j, j < len → nI (x.2 (s + j)) = hz_cc a (nI j)) : f_X8_isWord a M = some (1, M) := by
  obtain ⟨w1, w2, w3⟩ := w_ok a ha
  rw [hl] at w2 w3
  unfold f_X8_isWord
  rw [if_pos h.2.1, w1, hy_gt, h.2.2.1, h.2.2.2, hy_sub (by omega), show e - s = len by omega, w2, if_pos rfl]
  exact t_isWL h ha hl hse he hc len 0 hz_FU (by omega) (hy_FU (by omega))
theorem t_goOn {M M' : hz_M} (h6 : M 9 6 = 0) (ea : f_X8_advance M = some (0, M')) : f_X8_goOnIf (1 : Int32) M = some (0, M') := by
  unfold f_X8_goOnIf
  rw [if_neg hy_f10b, if_pos h6, ea, hy_cts]
theorem t_needN {M M' : hz_M} {x : hz_TX} {s e v lo hi : Nat} (h : Tk M x 2 s e) (h5 : M 9 5 = nI v) (h1 : lo ≤ v) (h2 : v ≤ hi) (hhi : hi ≤ 1000) (ea : f_X8_advance M = some (0, M')) : f_X8_needNumber (nI lo) (nI hi) M = some (nI v, M') := by
  unfold f_X8_needNumber
  rw [hy_lt', h5]
  refine hy_jnI (fun k9 h9 => ?_)
  have key : k9 (nI lo) (nI v) M = some (nI v, M') := by
    rw [h9]
    dsimp only
    rw [if_pos h.1.2.2.2.1, ea, hy_cts]
  rw [if_pos h.2.1]
  refine hy_jnI (fun k17 h17 => ?_)
  rw [if_neg (by rw [hy_lt (by omega) (by omega)]; omega), if_pos (by rw [hy_le (by omega) (by omega)]; omega)]
  exact key
def Ext (x X : hz_TX) : Prop := x.1 ≤ X.1 ∧ ∀ j, j < x.1 → X.2 j = x.2 j
theorem ext_S {x X : hz_TX} {n : Nat} {s : Nat → Nat} (h : Ext (hz_tS x n s) X) : Ext x X ∧ (∀ j, j < n → X.2 (x.1 + j) = s j) ∧ x.1 + n ≤ X.1 := by
  obtain ⟨h1, h2⟩ := h
  have h1' : x.1 + n ≤ X.1 := h1
  refine ⟨⟨by omega, fun j hj => ?_⟩, fun j hj => ?_, h1'⟩
  · rw [h2 j (show j < x.1 + n by omega)]
    exact sb_cat_lo hj
  · rw [h2 (x.1 + j) (show x.1 + j < x.1 + n by omega)]
    exact sb_cat_hi
/-- the head of the setup: the numbers v 0 to v k -/
def hdT (v : Nat → Nat) : Nat → hz_TX
  | 0 => hz_tI hz_t0 (v 0)
  | k + 1 => hz_tI (hz_tC (hdT v k) 32) (v (k + 1))
/-- behind it k guests -/
def gsT (x0 : hz_TX) (ag : Nat → Nat) : Nat → hz_TX
  | 0 => x0
  | k + 1 => hz_tG (gsT x0 ag k) k (ag k)
theorem ext_hd {v : Nat → Nat} {X : hz_TX} {k : Nat} (h : Ext (hdT v (k + 1)) X) : Ext (hdT v k) X ∧ X.2 (hdT v k).1 = 32 ∧ (∀ j, j < hz_dg (v (k + 1)) → X.2 ((hdT v k).1 + 1 + j) = hz_dec (v (k + 1)) j) ∧ (hdT v k).1 + 1 + hz_dg (v (k + 1)) ≤ X.1 := by
  obtain ⟨h1, h2, h3⟩ := ext_S h
  obtain ⟨h4, h5, h6⟩ := ext_S h1
  exact ⟨h4, h5 0 (by omega), h2, h3⟩
theorem ext_G {T X : hz_TX} {k v : Nat} (h : Ext (hz_tG T k v) X) : Ext T X ∧ (∀ j, j < 7 → X.2 (T.1 + j) = hz_gueT j) ∧ (∀ j, j < 2 → X.2 (T.1 + 7 + j) = hz_nmT k j) ∧ X.2 (T.1 + 9) = 32 ∧ (∀ j, j < hz_dg v → X.2 (T.1 + 10 + j) = hz_dec v j) ∧ T.1 + 10 + hz_dg v ≤ X.1 := by
  obtain ⟨h1, h2, h3⟩ := ext_S h
  obtain ⟨h4, h5, h6⟩ := ext_S h1
  obtain ⟨h7, h8, h9⟩ := ext_S h4
  obtain ⟨g1, g2, g3⟩ := ext_S h7
  exact ⟨g1, g2, h8, h5 0 (by omega), h2, h3⟩
theorem ext_g {x0 : hz_TX} {ag : Nat → Nat} {X : hz_TX} : ∀ (d k : Nat), Ext (gsT x0 ag (k + d)) X → Ext (gsT x0 ag k) X
  | 0, k, h => h
  | d + 1, k, h => ext_g d k (ext_G (T := gsT x0 ag (k + d)) h).1
theorem gs_nx {x0 : hz_TX} {ag : Nat → Nat} {gs k : Nat} {X : hz_TX} (hX : X = gsT x0 ag gs) (hk : k ≤ gs) : Ext (gsT x0 ag k) X ∧ ((k = gs ∧ (gsT x0 ag k).1 = X.1) ∨ (k < gs ∧ (gsT x0 ag k).1 < X.1 ∧ X.2 (gsT x0 ag k).1 = 59)) := by
  have hE : Ext (gsT x0 ag gs) X := by
    rw [hX]
    exact ⟨Nat.le_refl _, fun _ _ => rfl⟩
  have h1 : Ext (gsT x0 ag k) X := ext_g (gs - k) k (by rw [show k + (gs - k) = gs by omega]; exact hE)
  refine ⟨h1, ?_⟩
  by_cases c : k = gs
  · exact Or.inl ⟨c, by rw [hX, c]⟩
  · have h2 : Ext (gsT x0 ag (k + 1)) X := ext_g (gs - (k + 1)) (k + 1) (by rw [show k + 1 + (gs - (k + 1)) = gs by omega]; exact hE)
    obtain ⟨g1, g2, g3, g4, g5, g6⟩ := ext_G (T := gsT x0 ag k) h2
    exact Or.inr ⟨by omega, by omega, g2 0 (by omega)⟩
/-- the token behind k guests -/
def Tail (X : hz_TX) (x0 : hz_TX) (ag : Nat → Nat) (gs k : Nat) (M : hz_M) : Prop := (k = gs ∧ Tk M X 0 X.1 X.1) ∨ (k < gs ∧ Tk M X 59 (gsT x0 ag k).1 ((gsT x0 ag k).1 + 1))
theorem t_tail {x0 : hz_TX} {ag : Nat → Nat} {gs k : Nat} {X : hz_TX} (hX : X = gsT x0 ag gs) (hk : k ≤ gs) {M : hz_M} (h : Tx M X) (h4 : M 9 4 = nI (gsT x0 ag k).1) : ∃ M', f_X8_advance M = some (0, M') ∧ Tail X x0 ag gs k M' ∧ ∀ a, a ≠ 9 → M' a = M a := by
  rcases (gs_nx hX hk).2 with ⟨e, h1⟩ | ⟨e, h1, h2⟩
  · obtain ⟨M', a1, a2, a3⟩ := t_end h h4 h1
    exact ⟨M', a1, Or.inl ⟨e, a2⟩, a3⟩
  · obtain ⟨M', a1, a2, a3⟩ := t_sign h h4 h1 h2
    exact ⟨M', a1, Or.inr ⟨e, a2⟩, a3⟩
theorem not_dig {x0 : hz_TX} {ag : Nat → Nat} {gs k : Nat} {X : hz_TX} (hX : X = gsT x0 ag gs) (hk : k ≤ gs) : (gsT x0 ag k).1 = X.1 ∨ ¬ (48 ≤ X.2 (gsT x0 ag k).1 ∧ X.2 (gsT x0 ag k).1 ≤ 57) := by
  rcases (gs_nx hX hk).2 with ⟨e, h1⟩ | ⟨e, h1, h2⟩
  · exact Or.inl h1
  · exact Or.inr (by omega)
/-- the head, as far as k numbers -/
def HdS (v : Nat → Nat) (M0 M : hz_M) (k : Nat) : Prop := (∀ a, a ≠ 5 → a ≠ 9 → M a = M0 a) ∧ M 5 3 = 0 ∧ ∀ i, i < k → M 5 (4 + i) = nI (v i)
theorem HdS_s {v : Nat → Nat} {M0 M M' : hz_M} {k : Nat} (h : HdS v M0 M k) (fr : ∀ a, a ≠ 9 → M' a = M a) : HdS v M0 (hz_set M' 5 (4 + k) (nI (v k))) (k + 1) := by
  obtain ⟨h1, h2, h3⟩ := h
  refine ⟨fun a a5 a9 => by rw [hy_seto _ _ _ a5, fr a a9, h1 a a5 a9], by rw [hy_setn _ _ _ (by omega), fr 5 (by omega)]; exact h2, fun i hi => ?_⟩
  by_cases e : i = k
  · subst e
    rw [hy_setk]
  · rw [hy_setn _ _ _ (by omega), fr 5 (by omega)]
    exact h3 i (by omega)
theorem hd_step {v : Nat → Nat} {M0 M : hz_M} {X : hz_TX} {k s lo hi : Nat} (S : HdS v M0 M k) (T : Tk M X 2 s (hdT v k).1) (h5 : M 9 5 = nI (v k)) (E : Ext (hdT v (k + 1)) X) (hv : v (k + 1) < 100) (hn : (hdT v (k + 1)).1 = X.1 ∨ ¬ (48 ≤ X.2 (hdT v (k + 1)).1 ∧ X.2 (hdT v (k + 1)).1 ≤ 57)) (h1 : lo ≤ v k) (h2 : v k ≤ hi) (hhi : hi ≤ 1000) : ∃ M', f_X8_needNumber (nI lo) (nI hi) M = some (nI (v k), M') ∧ HdS v M0 (hz_set M' 5 (4 + k) (nI (v k))) (k + 1) ∧ (∃ s, Tk (hz_set M' 5 (4 + k) (nI (v k))) X 2 s (hdT v (k + 1)).1) ∧ hz_set M' 5 (4 + k) (nI (v k)) 9 5 = nI (v (k + 1)) := by
  obtain ⟨e1, e2, e3, e4⟩ := ext_hd E
  obtain ⟨M', a1, a2, a3, a4⟩ := t_num T.1 T.2.2.2 hv e4 e2 e3 hn
  exact ⟨M', t_needN T h5 h1 h2 hhi a1, HdS_s S a4, ⟨_, Tk_fr (hy_seto _ _ _ (by omega)) (hy_seto _ _ _ (by omega)) a2⟩, by rw [hy_seto _ _ _ (by omega)]; exact a3⟩
/-- k guests are read -/
def GsS (x0 : hz_TX) (ag : Nat → Nat) (M0 M : hz_M) (k : Nat) : Prop := (∀ a, (a < 5 ∨ 9 < a) → M a = M0 a) ∧ M 5 3 = nI k ∧ (∀ i, 4 ≤ i → M 5 i = M0 5 i) ∧ ∀ g, g < k → M 6 g = nI (ag g) ∧ M 8 g = nI 2 ∧ M 7 (6 * g) = nI 103 ∧ M 7 (6 * g + 1) = nI (97 + g)
theorem gue_cc : ∀ j, j < 5 → nI (hz_gueT (1 + j)) = hz_cc 2 (nI j) := by decide +kernel
theorem bath_cc : ∀ j, j < 4 → nI (hz_bathT j) = hz_cc 1 (nI j) := by decide +kernel
theorem gue_al0 : ∀ j, j < 6 → 1 ≤ j → 97 ≤ hz_gueT j ∧ hz_gueT j ≤ 122 := by decide
theorem gue_al (j : Nat) (h1 : 1 ≤ j) (h : j < 6) : 97 ≤ hz_gueT j ∧ hz_gueT j ≤ 122 := gue_al0 j h h1
theorem bath_al : ∀ j, j < 4 → 97 ≤ hz_bathT j ∧ hz_bathT j ≤ 122 := by decide
theorem t_guest {x0 : hz_TX} {ag : Nat → Nat} {gs k : Nat} {X : hz_TX} (hX : X = gsT x0 ag gs) (hk : k < gs) (hgs : gs ≤ 8) (hag : ag k < 100) {M0 M : hz_M} (T : Tk M X 59 (gsT x0 ag k).1 ((gsT x0 ag k).1 + 1)) (S : GsS x0 ag M0 M k) : ∃ M1 M2, f_X8_needSign (59 : Int32) M = some (0, M1) ∧ f_X3_readGuest 5 M1 = some (0, M2) ∧ Tail X x0 ag gs (k + 1) M2 ∧ GsS x0 ag M0 M2 (k + 1) := by
  obtain ⟨s1, s2, s3, s4⟩ := S
  have h600 := T.1.2.1
  obtain ⟨g1, g2, g3, g4, g5, g6⟩ := ext_G (T := gsT x0 ag k) (gs_nx hX (show k + 1 ≤ gs by omega)).1
  have hnd := not_dig hX (show k + 1 ≤ gs by omega)
  have elen : (gsT x0 ag (k + 1)).1 = (gsT x0 ag k).1 + 10 + hz_dg (ag k) := by
    show (gsT x0 ag k).1 + 7 + 2 + 1 + hz_dg (ag k) = _
    omega
  have htl := fun (M : hz_M) (h : Tx M X) h4 => t_tail (M := M) hX (show k + 1 ≤ gs by omega) h h4
  rw [elen] at hnd htl
  have hT : Tail X x0 ag gs (k + 1) = Tail X x0 ag gs (k + 1) := rfl
  generalize (gsT x0 ag k).1 = p at T g1 g2 g3 g4 g5 g6 hnd htl
  -- the word guest
  obtain ⟨M1, a1, a2, a3⟩ := t_word (s := p + 1) (e2 := p + 6) T.1 T.2.2.2 (Nat.le_refl _) (by omega) (by omega) (fun j h1 h2 => absurd h1 (by omega)) (fun j h1 h2 => by rw [show j = p + (j - p) by omega, g2 (j - p) (by omega)]; exact gue_al _ (by omega) (by omega)) (Or.inr (by rw [g2 6 (by omega)]; decide))
  have n1 : f_X8_needSign (59 : Int32) M = some (0, M1) := by
    unfold f_X8_needSign
    rw [hy_jn, if_pos T.2.1]
    dsimp only
    rw [t_goOn T.1.2.2.2.1 a1, hy_cts]
  -- the name
  obtain ⟨M2, b1, b2, b3⟩ := t_word (s := p + 7) (e2 := p + 9) a2.1 a2.2.2.2 (by omega) (by omega) (by omega) (fun j h1 h2 => by rw [show j = p + 6 by omega, g2 6 (by omega)]; rfl) (fun j h1 h2 => by
    rw [show j = p + 7 + (j - (p + 7)) by omega, g3 (j - (p + 7)) (by omega)]
    unfold hz_nmT
    split <;> omega) (Or.inr (by omega))
  have n2 : f_X8_needWord 2 M1 = some (0, M2) := by
    unfold f_X8_needWord
    rw [t_isW a2 (by omega) (show hz_len.getD 2 0 = 5 from rfl) (by omega) (by omega) (fun j hj => by rw [show p + 1 + j = p + (1 + j) by omega, g2 (1 + j) (by omega)]; exact gue_cc j hj), hy_cts, t_goOn a2.1.2.2.2.1 b1, hy_cts]
  have f2 : ∀ a, a ≠ 9 → M2 a = M a := fun a ha => by rw [b3 a ha, a3 a ha]
  have n3 : f_X8_checkName M2 = some (0, M2) := by
    unfold f_X8_checkName
    rw [if_pos b2.2.1, b2.2.2.1, b2.2.2.2, hy_sub (by omega), show p + 9 - (p + 7) = 2 by omega, if_pos (by decide)]
  have n4 : f_X3_guestNamed 5 (M2 9 3) (M2 9 4) M2 = some (-1, M2) := by
    rw [b2.2.2.1, b2.2.2.2, c_named (G := k) (l := X.1) (by rw [f2 5 (by omega)]; exact s2) (by omega) (fun g hg => ⟨2, by omega, by rw [f2 8 (by omega)]; exact (s4 g hg).2.1⟩) b2.1.1 h600 (by omega) (by omega)]
    rw [hy_fnd_none k 0 (fun g h1 h2 => by
      unfold nmF
      refine decide_eq_false (fun h => ?_)
      have h3 := h.2 1 (by omega)
      rw [show p + 7 + 1 = p + 7 + 1 from rfl, (b2.1.2.2.1 (p + 7 + 1) (by omega)).1, g3 1 (by omega), f2 7 (by omega), (s4 g (by omega)).2.2.2] at h3
      rw [show hz_nmT k 1 = 97 + k from rfl, hy_eq (by omega) (by omega)] at h3
      omega)]
  -- the name is kept
  obtain ⟨M3, c1, c2, c3, c4⟩ := c_keep (th := 5) (i := k) (s := p + 7) (e := p + 9) (n := X.1) (by omega) h600 (by omega) (by omega) (by omega) (Or.inr rfl) 2 0 hz_FU (hz_set M2 8 k (nI 2)) (by rw [hy_seto _ _ _ (by omega)]; exact b2.1.1) (by rw [hy_seto _ _ _ (by omega)]; exact b2.2.2.1) (by rw [hy_seto _ _ _ (by omega), f2 5 (by omega)]; exact s2) (by omega) (hy_FU (by omega))
  have n5 : f_X3_keepName 5 M2 = some (0, M3) := by
    unfold f_X3_keepName
    rw [b2.2.2.1, b2.2.2.2, hy_sub (by omega), show p + 9 - (p + 7) = 2 by omega, if_neg (show ¬ (6 : Int32) < nI 2 by decide), hy_lt', f2 5 (by omega), s2, hy_in (by omega) (by omega), hy_gt, hy_c (by omega), hy_lm]
    rw [show p + 9 - (p + 7) = 2 by omega] at c1
    exact c1
  have f3 : ∀ a, a ≠ 7 → M3 a = hz_set M2 8 k (nI 2) a := c2
  have t3 : Tk M3 X 1 (p + 7) (p + 9) := Tk_fr (by rw [f3 9 (by omega), hy_seto _ _ _ (by omega)]) (by rw [f3 10 (by omega), hy_seto _ _ _ (by omega)]) b2
  -- the age
  obtain ⟨M4, d1, d2, d3, d4⟩ := t_num (e := p + 9) (v := ag k) t3.1 t3.2.2.2 hag (by omega) g4 (fun j hj => by rw [show p + 9 + 1 + j = p + 10 + j by omega]; exact g5 j hj) (by rw [show p + 9 + 1 + hz_dg (ag k) = p + 10 + hz_dg (ag k) by omega]; exact hnd)
  obtain ⟨M5, e1, e2, e3⟩ := htl M4 d2.1 (by rw [d2.2.2.2])
  have n6 := t_needN (lo := 0) (hi := 99) d2 d3 (by omega) (by omega) (by omega) e1
  have m5 : M4 5 3 = nI k := by rw [d4 5 (by omega), f3 5 (by omega), hy_seto _ _ _ (by omega), f2 5 (by omega)]; exact s2
  have m5' : M5 5 3 = nI k := by rw [e3 5 (by omega)]; exact m5
  refine ⟨M1, hz_set (hz_set M5 6 k (nI (ag k))) 5 3 (nI (k + 1)), n1, ?_, ?_, ?_⟩
  · unfold f_X3_readGuest
    refine hy_jnI (fun k32 h32 => ?_)
    have e53 : M1 5 3 = nI k := by rw [a3 5 (by omega)]; exact s2
    rw [e53, if_pos (show nI k < (16 : Int32) by rw [show (16 : Int32) = nI 16 from rfl, hy_lt (by omega) (by omega)]; omega), h32]
    dsimp only
    rw [n2, hy_cts, n3, hy_cts]
    refine hy_jnI (fun k23 h23 => ?_)
    rw [if_pos b2.1.2.2.2.1, n4, hy_cts, if_pos rfl, h23]
    dsimp only
    rw [if_pos b2.1.2.2.2.1, f2 5 (by omega), s2, if_pos (show nI k < (16 : Int32) by rw [show (16 : Int32) = nI 16 from rfl, hy_lt (by omega) (by omega)]; omega), n5, hy_cts, d1, hy_cts]
    rw [show f_X8_needNumber (0 : Int32) (99 : Int32) M4 = some (nI (ag k), M5) from n6, hy_cts, m5, hy_in (by omega) (by omega), hy_gt, hy_c (by omega), hy_lm, hy_lm, hy_seto _ _ _ (by omega), m5', hy_add1]
  · rcases e2 with ⟨h1, h2⟩ | ⟨h1, h2⟩
    · exact Or.inl ⟨h1, Tk_fr (by rw [hy_seto _ _ _ (by omega), hy_seto _ _ _ (by omega)]) (by rw [hy_seto _ _ _ (by omega), hy_seto _ _ _ (by omega)]) h2⟩
    · exact Or.inr ⟨h1, Tk_fr (by rw [hy_seto _ _ _ (by omega), hy_seto _ _ _ (by omega)]) (by rw [hy_seto _ _ _ (by omega), hy_seto _ _ _ (by omega)]) h2⟩
  · have f5 : ∀ a, a ≠ 9 → M5 a = M3 a := fun a ha => by rw [e3 a ha, d4 a ha]
    refine ⟨fun a ha => by rw [hy_seto _ _ _ (by omega), hy_seto _ _ _ (by omega), f5 a (by omega), f3 a (by omega), hy_seto _ _ _ (by omega), f2 a (by omega)]; exact s1 a ha, hy_setk _ _ _ _, fun i hi => by rw [hy_setn _ _ _ (by omega), hy_seto _ _ _ (by omega), f5 5 (by omega), f3 5 (by omega), hy_seto _ _ _ (by omega), f2 5 (by omega)]; exact s3 i hi, fun g hg => ?_⟩
    rw [hy_seto (a := 6) _ _ _ (by omega), hy_seto (a := 8) _ _ _ (by omega), hy_seto (a := 8) _ _ _ (by omega), hy_seto (a := 7) _ _ _ (by omega), hy_seto (a := 7) _ _ _ (by omega), f5 8 (by omega), f5 7 (by omega), f3 8 (by omega)]
    by_cases e : g = k
    · subst e
      have x0' : M3 7 (6 * g) = hz_set M2 8 g (nI 2) 10 (p + 7) := c4 0 (by omega) (by omega)
      have x1' : M3 7 (6 * g + 1) = hz_set M2 8 g (nI 2) 10 (p + 7 + 1) := c4 1 (by omega) (by omega)
      rw [hy_seto _ _ _ (by omega)] at x0' x1'
      have y0 := g3 0 (by omega)
      have y1 := g3 1 (by omega)
      rw [Nat.add_zero] at y0
      refine ⟨hy_setk _ _ _ _, hy_setk _ _ _ _, ?_, ?_⟩
      · rw [x0', (b2.1.2.2.1 (p + 7) (by omega)).1, y0]
        rfl
      · rw [x1', (b2.1.2.2.1 (p + 7 + 1) (by omega)).1, y1]
        rfl
    · obtain ⟨z1, z2, z3, z4⟩ := s4 g (by omega)
      rw [hy_setn _ _ _ e, hy_setn _ _ _ e, c3 (6 * g) (by omega), c3 (6 * g + 1) (by omega), hy_seto (a := 7) _ _ _ (by omega), f5 6 (by omega), f3 6 (by omega), hy_seto (a := 6) _ _ _ (by omega), f2 6 (by omega), f2 7 (by omega), f2 8 (by omega)]
      exact ⟨z1, z2, z3, z4⟩
theorem t_L106 (kk : hz_M → hz_O) {x0 : hz_TX} {ag : Nat → Nat} {gs : Nat} {X : hz_TX} (hX : X = gsT x0 ag gs) (hgs : gs ≤ 8) (hag : ∀ g, g < gs → ag g < 100) {M0 : hz_M} : ∀ (d k f : Nat) (M : hz_M), k + d = gs → d < f → Tail X x0 ag gs k M → GsS x0 ag M0 M k → ∃ M', f_X3_read_L106 5 kk f (nI k) M = kk M' ∧ Tk M' X 0 X.1 X.1 ∧ GsS x0 ag M0 M' gs
  | 0, k, f, M, hk, hf, T, S => by
    obtain ⟨f, rfl⟩ : ∃ e, f = e + 1 := ⟨f - 1, by omega⟩
    have e : k = gs := by omega
    subst e
    rcases T with ⟨_, h⟩ | ⟨h1, h⟩
    · refine ⟨M, ?_, h, S⟩
      rw [f_X3_read_L106, if_neg (show ¬ (16 : Int32) < nI k by rw [show (16 : Int32) = nI 16 from rfl, hy_lt (by omega) (by omega)]; omega), if_pos h.1.2.2.2.1, h.2.1, if_neg (by decide)]
    · exact absurd h1 (by omega)
  | d + 1, k, f, M, hk, hf, T, S => by
    obtain ⟨f, rfl⟩ : ∃ e, f = e + 1 := ⟨f - 1, by omega⟩
    rcases T with ⟨h1, h⟩ | ⟨h1, h⟩
    · exact absurd h1 (by omega)
    · obtain ⟨M1, M2, e1, e2, T2, S2⟩ := t_guest hX h1 hgs (hag k h1) h S
      obtain ⟨M', e3, T3, S3⟩ := t_L106 kk hX hgs hag d (k + 1) f M2 (by omega) (by omega) T2 S2
      refine ⟨M', ?_, T3, S3⟩
      rw [f_X3_read_L106, if_neg (show ¬ (16 : Int32) < nI k by rw [show (16 : Int32) = nI 16 from rfl, hy_lt (by omega) (by omega)]; omega), if_pos h.1.2.2.2.1, if_pos h.2.1, e1, hy_cts, e2, hy_cts, hy_lt', hy_add1]
      exact e3
