/-! THE LAW'S BEGINNING -/
theorem L_begA (xs : Nat → Int32) {L : Nat} (hL : L ≤ 260) {b : Nat} (kz : hz_M → hz_O) (M : hz_M) : ∃ (v : Nat → Nat) (gs : Nat) (M1 : hz_M), f_L_begA b xs L kz M = kz M1 ∧ HV v ∧ gs ≤ 8 ∧ (∀ k, k < 8 → M1 b k = nI (v k)) ∧ M1 b 9 = 30 ∧ M1 b 10 = nI gs ∧ (∀ k, (k = 8 ∨ 11 ≤ k) → M1 b k = M b k) ∧ ∀ a, a ≠ b → M1 a = M a := by
  obtain ⟨r0, l0, p0⟩ := L_pick xs (a := 0) (n := 6) hL (by omega) (by omega) (by omega)
  have p0' : ∀ M, f_L_pick xs L (0 : Int32) (6 : Int32) M = some (nI r0, M) := p0
  obtain ⟨r1, l1, p1⟩ := L_pick xs (a := 1) (n := 8) hL (by omega) (by omega) (by omega)
  have p1' : ∀ M, f_L_pick xs L (1 : Int32) (8 : Int32) M = some (nI r1, M) := p1
  obtain ⟨r2, l2, p2⟩ := L_pick xs (a := 2) (n := 1 + r1 + 1) hL (by omega) (by omega) (by omega)
  have p2' : ∀ M, f_L_pick xs L (2 : Int32) (nI (1 + r1 + 1)) M = some (nI r2, M) := p2
  obtain ⟨r3, l3, p3⟩ := L_pick xs (a := 3) (n := 4) hL (by omega) (by omega) (by omega)
  have p3' : ∀ M, f_L_pick xs L (3 : Int32) (4 : Int32) M = some (nI r3, M) := p3
  obtain ⟨r4, l4, p4⟩ := L_pick xs (a := 4) (n := 6) hL (by omega) (by omega) (by omega)
  have p4' : ∀ M, f_L_pick xs L (4 : Int32) (6 : Int32) M = some (nI r4, M) := p4
  obtain ⟨r5, l5, p5⟩ := L_pick xs (a := 5) (n := 3) hL (by omega) (by omega) (by omega)
  have p5' : ∀ M, f_L_pick xs L (5 : Int32) (3 : Int32) M = some (nI r5, M) := p5
  obtain ⟨r6, l6, p6⟩ := L_pick xs (a := 6) (n := 8) hL (by omega) (by omega) (by omega)
  have p6' : ∀ M, f_L_pick xs L (6 : Int32) (8 : Int32) M = some (nI r6, M) := p6
  obtain ⟨r7, l7, p7⟩ := L_pick xs (a := 7) (n := 6) hL (by omega) (by omega) (by omega)
  have p7' : ∀ M, f_L_pick xs L (7 : Int32) (6 : Int32) M = some (nI r7, M) := p7
  obtain ⟨r8, l8, p8⟩ := L_pick xs (a := 8) (n := 9) hL (by omega) (by omega) (by omega)
  have p8' : ∀ M, f_L_pick xs L (8 : Int32) (9 : Int32) M = some (nI r8, M) := p8
  refine ⟨fun k => if k = 0 then 1 + r0 else if k = 1 then 1 + r1 else if k = 2 then r2 else if k = 3 then 1 + r3 else if k = 4 then 1 + r4 else if k = 5 then 1 + r5 else if k = 6 then 2 + r6 else r7, r8, ?_⟩
  unfold f_L_begA
  rw [p0', hy_cts, show (1 : Int32) + nI r0 = nI (1 + r0) from hy_add 1 r0, hy_lm, p1', hy_cts, show (1 : Int32) + nI r1 = nI (1 + r1) from hy_add 1 r1, hy_lm, hy_setk, hy_add1, p2', hy_cts, hy_lm, p3', hy_cts, show (1 : Int32) + nI r3 = nI (1 + r3) from hy_add 1 r3, hy_lm, p4', hy_cts, show (1 : Int32) + nI r4 = nI (1 + r4) from hy_add 1 r4, hy_lm, p5', hy_cts, show (1 : Int32) + nI r5 = nI (1 + r5) from hy_add 1 r5, hy_lm, p6', hy_cts, show (2 : Int32) + nI r6 = nI (2 + r6) from hy_add 2 r6, hy_lm, p7', hy_cts, hy_lm, hy_lm, p8', hy_cts, hy_lm]
  refine ⟨_, rfl, ⟨⟨show 1 ≤ 1 + r0 by omega, show 1 + r0 ≤ 12 by omega⟩, ⟨show 1 ≤ 1 + r1 by omega, show 1 + r1 ≤ 16 by omega⟩, show r2 ≤ 1 + r1 by omega, ⟨show 1 ≤ 1 + r3 by omega, show 1 + r3 ≤ 4 by omega⟩, ⟨show 1 ≤ 1 + r4 by omega, show 1 + r4 ≤ 6 by omega⟩, ⟨show 1 ≤ 1 + r5 by omega, show 1 + r5 ≤ 9 by omega⟩, ⟨show 2 ≤ 2 + r6 by omega, show 2 + r6 ≤ 60 by omega⟩, show r7 ≤ 30 by omega⟩, by omega, fun k hk => ?_, ?_, hy_setk _ _ _ _, fun k hk => ?_, fun a ha => ?_⟩
  · match k, hk with
    | 0, _ =>
      show _ = nI (1 + r0)
      simp (disch := omega) only [hy_setn, hy_setk]
    | 1, _ =>
      show _ = nI (1 + r1)
      simp (disch := omega) only [hy_setn, hy_setk]
    | 2, _ =>
      show _ = nI (r2)
      simp (disch := omega) only [hy_setn, hy_setk]
    | 3, _ =>
      show _ = nI (1 + r3)
      simp (disch := omega) only [hy_setn, hy_setk]
    | 4, _ =>
      show _ = nI (1 + r4)
      simp (disch := omega) only [hy_setn, hy_setk]
    | 5, _ =>
      show _ = nI (1 + r5)
      simp (disch := omega) only [hy_setn, hy_setk]
    | 6, _ =>
      show _ = nI (2 + r6)
      simp (disch := omega) only [hy_setn, hy_setk]
    | 7, _ =>
      show _ = nI (r7)
      simp (disch := omega) only [hy_setn, hy_setk]
    | k + 8, hk => exact absurd hk (by omega)
  · simp (disch := omega) only [hy_setn, hy_setk]
  · simp (disch := omega) only [hy_setn]
  · simp (disch := omega) only [hy_seto]
theorem L_227 {b T : Nat} (hT : T ≤ 16) (kk : hz_M → hz_O) : ∀ (k i f : Nat) (M : hz_M), M b 2 = nI T → i + k = 16 → k < f → (∀ p, p < i → M (b + 2) p = if p < T then nI p else -1) → ∃ M', f_L_begins_L227 b kk f (nI i) M = kk M' ∧ (∀ p, p < 16 → M' (b + 2) p = if p < T then nI p else -1) ∧ ∀ a, a ≠ b + 2 → M' a = M a
  | 0, i, f, M, h2, hi, hf, hp => by
    obtain ⟨f, rfl⟩ : ∃ e, f = e + 1 := ⟨f - 1, by omega⟩
    refine ⟨M, ?_, fun p h => hp p (by omega), fun _ _ => rfl⟩
    rw [f_L_begins_L227, if_pos (show (16 : Int32) ≤ nI i by rw [show (16 : Int32) = nI 16 from rfl, hy_le (by omega) (by omega)]; omega)]
  | k + 1, i, f, M, h2, hi, hf, hp => by
    obtain ⟨f, rfl⟩ : ∃ e, f = e + 1 := ⟨f - 1, by omega⟩
    have go : ∀ v : Int32, v = (if i < T then nI i else -1) → ∃ M', f_L_begins_L227 b kk f (nI (i + 1)) (hz_set M (b + 2) i v) = kk M' ∧ (∀ p, p < 16 → M' (b + 2) p = if p < T then nI p else -1) ∧ ∀ a, a ≠ b + 2 → M' a = M a := by
      intro v hv
      obtain ⟨M', e1, e2, e3⟩ := L_227 (b := b) hT kk k (i + 1) f (hz_set M (b + 2) i v) (by rw [hy_seto _ _ _ (by omega)]; exact h2) (by omega) (by omega) (fun p h => by
        by_cases e : p = i
        · subst e
          rw [hy_setk]
          exact hv
        · rw [hy_setn _ _ _ e]
          exact hp p (by omega))
      exact ⟨M', e1, e2, fun a ha => by rw [e3 a ha, hy_seto _ _ _ ha]⟩
    rw [f_L_begins_L227, if_neg (show ¬ (16 : Int32) ≤ nI i by rw [show (16 : Int32) = nI 16 from rfl, hy_le (by omega) (by omega)]; omega), h2]
    by_cases c : T ≤ i
    · obtain ⟨M', e1, e2⟩ := go (-1) (by rw [if_neg (by omega)])
      refine ⟨M', ?_, e2⟩
      refine hy_jnI (fun k31 h31 => ?_)
      rw [if_pos (by rw [hy_le (by omega) (by omega)]; exact c), h31]
      dsimp only
      rw [hy_in (by omega) (by omega), hy_gt, hy_c (by omega), hy_lm, hy_lt', hy_add1]
      exact e1
    · obtain ⟨M', e1, e2⟩ := go (nI i) (by rw [if_pos (by omega)])
      refine ⟨M', ?_, e2⟩
      refine hy_jnI (fun k31 h31 => ?_)
      rw [if_neg (by rw [hy_le (by omega) (by omega)]; exact c), h31]
      dsimp only
      rw [hy_in (by omega) (by omega), hy_gt, hy_c (by omega), hy_lm, hy_lt', hy_add1]
      exact e1
theorem L_265 {b : Nat} (kk : hz_M → hz_O) : ∀ (k i f : Nat) (M : hz_M), i + k = 12 → k < f → (∀ p, p < i → M (b + 3) p = -1) → ∃ M', f_L_begins_L265 b kk f (nI i) M = kk M' ∧ (∀ p, p < 12 → M' (b + 3) p = -1) ∧ ∀ a, a ≠ b + 3 → M' a = M a
  | 0, i, f, M, hi, hf, hp => by
    obtain ⟨f, rfl⟩ : ∃ e, f = e + 1 := ⟨f - 1, by omega⟩
    refine ⟨M, ?_, fun p h => hp p (by omega), fun _ _ => rfl⟩
    rw [f_L_begins_L265, if_pos (show (12 : Int32) ≤ nI i by rw [show (12 : Int32) = nI 12 from rfl, hy_le (by omega) (by omega)]; omega)]
  | k + 1, i, f, M, hi, hf, hp => by
    obtain ⟨f, rfl⟩ : ∃ e, f = e + 1 := ⟨f - 1, by omega⟩
    obtain ⟨M', e1, e2, e3⟩ := L_265 (b := b) kk k (i + 1) f (hz_set M (b + 3) i (-1)) (by omega) (by omega) (fun p h => by
      by_cases e : p = i
      · subst e
        rw [hy_setk]
      · rw [hy_setn _ _ _ e]
        exact hp p (by omega))
    refine ⟨M', ?_, e2, fun a ha => by rw [e3 a ha, hy_seto _ _ _ ha]⟩
    rw [f_L_begins_L265, if_neg (show ¬ (12 : Int32) ≤ nI i by rw [show (12 : Int32) = nI 12 from rfl, hy_le (by omega) (by omega)]; omega), hy_in (by omega) (by omega), hy_gt, hy_c (by omega), hy_lm, hy_lt', hy_add1]
    exact e1
theorem L_289 {b : Nat} (kk : hz_M → hz_O) : ∀ (k i f : Nat) (M : hz_M), i + k = 16 → k < f → (∀ p, p < i → M (b + 7) p = -1 ∧ M (b + 8) p = -1 ∧ M (b + 11) p = -1) → ∃ M', f_L_begins_L289 b kk f (nI i) M = kk M' ∧ (∀ p, p < 16 → M' (b + 7) p = -1 ∧ M' (b + 8) p = -1 ∧ M' (b + 11) p = -1) ∧ ∀ a, a ≠ b + 7 → a ≠ b + 8 → a ≠ b + 11 → M' a = M a
  | 0, i, f, M, hi, hf, hp => by
    obtain ⟨f, rfl⟩ : ∃ e, f = e + 1 := ⟨f - 1, by omega⟩
    refine ⟨M, ?_, fun p h => hp p (by omega), fun _ _ _ _ => rfl⟩
    rw [f_L_begins_L289, if_pos (show (16 : Int32) ≤ nI i by rw [show (16 : Int32) = nI 16 from rfl, hy_le (by omega) (by omega)]; omega)]
  | k + 1, i, f, M, hi, hf, hp => by
    obtain ⟨f, rfl⟩ : ∃ e, f = e + 1 := ⟨f - 1, by omega⟩
    obtain ⟨M', e1, e2, e3⟩ := L_289 (b := b) kk k (i + 1) f (hz_set (hz_set (hz_set M (b + 7) i (-1)) (b + 8) i (-1)) (b + 11) i (-1)) (by omega) (by omega) (fun p h => by
      by_cases e : p = i
      · subst e
        refine ⟨?_, ?_, hy_setk _ _ _ _⟩
        · rw [hy_seto _ _ _ (by omega), hy_seto _ _ _ (by omega), hy_setk]
        · rw [hy_seto _ _ _ (by omega), hy_setk]
      · obtain ⟨h1, h2, h3⟩ := hp p (by omega)
        refine ⟨?_, ?_, ?_⟩
        · rw [hy_seto _ _ _ (by omega), hy_seto _ _ _ (by omega), hy_setn _ _ _ e]; exact h1
        · rw [hy_seto _ _ _ (by omega), hy_setn _ _ _ e, hy_seto _ _ _ (by omega)]; exact h2
        · rw [hy_setn _ _ _ e, hy_seto _ _ _ (by omega), hy_seto _ _ _ (by omega)]; exact h3)
    refine ⟨M', ?_, e2, fun a h7 h8 h11 => by rw [e3 a h7 h8 h11, hy_seto _ _ _ h11, hy_seto _ _ _ h8, hy_seto _ _ _ h7]⟩
    rw [f_L_begins_L289, if_neg (show ¬ (16 : Int32) ≤ nI i by rw [show (16 : Int32) = nI 16 from rfl, hy_le (by omega) (by omega)]; omega), hy_in (by omega) (by omega), hy_gt, hy_c (by omega), hy_lm, hy_gt, hy_lm, hy_gt, hy_lm, hy_lt', hy_add1]
    exact e1
theorem L_begC {b T : Nat} (hT : T ≤ 16) (kz : hz_M → hz_O) {M : hz_M} (h2 : M b 2 = nI T) : ∃ M', f_L_begC b kz M = kz M' ∧ (∀ p, p < 16 → M' (b + 2) p = if p < T then nI p else -1) ∧ (∀ p, p < 12 → M' (b + 3) p = -1) ∧ (∀ p, p < 16 → M' (b + 7) p = -1 ∧ M' (b + 8) p = -1 ∧ M' (b + 11) p = -1) ∧ ∀ a, a ≠ b + 2 → a ≠ b + 3 → a ≠ b + 7 → a ≠ b + 8 → a ≠ b + 11 → M' a = M a := by
  obtain ⟨M1, e1, p1, f1⟩ := L_227 (b := b) hT (fun  (M1 : hz_M) =>
    hz_jn (fun  (M2 : hz_M) =>
      f_L_begins_L289 b kz hz_FU (0 : Int32) M2
      ) fun k13 =>
    f_L_begins_L265 b k13 hz_FU (0 : Int32) M1
    ) 16 0 hz_FU M h2 (by omega) (hy_FU (by omega)) (fun p h => absurd h (Nat.not_lt_zero p))
  obtain ⟨M2, e2, p2, f2⟩ := L_265 (b := b) (fun  (M2 : hz_M) => f_L_begins_L289 b kz hz_FU (0 : Int32) M2) 12 0 hz_FU M1 (by omega) (hy_FU (by omega)) (fun p h => absurd h (Nat.not_lt_zero p))
  obtain ⟨M3, e3, p3, f3⟩ := L_289 (b := b) kz 16 0 hz_FU M2 (by omega) (hy_FU (by omega)) (fun p h => absurd h (Nat.not_lt_zero p))
  refine ⟨M3, ?_, fun p h => by rw [f3 _ (by omega) (by omega) (by omega), f2 _ (by omega)]; exact p1 p h, fun p h => by rw [f3 _ (by omega) (by omega) (by omega)]; exact p2 p h, p3, fun a a2 a3 a7 a8 a11 => by rw [f3 a a7 a8 a11, f2 a a3, f1 a a2]⟩
  unfold f_L_begC
  rw [hy_jn]
  refine Eq.trans e1 ?_
  rw [hy_jn]
  refine Eq.trans e2 ?_
  exact e3
theorem L_age (xs : Nat → Int32) {L : Nat} (hL : L ≤ 260) : ∃ ag : Nat → Nat, ∀ k, k ≤ 100 → ag k < 100 ∧ ∃ r1 : Int32, (∀ M, f_L_pick xs L ((10 : Int32) + nI k) (2 : Int32) M = some (r1, M)) ∧ ∀ M, f_L_pick xs L ((9 : Int32) + nI k) (if r1 = 0 then (30 : Int32) else 100) M = some (nI (ag k), M) := by
  have h : ∀ k, ∃ a, k ≤ 100 → a < 100 ∧ ∃ r1 : Int32, (∀ M, f_L_pick xs L ((10 : Int32) + nI k) (2 : Int32) M = some (r1, M)) ∧ ∀ M, f_L_pick xs L ((9 : Int32) + nI k) (if r1 = 0 then (30 : Int32) else 100) M = some (nI a, M) := by
    intro k
    by_cases hk : k ≤ 100
    · obtain ⟨r, lr, pr⟩ := L_pick xs (a := 10 + k) (n := 2) hL (by omega) (by omega) (by omega)
      have pr' : ∀ M, f_L_pick xs L ((10 : Int32) + nI k) (2 : Int32) M = some (nI r, M) := fun M => by
        rw [show (10 : Int32) + nI k = nI (10 + k) from hy_add 10 k]
        exact pr M
      by_cases c : nI r = 0
      · obtain ⟨a, la, pa⟩ := L_pick xs (a := 9 + k) (n := 30) hL (by omega) (by omega) (by omega)
        refine ⟨a, fun _ => ⟨by omega, nI r, pr', fun M => ?_⟩⟩
        rw [if_pos c, show (9 : Int32) + nI k = nI (9 + k) from hy_add 9 k]
        exact pa M
      · obtain ⟨a, la, pa⟩ := L_pick xs (a := 9 + k) (n := 100) hL (by omega) (by omega) (by omega)
        refine ⟨a, fun _ => ⟨by omega, nI r, pr', fun M => ?_⟩⟩
        rw [if_neg c, show (9 : Int32) + nI k = nI (9 + k) from hy_add 9 k]
        exact pa M
    · exact ⟨0, fun x => absurd x hk⟩
  exact ⟨fun k => Classical.choose (h k), fun k => Classical.choose_spec (h k)⟩
theorem L_begG (xs : Nat → Int32) {L : Nat} {b gs : Nat} {ag : Nat → Nat} (hgs : gs ≤ 8) (hag : ∀ k, k ≤ 100 → ag k < 100 ∧ ∃ r1 : Int32, (∀ M, f_L_pick xs L ((10 : Int32) + nI k) (2 : Int32) M = some (r1, M)) ∧ ∀ M, f_L_pick xs L ((9 : Int32) + nI k) (if r1 = 0 then (30 : Int32) else 100) M = some (nI (ag k), M)) (x0 : hz_TX) (kz : hz_TX → hz_M → hz_O) : ∀ (d k f : Nat) (M : hz_M), k + d = gs → d < f → M b 10 = nI gs → (∀ g, g < k → M (b + 6) g = nI (ag g)) → ∃ M', f_L_begG b xs L kz f k (gsT x0 ag k) M = kz (gsT x0 ag gs) M' ∧ (∀ g, g < gs → M' (b + 6) g = nI (ag g)) ∧ ∀ a, a ≠ b + 6 → M' a = M a
  | 0, k, f, M, hk, hf, h10, hp => by
    obtain ⟨f, rfl⟩ : ∃ e, f = e + 1 := ⟨f - 1, by omega⟩
    have e : k = gs := by omega
    subst e
    refine ⟨M, ?_, hp, fun _ _ => rfl⟩
    rw [f_L_begG, h10, if_pos (by rw [hy_le (by omega) (by omega)]; omega)]
  | d + 1, k, f, M, hk, hf, h10, hp => by
    obtain ⟨f, rfl⟩ : ∃ e, f = e + 1 := ⟨f - 1, by omega⟩
    obtain ⟨la, r1, p1, p2⟩ := hag k (by omega)
    obtain ⟨M', e1, e2, e3⟩ := L_begG (b := b) xs hgs hag x0 kz d (k + 1) f (hz_set M (b + 6) k (nI (ag k))) (by omega) (by omega) (by rw [hy_seto _ _ _ (by omega)]; exact h10) (fun g hg => by
      by_cases e : g = k
      · subst e
        rw [hy_setk]
      · rw [hy_setn _ _ _ e]
        exact hp g (by omega))
    refine ⟨M', ?_, e2, fun a ha => by rw [e3 a ha, hy_seto _ _ _ ha]⟩
    rw [f_L_begG, h10, if_neg (by rw [hy_le (by omega) (by omega)]; omega), decide_eq_true (show k < 8 by omega), hy_gt, p1, hy_cts, p2, hy_cts, hy_in la (by omega), hy_gt, hy_c (by omega)]
    exact e1
def hz_pos (x : hz_TX) : Prop := ∀ j, j < x.1 → 1 ≤ x.2 j
theorem pos_S {x : hz_TX} {n : Nat} {s : Nat → Nat} (h : hz_pos x) (hs : ∀ j, j < n → 1 ≤ s j) : hz_pos (hz_tS x n s) := by
  intro j hj
  show 1 ≤ sb_cat x.2 x.1 s j
  unfold sb_cat
  split
  · exact h j (by assumption)
  · exact hs _ (by have : j < x.1 + n := hj; omega)
theorem pos_I {x : hz_TX} {v : Nat} (h : hz_pos x) : hz_pos (hz_tI x v) := pos_S h (fun j _ => by
  unfold hz_dec
  split
  · omega
  · split <;> omega)
theorem pos_C {x : hz_TX} {c0 : Nat} (h : hz_pos x) (hv : 1 ≤ c0) : hz_pos (hz_tC x c0) := pos_S h (fun _ _ => hv)
theorem gue_pos : ∀ j, j < 7 → 1 ≤ hz_gueT j := by decide
theorem bath_pos : ∀ j, j < 5 → 1 ≤ hz_bathT j := by decide
theorem pos_G {x : hz_TX} {k v : Nat} (h : hz_pos x) : hz_pos (hz_tG x k v) := pos_I (pos_C (pos_S (pos_S h gue_pos) (fun j _ => by
  unfold hz_nmT
  split <;> omega)) (by omega))
theorem dg_le (v : Nat) : hz_dg v ≤ 2 := by
  unfold hz_dg
  split <;> omega
theorem hd_ok {v : Nat → Nat} (hv : ∀ k, k < 8 → v k < 100) : ∀ k, k < 8 → hz_asc (hdT v k) ∧ hz_pos (hdT v k) ∧ (hdT v k).1 ≤ 7 + 3 * k
  | 0, h => by
    have l : (hdT v 0).1 = 5 + hz_dg (v 0) := rfl
    have := dg_le (v 0)
    exact ⟨hz_asc_I hz_asc_0 (hv 0 h), pos_I (pos_S (fun j hj => absurd hj (Nat.not_lt_zero j)) bath_pos), by omega⟩
  | k + 1, h => by
    obtain ⟨h1, h2, h3⟩ := hd_ok hv k (by omega)
    have l : (hdT v (k + 1)).1 = (hdT v k).1 + 1 + hz_dg (v (k + 1)) := rfl
    have := dg_le (v (k + 1))
    exact ⟨hz_asc_I (hz_asc_C h1 (by omega)) (hv (k + 1) h), pos_I (pos_C h2 (by omega)), by omega⟩
theorem gs_ok {x0 : hz_TX} {ag : Nat → Nat} (ha : hz_asc x0) (hp : hz_pos x0) (hag : ∀ g, g ≤ 100 → ag g < 100) : ∀ k, k ≤ 8 → hz_asc (gsT x0 ag k) ∧ hz_pos (gsT x0 ag k) ∧ (gsT x0 ag k).1 ≤ x0.1 + 12 * k
  | 0, _ => ⟨ha, hp, Nat.le_refl _⟩
  | k + 1, h => by
    obtain ⟨h1, h2, h3⟩ := gs_ok ha hp hag k (by omega)
    have l : (gsT x0 ag (k + 1)).1 = (gsT x0 ag k).1 + 7 + 2 + 1 + hz_dg (ag k) := rfl
    have := dg_le (ag k)
    exact ⟨hz_asc_G h1 (by omega) (hag k (by omega)), pos_G h2, by omega⟩
theorem hdT_cg {v v' : Nat → Nat} : ∀ k, (∀ i, i ≤ k → v i = v' i) → hdT v k = hdT v' k
  | 0, h => by
    unfold hdT
    rw [h 0 (Nat.le_refl _)]
  | k + 1, h => by
    unfold hdT
    rw [hdT_cg k (fun i hi => h i (by omega)), h (k + 1) (Nat.le_refl _)]
theorem L_begins (xs : Nat → Int32) {L : Nat} (hL : L ≤ 260) {M : hz_M} (h9 : M 9 1 = 0) (h32 : M 32 3 = 0) (hz : ∀ a, 178 ≤ a → ∀ c, M a c = if a = 178 ∧ c = 11 then -1 else 0) : ∃ M' q, f_L_begins 178 xs L M = some (1, M') ∧ hLS 178 M' q (fun _ _ => 0) 0 0 ∧ q 8 = nI 0 := by
  obtain ⟨ag, hag⟩ := L_age xs hL
  obtain ⟨v, gs, M1, a1, V, hgs, a2, a3, a4, a5, a6⟩ := L_begA xs hL (b := 178) (fun M1 => hz_gd ((List.range 8).all fun k => hz_in (M1 178 k) 100) <| f_L_begC 178 (f_L_begG 178 xs L (f_L_begE 178) hz_FU 0 (hz_hd M1 178)) M1) M
  have V' := V
  obtain ⟨⟨v01, v02⟩, ⟨v11, v12⟩, v21, ⟨v31, v32⟩, ⟨v41, v42⟩, ⟨v51, v52⟩, ⟨v61, v62⟩, v71⟩ := V
  have hv : ∀ k, k < 8 → v k < 100 := fun k hk => by
    match k, hk with
    | 0, _ => omega
    | 1, _ => omega
    | 2, _ => omega
    | 3, _ => omega
    | 4, _ => omega
    | 5, _ => omega
    | 6, _ => omega
    | 7, _ => omega
    | k + 8, hk => exact absurd hk (by omega)
  have eall : ((List.range 8).all fun k => hz_in (M1 178 k) 100) = true := List.all_eq_true.mpr (fun k hk => by
    have h8 := List.mem_range.mp hk
    rw [a2 k h8]
    exact hy_in (hv k h8) (by omega))
  have ehd : hz_hd M1 178 = hdT v 7 := by
    rw [show hz_hd M1 178 = hdT (fun k => (M1 178 k).toNatClampNeg) 7 from rfl]
    exact hdT_cg 7 (fun i hi => by
      show (M1 178 i).toNatClampNeg = v i
      have := hv i (by omega)
      rw [a2 i (by omega), hy_c (by omega)])
  obtain ⟨M2, b1, b2, b3, b4, b5⟩ := L_begC (b := 178) (T := v 2) (by omega) (f_L_begG 178 xs L (f_L_begE 178) hz_FU 0 (hz_hd M1 178)) (a2 2 (by omega))
  obtain ⟨M3, c1, c2, c3⟩ := L_begG (b := 178) xs hgs hag (hdT v 7) (f_L_begE 178) gs 0 hz_FU M2 (by omega) (hy_FU (by omega)) (by rw [b5 178 (by omega) (by omega) (by omega) (by omega) (by omega)]; exact a4) (fun g hg => absurd hg (Nat.not_lt_zero g))
  obtain ⟨o1, o2, o3⟩ := hd_ok hv 7 (by omega)
  obtain ⟨g1, g2, g3⟩ := gs_ok o1 o2 (fun g hg => (hag g hg).1) gs hgs
  have fr3 : ∀ a, a < 178 → M3 a = M a := fun a ha => by rw [c3 a (by omega), b5 a (by omega) (by omega) (by omega) (by omega) (by omega), a6 a (by omega)]
  obtain ⟨M4, d1, d2⟩ := L_feeds (M := M3) g1 g2 (by omega) (by rw [fr3 9 (by omega)]; exact h9)
  obtain ⟨M5, e1, e2, e3, e4, e5, e6⟩ := t_load (M0 := M4) (X := gsT (hdT v 7) ag gs) rfl hgs (fun g hg => (hag g (by omega)).1) V' d2.1 (by omega) (fun i hi => ⟨d2.2.1 i hi, g1 i hi⟩) (by rw [d2.2.2 32 (by omega) (by omega), fr3 32 (by omega)]; exact h32)
  have f5 : ∀ a, 178 ≤ a → M5 a = M3 a := fun a ha => by rw [e6 a ha, d2.2.2 a (by omega) (by omega)]
  have f178 : M5 178 = M1 178 := by rw [f5 178 (by omega), c3 178 (by omega), b5 178 (by omega) (by omega) (by omega) (by omega) (by omega)]
  have fo : ∀ a, (a = 179 ∨ a = 182 ∨ a = 183 ∨ a = 187 ∨ a = 188) → ∀ c, M5 a c = 0 := fun a ha c => by
    rw [f5 a (by omega), c3 a (by omega), b5 a (by omega) (by omega) (by omega) (by omega) (by omega), a6 a (by omega), hz a (by omega), if_neg (by omega)]
  obtain ⟨Z, Gz, Lz, Pz, Tz, Vz, Sz⟩ := q00_s (ag := ag) V' hgs
  obtain ⟨kp, hl, tw'⟩ := q00_w (ag := ag) V' hgs
  have T : hy_T (q00 v ag gs) := ⟨0, by omega, q00_z (by omega), Or.inl rfl⟩
  have R : RO 178 M5 (q00 v ag gs) := by
    unfold RO
    rw [Gz, Lz, Pz, Tz]
    refine ⟨?_, fun w hw => ?_, fun p hp => ?_, fun k hk => ?_, fun t ht => ?_, fun k hk => ?_, fun g hg => ?_, fun g hg => ?_, fun g hg => ?_, fun g hg => ?_, fun g hg => ?_, fun g hg => ?_⟩
    · rw [f178]
      refine ⟨?_, ?_, ?_, ?_, ?_, ?_, ?_, ?_, ?_, ?_, ?_, ?_⟩
      · rw [a2 0 (by omega), q00_h (by omega)]
      · rw [a2 1 (by omega), q00_h (by omega)]
      · rw [a2 2 (by omega), q00_h (by omega)]
      · rw [a2 3 (by omega), q00_h (by omega)]
      · rw [a2 4 (by omega), q00_h (by omega)]
      · rw [a2 5 (by omega), q00_h (by omega)]
      · rw [a2 6 (by omega), q00_h (by omega)]
      · rw [a2 7 (by omega), q00_h (by omega)]
      · rw [a5 8 (by omega), hz 178 (by omega), if_neg (by omega), q00_z (by omega)]
      · rw [a3]
        rfl
      · rw [a4]
        rfl
      · rw [a5 11 (by omega), hz 178 (by omega), if_pos ⟨rfl, rfl⟩]
        rfl
    · rw [fo (178 + 1) (by omega), q00_z (by omega)]
    · rw [f5 (178 + 2) (by omega), c3 (178 + 2) (by omega), b2 p (by omega), tw' p (by omega)]
    · rw [f5 (178 + 3) (by omega), c3 (178 + 3) (by omega), b3 k (by omega), kp k (by omega)]
    · rw [fo (178 + 4) (by omega), (q00_t (by omega)).1]
    · rw [fo (178 + 5) (by omega), q00_z (by omega)]
    · rw [f5 (178 + 6) (by omega), c2 g hg, q00_g (by omega) (by omega), if_neg (by omega), if_pos rfl]
    · rw [f5 (178 + 7) (by omega), c3 (178 + 7) (by omega), (b4 g (by omega)).1, q00_g (by omega) (by omega), if_neg (by omega), if_neg (by omega), if_neg (by omega)]
    · rw [f5 (178 + 8) (by omega), c3 (178 + 8) (by omega), (b4 g (by omega)).2.1, q00_g (by omega) (by omega), if_neg (by omega), if_neg (by omega), if_neg (by omega)]
    · rw [fo (178 + 9) (by omega), q00_g (by omega) (by omega), if_neg (by omega), if_neg (by omega), if_pos (by omega)]
    · rw [fo (178 + 10) (by omega), q00_g (by omega) (by omega), if_neg (by omega), if_neg (by omega), if_pos (by omega)]
    · rw [f5 (178 + 11) (by omega), c3 (178 + 11) (by omega), (b4 g (by omega)).2.2, q00_g (by omega) (by omega), if_neg (by omega), if_neg (by omega), if_neg (by omega)]
  have N : hy_N (q00 v ag gs) := by
    refine ⟨by rw [Gz]; exact hgs, fun g hg => ?_⟩
    rw [Gz] at hg
    have e0 := q00_g (v := v) (ag := ag) (gs := gs) (g := g) (c0 := 0) (by omega) (by omega)
    rw [Nat.add_zero, if_pos rfl] at e0
    exact e0
  have E : hy_E (q00 v ag gs) := by
    unfold hy_E
    have e0 : hIns (q00 v ag gs) = 0 := by
      unfold hIns
      rw [Gz]
      exact fold_id gs 0 0 (fun j h1 h2 c => by
        show (if q00 v ag gs (25 + 8 * j + 2) = -1 then c else c + 1) = c
        rw [if_pos (by rw [q00_g (by omega) (by omega), if_neg (by omega), if_neg (by omega), if_neg (by omega)])])
    rw [e0, q00_z (by omega), q00_z (by omega)]
    decide
  refine ⟨M5, q00 v ag gs, ?_, ⟨e2, T, N, E, R, e5, e4⟩, q00_z (by omega)⟩
  unfold f_L_begins
  rw [a1, eall, hy_gt, b1, ehd]
  refine Eq.trans c1 ?_
  unfold f_L_begE
  rw [d1, hy_cts]
  unfold f_L_begD
  have e10 : M5 178 10 = nI gs := by rw [f178]; exact a4
  rw [if_neg hy_f10b, e1, hy_cts, e10, if_pos rfl]
  unfold f_X10_errorPosition
  rw [hy_cts, e3, if_pos rfl]
