theorem hy_inj2 {r r' : Int32} {M : hz_M} {o : hz_O} (h1 : o = some (r, M)) (h2 : o = some (r', M)) : r' = r := by
  rw [h1] at h2; injection h2 with e; injection e with e1 e2; exact e1.symm
theorem gstN_sp : ∀ (a b : Nat) (q : Nat → Int32) (i : Nat), gstN q (a + b) i = gstN (gstN q a i) b (i + a)
  | 0, b, q, i => by rw [Nat.zero_add]; rfl
  | a + 1, b, q, i => by
    have e1 : gstN q ((a + b) + 1) i = gstN (gst q i) (a + b) (i + 1) := rfl
    have e2 : gstN q (a + 1) i = gstN (gst q i) a (i + 1) := rfl
    rw [show a + 1 + b = (a + b) + 1 by omega, e1, e2, gstN_sp a b (gst q i) (i + 1), show i + (a + 1) = i + 1 + a by omega]
theorem towN_sp : ∀ (a b : Nat) (q : Nat → Int32) (i : Nat), towN q (a + b) i = towN (towN q a i) b (i + a)
  | 0, b, q, i => by rw [Nat.zero_add]; rfl
  | a + 1, b, q, i => by
    have e1 : towN q ((a + b) + 1) i = towN (tow q i) (a + b) (i + 1) := rfl
    have e2 : towN q (a + 1) i = towN (tow q i) a (i + 1) := rfl
    rw [show a + 1 + b = (a + b) + 1 by omega, e1, e2, towN_sp a b (tow q i) (i + 1), show i + (a + 1) = i + 1 + a by omega]
theorem towN_o2 : ∀ (k : Nat) (q : Nat → Int32) (i b : Nat), (b < 153 + 2 * i ∨ 153 + 2 * (i + k) ≤ b ∨ b % 2 = 0) → b ≠ 18 → towN q k i b = q b
  | 0, _, _, _, _, _ => rfl
  | k + 1, q, i, b, h, h2 => by unfold towN; rw [towN_o2 k _ _ _ (by omega) h2, tow_o (by omega) h2]
def qg (q : Nat → Int32) (g : Nat) : Nat → Int32 := gstN (mC q) g 0
theorem qg_c {q : Nat → Int32} {g c : Nat} (hg : g < 16) (hc : c < 8) : qg q g (25 + 8 * g + c) = q (25 + 8 * g + c) := by
  unfold qg
  rw [gstN_o _ _ _ _ (by omega) (by omega), mC_o (by omega) (by omega) (by omega) (by omega) (by omega) (by omega) (by omega)]
theorem qg_9 {q : Nat → Int32} {g : Nat} (hv : vz q ≤ 4) : qg q g 9 = nxt (q 9) (stm q) := by
  unfold qg
  rw [gstN_o _ _ _ _ (by omega) (by omega), mC_9 hv]
theorem minute_g {q : Nat → Int32} {g c : Nat} (hg : g < gz q) (hz : gz q ≤ 16) (hc : c < 8) : minute q (25 + 8 * g + c) = gst (qg q g) g (25 + 8 * g + c) := by
  unfold minute
  obtain ⟨d, hd⟩ : ∃ d, gz q = g + (1 + d) := ⟨gz q - g - 1, by omega⟩
  rw [hd, gstN_sp, gstN_sp, gstN_o _ _ _ _ (by omega) (by omega)]
  rw [show 0 + g = g by omega]
  rfl
def sbv (h at_ age s : Int32) : Int32 := if h + 6 * at_ - (60 + age / 4) ≤ 0 then mx s else s + (h + 6 * at_ - (60 + age / 4)) / 5 + 1
theorem sbh_v {q : Nat → Int32} {g : Nat} (hg : g < 16) (hv : vz q ≤ 4) : sbh (qg q g) g = sbv (nxt (q 9) (stm q)) (q (25 + 8 * g + 2)) (q (25 + 8 * g + 1)) (q (25 + 8 * g + 5)) := by
  unfold sbh ovr sbv
  rw [qg_9 hv, qg_c hg (c := 2) (by omega), qg_c hg (c := 1) (by omega), qg_c hg (c := 5) (by omega)]
theorem c_sb (s a : Int32) (M : hz_M) : f_X7_strainBehind s a M = some (if a ≤ 0 then mx s else s + a / 5 + 1, M) := by
  unfold f_X7_strainBehind mx
  split <;> rfl
def qt (q : Nat → Int32) (t : Nat) : Nat → Int32 := towN (mB q) t 0
theorem qt_c {q : Nat → Int32} {t c : Nat} (hc : c < 2) : qt q t (153 + 2 * t + c) = q (153 + 2 * t + c) := by
  unfold qt
  by_cases e : c = 0
  · subst e
    rw [towN_o2 _ _ _ _ (by omega) (by omega), mB_o (by omega) (by omega) (by omega) (by omega) (by omega)]
  · rw [towN_o2 _ _ _ _ (by omega) (by omega), mB_o (by omega) (by omega) (by omega) (by omega) (by omega)]
theorem qt_9 {q : Nat → Int32} {t : Nat} (hv : vz q ≤ 4) : qt q t 9 = nxt (q 9) (stm q) := by
  unfold qt
  rw [towN_o _ _ _ _ (by omega) (by omega), mB_9 hv]
theorem minute_t {q : Nat → Int32} {t c : Nat} (ht : t < tz q) (hz : gz q ≤ 16) (hc : c < 2) : minute q (153 + 2 * t + c) = tow (qt q t) t (153 + 2 * t + c) := by
  unfold minute
  rw [gstN_o _ _ _ _ (by omega) (by omega)]
  unfold mC
  obtain ⟨d, hd⟩ : ∃ d, tz q = t + (1 + d) := ⟨tz q - t - 1, by omega⟩
  rw [hd, towN_sp, towN_sp]
  rw [show 0 + t = t by omega]
  by_cases e : c = 0
  · subst e
    rw [towN_o2 _ _ _ _ (by omega) (by omega)]; rfl
  · rw [towN_o2 _ _ _ _ (by omega) (by omega)]; rfl
theorem qt_hld {q : Nat → Int32} {t : Nat} (hz : gz q ≤ 16) : hld (qt q t) t = hld q t := by
  rw [hld_fk, hld_fk]
  have e : gz (qt q t) = gz q := gz_cg (by unfold qt; rw [towN_o _ _ _ _ (by omega) (by omega), mB_o (by omega) (by omega) (by omega) (by omega) (by omega)])
  rw [e]
  exact fk_cg t (fun i hi => by show qt q t (25 + 8 * i + 4) = q (25 + 8 * i + 4); unfold qt; rw [towN_o _ _ _ _ (by omega) (by omega), mB_o (by omega) (by omega) (by omega) (by omega) (by omega)])
theorem no_hld {q : Nat → Int32} (hZ : hy_Z q) (hQ : hy_Q q) {t : Nat} (ht : t < tz q) (h : q (153 + 2 * t + 1) ≠ -1) : hld q t = -1 := by
  rcases hld_al hZ t with e | ⟨g, hg, e, e'⟩
  · exact e
  · exact absurd (hQ.2.2.2.2.2.2.2.2.2.2.2.2.2.1 g t hg ht e') h
def wpb (h w : Int32) : Int32 := if 60 ≤ h then w else mx w
theorem c_wpb (w h : Int32) (M : hz_M) : f_X7_wetOnPegBehind w h M = some (wpb h w, M) := by
  unfold f_X7_wetOnPegBehind wpb mx
  split <;> rfl
