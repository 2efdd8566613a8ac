theorem c_forget (M : hz_M) : f_X2_forgetAll M = some (0, hz_set (hz_set (hz_set M 32 4 0) 35 0 0) 35 1 0) := by
  obtain ⟨m, hm⟩ := hy_FU6
  unfold f_X2_forgetAll
  rw [hm]
  simp only [hy_lm, f_X2_forgetAll_L7, show ((2 : Int32) ≤ 0) = False from eq_false (by decide), if_false, show hz_in (0 : Int32) 2 = true from by decide, hy_gt, hy_lt', hy_k0, show (0 : Int32) + 1 = 1 from rfl, show ((2 : Int32) ≤ 1) = False from eq_false (by decide), show hz_in (1 : Int32) 2 = true from by decide, hy_k1, show (1 : Int32) + 1 = 2 from rfl, show ((2 : Int32) ≤ 2) = True from eq_true (by decide), if_true]
