theorem hy_FU20 : ∃ m, hz_FU = m + 20 := ⟨99980, rfl⟩
