theorem pm_chk7 : chk (pm 7) = true := by decide +kernel
theorem pm_chk {n : Nat} (h : n ≤ 7) : chk (pm n) = true := by
  rcases Nat.lt_or_ge n 6 with h5 | h5
  · exact pm_chk5 n h5
  · have : n = 6 ∨ n = 7 := by omega
    rcases this with rfl | rfl
    · exact pm_chk6
    · exact pm_chk7
