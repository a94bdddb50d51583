/-! numbers -/
theorem qclamp_in {x : Int32} {n : Nat} (h : 0 ≤ x) (h2 : x ≤ nI n) : nI (qclamp x n) = x := by
  rw [qclamp, if_neg (Int32.not_lt.mpr h), if_neg (Int32.not_lt.mpr h2)]
  obtain ⟨j, hj, rfl⟩ := nI_of (Int32.not_lt.mpr h)
  rw [nI_clamp hj]
theorem qclamp_le (x : Int32) {n : Nat} (hn : n < 2 ^ 31) : qclamp x n ≤ n := by
  rw [qclamp]
  split
  · omega
  · split
    · omega
    · rename_i h h2
      obtain ⟨j, hj, rfl⟩ := nI_of h
      rw [nI_clamp hj]
      rw [nI_ltI hn hj] at h2
      omega
theorem irem_toInt (x : Int32) {n : Nat} (hn : n = 6 ∨ n = 12) : (x - x / nI n * nI n).toInt = x.toInt.tmod n := by
  have h1 : x - x / nI n * nI n = x % nI n := by
    sorry
  sorry
theorem qmod_nn {x : Int32} {n : Nat} (hn : n = 6 ∨ n = 12) (h : 0 ≤ x - x / nI n * nI n) : x - x / nI n * nI n = nI (qmod x n) := by
  sorry
theorem qmod_neg {x : Int32} {n : Nat} (hn : n = 6 ∨ n = 12) (h : ¬ 0 ≤ x - x / nI n * nI n) : x - x / nI n * nI n + nI n = nI (qmod x n) := by
  sorry
