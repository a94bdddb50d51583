/-! numbers -/
theorem qclamp_in {x : Int32} {n : Nat} (h : 0 ≤ x) (h2 : x ≤ nI n) : nI (qclamp x n) = x := by
  rw [qclamp, if_neg (Int32.not_lt.mpr h), if_neg (Int32.not_lt.mpr h2)]
  obtain ⟨j, hj, rfl⟩ := nI_of (Int32.not_lt.mpr h)
  rw [nI_clamp hj]
theorem qclamp_le (x : Int32) {n : Nat} (hn : n < 2 ^ 31) : qclamp x n ≤ n := by
  rw [qclamp]
  split
  · omega
  · split
    · omega
    · rename_i h h2
      obtain ⟨j, hj, rfl⟩ := nI_of h
      rw [nI_clamp hj]
      rw [nI_ltI hn hj] at h2
      omega
theorem fb_rng (x : Int32) : -2147483648 ≤ x.toInt ∧ x.toInt < 2147483648 := by
  have h1 := Int32.le_toInt x
  have h2 := Int32.toInt_lt x
  omega
theorem fb_bmod {z : Int} (h1 : -2147483648 ≤ z) (h2 : z < 2147483648) : z.bmod (2 ^ 32) = z := by
  rw [Int.bmod_eq_of_le (by omega) (by omega)]
theorem fb_addI {x y : Int32} (h1 : -2147483648 ≤ x.toInt + y.toInt) (h2 : x.toInt + y.toInt < 2147483648) : (x + y).toInt = x.toInt + y.toInt := by
  rw [Int32.toInt_add, fb_bmod h1 h2]
theorem fb_subI {x y : Int32} (h1 : -2147483648 ≤ x.toInt - y.toInt) (h2 : x.toInt - y.toInt < 2147483648) : (x - y).toInt = x.toInt - y.toInt := by
  rw [Int32.toInt_sub, fb_bmod h1 h2]
theorem fb_mulI {x y : Int32} (h1 : -2147483648 ≤ x.toInt * y.toInt) (h2 : x.toInt * y.toInt < 2147483648) : (x * y).toInt = x.toInt * y.toInt := by
  rw [Int32.toInt_mul, fb_bmod h1 h2]
theorem tdiv_cs (x n : Int) : (0 ≤ x ∧ x.tdiv n = x / n) ∨ (x < 0 ∧ x.tdiv n = -((-x) / n)) := by
  by_cases h : 0 ≤ x
  · exact Or.inl ⟨h, Int.tdiv_eq_ediv_of_nonneg h⟩
  · refine Or.inr ⟨by omega, ?_⟩
    have h1 : x.tdiv n = -((-x).tdiv n) := by rw [Int.neg_tdiv, Int.neg_neg]
    rw [h1, Int.tdiv_eq_ediv_of_nonneg (by omega)]
theorem tdiv_b (X n : Int) (hn : n = 6 ∨ n = 12) : (0 ≤ X ∧ 0 ≤ X.tdiv n ∧ X.tdiv n * n ≤ X ∧ X < X.tdiv n * n + n) ∨ (X < 0 ∧ X.tdiv n ≤ 0 ∧ X ≤ X.tdiv n * n ∧ X.tdiv n * n - n < X) := by
  rcases tdiv_cs X n with ⟨a, b⟩ | ⟨a, b⟩ <;> rw [b] <;> rcases hn with rfl | rfl <;> omega
/-- the remainder that the machine computes, as a whole number: R = x - q n, with q rounded toward zero -/
theorem irem_toInt (x : Int32) {n : Nat} (hn : n = 6 ∨ n = 12) : ∃ q : Int, (x - x / nI n * nI n).toInt = x.toInt - q * n ∧ ((0 ≤ x.toInt ∧ q * n ≤ x.toInt ∧ x.toInt < q * n + n) ∨ (x.toInt < 0 ∧ x.toInt ≤ q * n ∧ q * n - n < x.toInt)) := by
  have hr := fb_rng x
  have e0 : (nI n).toInt = n := nI_toInt (by omega)
  have hk : (n : Int) = 6 ∨ (n : Int) = 12 := by omega
  generalize (n : Int) = k at e0 hk ⊢
  have hb := tdiv_b x.toInt k hk
  have e1 : (x / nI n).toInt = x.toInt.tdiv k := by
    rw [Int32.toInt_div, e0]
    generalize x.toInt.tdiv k = q at hb ⊢
    rw [fb_bmod] <;> rcases hk with rfl | rfl <;> omega
  generalize x.toInt.tdiv k = q at hb e1
  have e2 : (x / nI n * nI n).toInt = q * k := by
    rw [fb_mulI] <;> rw [e1, e0] <;> rcases hk with rfl | rfl <;> omega
  refine ⟨q, ?_, by rcases hb with h | h <;> omega⟩
  rw [fb_subI] <;> rw [e2] <;> rcases hk with rfl | rfl <;> omega
theorem qmod_lt (x : Int32) {n : Nat} (hn : n = 6 ∨ n = 12) : qmod x n < n := by
  rw [qmod]
  rcases hn with rfl | rfl <;> omega
theorem qmod_toInt (x : Int32) {n : Nat} (hn : n = 6 ∨ n = 12) : (nI (qmod x n)).toInt = x.toInt % n := by
  have h := qmod_lt x hn
  rw [nI_toInt (by omega), qmod]
  rcases hn with rfl | rfl <;> omega
theorem qmod_nn {x : Int32} {n : Nat} (hn : n = 6 ∨ n = 12) (h : 0 ≤ x - x / nI n * nI n) : x - x / nI n * nI n = nI (qmod x n) := by
  obtain ⟨q, e, hq⟩ := irem_toInt x hn
  have h0 : 0 ≤ (x - x / nI n * nI n).toInt := Int32.le_iff_toInt_le.mp h
  apply Int32.toInt_inj.1
  rw [qmod_toInt x hn]
  rw [e] at h0 ⊢
  rcases hn with rfl | rfl <;> omega
theorem qmod_neg {x : Int32} {n : Nat} (hn : n = 6 ∨ n = 12) (h : ¬ 0 ≤ x - x / nI n * nI n) : x - x / nI n * nI n + nI n = nI (qmod x n) := by
  obtain ⟨q, e, hq⟩ := irem_toInt x hn
  have h0 : (x - x / nI n * nI n).toInt < 0 := Int32.lt_iff_toInt_lt.mp (Int32.not_le.mp h)
  have e0 : (nI n).toInt = n := nI_toInt (by omega)
  apply Int32.toInt_inj.1
  rw [qmod_toInt x hn]
  have hr := fb_rng (x - x / nI n * nI n)
  rw [fb_addI (by rw [e0]; omega) (by rw [e0]; omega), e0]
  rw [e] at h0 ⊢
  rcases hn with rfl | rfl <;> omega
