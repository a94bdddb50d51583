/-! THE CLASS: its shape, and its reads -/
def XS (S : zS) (x : Nat) (pm : Nat → Nat) : Prop :=
  (x + 214 < S.1 ∧ S.2.1 x = (0, 2) ∧ S.2.1 (x + 1) = (1, 90) ∧ S.2.1 (x + 2) = (2, 72) ∧ S.2.1 (x + 22) = (4, 6) ∧ S.2.1 (x + 137) = (4, 2) ∧ S.2.1 (x + 176) = (2, 2)) ∧
  (S.2.2 x 0 = x + 1 + 1 ∧ S.2.2 x 2 = x + 2 + 1 ∧ S.2.2 x 4 = x + 3 + 1 ∧ S.2.2 x 5 = x + 22 + 1 ∧ S.2.2 x 7 = x + 137 + 1 ∧ S.2.2 x 8 = x + 176 + 1 ∧ S.2.2 x 9 = x + 177 + 1 ∧ S.2.2 x 10 = x + 196 + 1) ∧
  (SS S (x + 3) ∧ SS S (x + 177) ∧ SS S (x + 196)) ∧ (∀ t, t < 6 → SS S (x + 23 + 19 * t) ∧ S.2.2 (x + 22) t = x + 23 + 19 * pm t + 1 ∧ pm t < 6) ∧ (∀ t u, t < 6 → u < 6 → pm t = pm u → t = u) ∧ ∀ s, s < 2 → S.2.2 (x + 137) s = x + 138 + 19 * s + 1 ∧ SS S (x + 138 + 19 * s)
theorem XS.lt {S : zS} {x : Nat} {pm : Nat → Nat} (h : XS S x pm) {i : Nat} (hi : i ≤ 214) : x + i < S.1 := by
  have := h.1.1
  omega
theorem XS.lt3 {S : zS} {x : Nat} {pm : Nat → Nat} (h : XS S x pm) {i : Nat} (hi : i ≤ 18) : x + 3 + i < S.1 := by
  have := h.1.1
  omega
set_option maxRecDepth 20000 in
theorem cx_isCell (S : zS) (mu : zU) (a c : Int32) : zM yX2_isCell cX2_isCell 2 (some .boolean) 0 0 0 [.inl a, .inl c] S mu (zPi S (fun r mu2 => mu2 = mu ∧ r = if (nI 0 ≤ a ∧ a ≤ nI 11) ∧ nI 0 ≤ c ∧ c ≤ nI 5 then nI 1 else nI 0)) := by
  simp only [in_le a 11 (by omega), in_le c 5 (by omega)]
  refine zM.ofG (by decide +kernel) (Nat.le_of_ble_eq_true rfl) ?_
  refine zg_iload_n (i := 0) dX2_isCell_0 rfl rfl ?_
  refine zg_if_lt (tgt := 24) dX2_isCell_1 (by decide) (fun h1 => ?_) (fun h1 => ?_)
  · refine zg_iconst (v := nI 0) dX2_isCell_24 (by decide) ?_
    exact zg_zret dX2_isCell_25 rfl (by first | assumption | (left; rfl) | (right; rfl) | (simp; done)) ⟨_, rfl, rfl, ⟨rfl, by rw [if_neg (fun z => Int32.not_lt.mpr z.1.1 h1)]⟩⟩
  · refine zg_iload_n (i := 0) dX2_isCell_4 rfl rfl ?_
    refine zg_bipush (v := nI 12) dX2_isCell_5 (by decide) ?_
    refine zg_icmp_ge (tgt := 24) dX2_isCell_7 (by decide) (fun h2 => ?_) (fun h2 => ?_)
    · refine zg_iconst (v := nI 0) dX2_isCell_24 (by decide) ?_
      exact zg_zret dX2_isCell_25 rfl (by first | assumption | (left; rfl) | (right; rfl) | (simp; done)) ⟨_, rfl, rfl, ⟨rfl, by rw [if_neg (fun z => Int32.not_lt.mpr h2 z.1.2)]⟩⟩
    · refine zg_iload_n (i := 1) dX2_isCell_10 rfl rfl ?_
      refine zg_if_lt (tgt := 24) dX2_isCell_11 (by decide) (fun h3 => ?_) (fun h3 => ?_)
      · refine zg_iconst (v := nI 0) dX2_isCell_24 (by decide) ?_
        exact zg_zret dX2_isCell_25 rfl (by first | assumption | (left; rfl) | (right; rfl) | (simp; done)) ⟨_, rfl, rfl, ⟨rfl, by rw [if_neg (fun z => Int32.not_lt.mpr z.2.1 h3)]⟩⟩
      · refine zg_iload_n (i := 1) dX2_isCell_14 rfl rfl ?_
        refine zg_bipush (v := nI 6) dX2_isCell_15 (by decide) ?_
        refine zg_icmp_ge (tgt := 24) dX2_isCell_17 (by decide) (fun h4 => ?_) (fun h4 => ?_)
        · refine zg_iconst (v := nI 0) dX2_isCell_24 (by decide) ?_
          exact zg_zret dX2_isCell_25 rfl (by first | assumption | (left; rfl) | (right; rfl) | (simp; done)) ⟨_, rfl, rfl, ⟨rfl, by rw [if_neg (fun z => Int32.not_lt.mpr h4 z.2.2)]⟩⟩
        · refine zg_iconst (v := nI 1) dX2_isCell_20 (by decide) ?_
          refine zg_goto (tgt := 25) dX2_isCell_21 (by decide) ?_
          exact zg_zret dX2_isCell_25 rfl (by first | assumption | (left; rfl) | (right; rfl) | (simp; done)) ⟨_, rfl, rfl, ⟨rfl, by rw [if_pos ⟨⟨Int32.not_lt.mp h1, Int32.not_le.mp h2⟩, Int32.not_lt.mp h3, Int32.not_le.mp h4⟩]⟩⟩
set_option maxRecDepth 20000 in
theorem cx_isTickLimit (S : zS) (mu : zU) (a : Int32) : zM yX2_isTickLimit cX2_isTickLimit 1 (some .boolean) 0 0 0 [.inl a] S mu (zPi S (fun r mu2 => mu2 = mu ∧ r = if nI 1 ≤ a ∧ a ≤ nI 200 then nI 1 else nI 0)) := by
  refine zM.ofG (by decide +kernel) (Nat.le_of_ble_eq_true rfl) ?_
  refine zg_iload_n (i := 0) dX2_isTickLimit_0 rfl rfl ?_
  refine zg_iconst (v := nI 1) dX2_isTickLimit_1 (by decide) ?_
  refine zg_icmp_lt (tgt := 16) dX2_isTickLimit_2 (by decide) (fun h1 => ?_) (fun h1 => ?_)
  · refine zg_iconst (v := nI 0) dX2_isTickLimit_16 (by decide) ?_
    exact zg_zret dX2_isTickLimit_17 rfl (by first | assumption | (left; rfl) | (right; rfl) | (simp; done)) ⟨_, rfl, rfl, ⟨rfl, by rw [if_neg (fun z => Int32.not_le.mpr h1 z.1)]⟩⟩
  · refine zg_iload_n (i := 0) dX2_isTickLimit_5 rfl rfl ?_
    refine zg_sipush (v := nI 200) dX2_isTickLimit_6 (by decide) ?_
    refine zg_icmp_gt (tgt := 16) dX2_isTickLimit_9 (by decide) (fun h2 => ?_) (fun h2 => ?_)
    · refine zg_iconst (v := nI 0) dX2_isTickLimit_16 (by decide) ?_
      exact zg_zret dX2_isTickLimit_17 rfl (by first | assumption | (left; rfl) | (right; rfl) | (simp; done)) ⟨_, rfl, rfl, ⟨rfl, by rw [if_neg (fun z => Int32.not_le.mpr h2 z.2)]⟩⟩
    · refine zg_iconst (v := nI 1) dX2_isTickLimit_12 (by decide) ?_
      refine zg_goto (tgt := 17) dX2_isTickLimit_13 (by decide) ?_
      exact zg_zret dX2_isTickLimit_17 rfl (by first | assumption | (left; rfl) | (right; rfl) | (simp; done)) ⟨_, rfl, rfl, ⟨rfl, by rw [if_pos ⟨Int32.not_lt.mp h1, Int32.not_lt.mp h2⟩]⟩⟩
set_option maxRecDepth 20000 in
theorem cx_inputSize {S : zS} {x : Nat} {pm : Nat → Nat} (hS : XS S x pm) {mu : zU} {v : Nat → Int32} {ol : List Nat} (hX : SX mu (x + 3) v ol) : zM yX2_inputSize cX2_inputSize 1 (some .int) 0 0 0 [.inr (x + 1)] S mu (zPi S (fun r mu2 => mu2 = mu ∧ r = v 250)) := by
  have hN0 : x < S.1 := hS.lt (i := 0) (by decide)
  have hNs : x + 3 < S.1 := hS.lt (by decide)
  have hNs1 : x + 3 + 1 < S.1 := hS.lt3 (by decide)
  have hNs2 : x + 3 + 2 < S.1 := hS.lt3 (by decide)
  have hNs3 : x + 3 + 3 < S.1 := hS.lt3 (by decide)
  have hNs4 : x + 3 + 4 < S.1 := hS.lt3 (by decide)
  have hNs6 : x + 3 + 6 < S.1 := hS.lt3 (by decide)
  have xk0 := hS.1.2.1
  have xr4 := hS.2.1.2.2.1
  obtain ⟨-, k0, k1, k2, k3, k4, k5, k6, r0, r1, r2, r3, r5, r7, hp⟩ := hS.2.2.1.1
  obtain ⟨h0, g1, g2, g3, g4, g5, g6, g7, g8, g9, g10, g11⟩ := id hX
  obtain ⟨⟨x145, xl1, xl4⟩, -, -, -, xp, -, -, ⟨n2, n20, xn2, -⟩⟩ := id h0
  refine zM.ofG (by decide +kernel) (Nat.le_of_ble_eq_true rfl) ?_
  refine zg_aload_n (i := 0) dX2_inputSize_0 rfl rfl ?_
  refine zg_getR dX2_inputSize_1 flX2_20 (by decide) (by assumption) (by assumption) (by assumption) ?_
  first | with_reducible refine zg_getIR dX2_inputSize_4 flX2_54 (by decide) (by assumption) (by assumption) (by omega) ?_ | refine zg_getI dX2_inputSize_4 flX2_54 (by decide) (by assumption) (by assumption) ?_
  exact zg_iret dX2_inputSize_7 rfl ⟨_, rfl, rfl, ⟨rfl, g5⟩⟩
set_option maxRecDepth 20000 in
theorem cx_outputSize {S : zS} {x : Nat} {pm : Nat → Nat} (hS : XS S x pm) {mu : zU} {v : Nat → Int32} {ol : List Nat} (hX : SX mu (x + 3) v ol) : zM yX2_outputSize cX2_outputSize 1 (some .int) 0 0 0 [.inr (x + 1)] S mu (zPi S (fun r mu2 => mu2 = mu ∧ r = v 267)) := by
  have hN0 : x < S.1 := hS.lt (i := 0) (by decide)
  have hNs : x + 3 < S.1 := hS.lt (by decide)
  have hNs1 : x + 3 + 1 < S.1 := hS.lt3 (by decide)
  have hNs2 : x + 3 + 2 < S.1 := hS.lt3 (by decide)
  have hNs3 : x + 3 + 3 < S.1 := hS.lt3 (by decide)
  have hNs4 : x + 3 + 4 < S.1 := hS.lt3 (by decide)
  have hNs6 : x + 3 + 6 < S.1 := hS.lt3 (by decide)
  have xk0 := hS.1.2.1
  have xr4 := hS.2.1.2.2.1
  obtain ⟨-, k0, k1, k2, k3, k4, k5, k6, r0, r1, r2, r3, r5, r7, hp⟩ := hS.2.2.1.1
  obtain ⟨h0, g1, g2, g3, g4, g5, g6, g7, g8, g9, g10, g11⟩ := id hX
  obtain ⟨⟨x145, xl1, xl4⟩, -, -, -, xp, -, -, ⟨n2, n20, xn2, -⟩⟩ := id h0
  refine zM.ofG (by decide +kernel) (Nat.le_of_ble_eq_true rfl) ?_
  refine zg_aload_n (i := 0) dX2_outputSize_0 rfl rfl ?_
  refine zg_getR dX2_outputSize_1 flX2_20 (by decide) (by assumption) (by assumption) (by assumption) ?_
  first | with_reducible refine zg_getIR dX2_outputSize_4 flX2_158 (by decide) (by assumption) (by assumption) (by omega) ?_ | refine zg_getI dX2_outputSize_4 flX2_158 (by decide) (by assumption) (by assumption) ?_
  exact zg_iret dX2_outputSize_7 rfl ⟨_, rfl, rfl, ⟨rfl, g7⟩⟩
set_option maxRecDepth 20000 in
theorem cx_outputTotal {S : zS} {x : Nat} {pm : Nat → Nat} (hS : XS S x pm) {mu : zU} {v : Nat → Int32} {ol : List Nat} (hX : SX mu (x + 3) v ol) : zM yX2_outputTotal cX2_outputTotal 1 (some .int) 0 0 0 [.inr (x + 1)] S mu (zPi S (fun r mu2 => mu2 = mu ∧ r = v 288)) := by
  have hN0 : x < S.1 := hS.lt (i := 0) (by decide)
  have hNs : x + 3 < S.1 := hS.lt (by decide)
  have hNs1 : x + 3 + 1 < S.1 := hS.lt3 (by decide)
  have hNs2 : x + 3 + 2 < S.1 := hS.lt3 (by decide)
  have hNs3 : x + 3 + 3 < S.1 := hS.lt3 (by decide)
  have hNs4 : x + 3 + 4 < S.1 := hS.lt3 (by decide)
  have hNs6 : x + 3 + 6 < S.1 := hS.lt3 (by decide)
  have xk0 := hS.1.2.1
  have xr4 := hS.2.1.2.2.1
  obtain ⟨-, k0, k1, k2, k3, k4, k5, k6, r0, r1, r2, r3, r5, r7, hp⟩ := hS.2.2.1.1
  obtain ⟨h0, g1, g2, g3, g4, g5, g6, g7, g8, g9, g10, g11⟩ := id hX
  obtain ⟨⟨x145, xl1, xl4⟩, -, -, -, xp, -, -, ⟨n2, n20, xn2, -⟩⟩ := id h0
  refine zM.ofG (by decide +kernel) (Nat.le_of_ble_eq_true rfl) ?_
  refine zg_aload_n (i := 0) dX2_outputTotal_0 rfl rfl ?_
  refine zg_getR dX2_outputTotal_1 flX2_20 (by decide) (by assumption) (by assumption) (by assumption) ?_
  first | with_reducible refine zg_getIR dX2_outputTotal_4 flX2_164 (by decide) (by assumption) (by assumption) (by omega) ?_ | refine zg_getI dX2_outputTotal_4 flX2_164 (by decide) (by assumption) (by assumption) ?_
  exact zg_iret dX2_outputTotal_7 rfl ⟨_, rfl, rfl, ⟨rfl, g9⟩⟩
set_option maxRecDepth 20000 in
theorem cx_pointerCount {S : zS} {x : Nat} {pm : Nat → Nat} (hS : XS S x pm) {mu : zU} {v : Nat → Int32} {ol : List Nat} (hX : SX mu (x + 3) v ol) : zM yX2_pointerCount cX2_pointerCount 1 (some .int) 0 0 0 [.inr (x + 1)] S mu (zPi S (fun r mu2 => mu2 = mu ∧ r = v 145)) := by
  have hN0 : x < S.1 := hS.lt (i := 0) (by decide)
  have hNs : x + 3 < S.1 := hS.lt (by decide)
  have hNs1 : x + 3 + 1 < S.1 := hS.lt3 (by decide)
  have hNs2 : x + 3 + 2 < S.1 := hS.lt3 (by decide)
  have hNs3 : x + 3 + 3 < S.1 := hS.lt3 (by decide)
  have hNs4 : x + 3 + 4 < S.1 := hS.lt3 (by decide)
  have hNs6 : x + 3 + 6 < S.1 := hS.lt3 (by decide)
  have xk0 := hS.1.2.1
  have xr4 := hS.2.1.2.2.1
  obtain ⟨-, k0, k1, k2, k3, k4, k5, k6, r0, r1, r2, r3, r5, r7, hp⟩ := hS.2.2.1.1
  obtain ⟨h0, g1, g2, g3, g4, g5, g6, g7, g8, g9, g10, g11⟩ := id hX
  obtain ⟨⟨x145, xl1, xl4⟩, -, -, -, xp, -, -, ⟨n2, n20, xn2, -⟩⟩ := id h0
  refine zM.ofG (by decide +kernel) (Nat.le_of_ble_eq_true rfl) ?_
  refine zg_aload_n (i := 0) dX2_pointerCount_0 rfl rfl ?_
  refine zg_getR dX2_pointerCount_1 flX2_20 (by decide) (by assumption) (by assumption) (by assumption) ?_
  first | with_reducible refine zg_getIR dX2_pointerCount_4 flX2_116 (by decide) (by assumption) (by assumption) (by omega) ?_ | refine zg_getI dX2_pointerCount_4 flX2_116 (by decide) (by assumption) (by assumption) ?_
  exact zg_iret dX2_pointerCount_7 rfl ⟨_, rfl, rfl, ⟨rfl, g3⟩⟩
set_option maxRecDepth 20000 in
theorem cx_tickCount {S : zS} {x : Nat} {pm : Nat → Nat} (hS : XS S x pm) {mu : zU} {v : Nat → Int32} {ol : List Nat} (hX : SX mu (x + 3) v ol) : zM yX2_tickCount cX2_tickCount 1 (some .int) 0 0 0 [.inr (x + 1)] S mu (zPi S (fun r mu2 => mu2 = mu ∧ r = v 144)) := by
  have hN0 : x < S.1 := hS.lt (i := 0) (by decide)
  have hNs : x + 3 < S.1 := hS.lt (by decide)
  have hNs1 : x + 3 + 1 < S.1 := hS.lt3 (by decide)
  have hNs2 : x + 3 + 2 < S.1 := hS.lt3 (by decide)
  have hNs3 : x + 3 + 3 < S.1 := hS.lt3 (by decide)
  have hNs4 : x + 3 + 4 < S.1 := hS.lt3 (by decide)
  have hNs6 : x + 3 + 6 < S.1 := hS.lt3 (by decide)
  have xk0 := hS.1.2.1
  have xr4 := hS.2.1.2.2.1
  obtain ⟨-, k0, k1, k2, k3, k4, k5, k6, r0, r1, r2, r3, r5, r7, hp⟩ := hS.2.2.1.1
  obtain ⟨h0, g1, g2, g3, g4, g5, g6, g7, g8, g9, g10, g11⟩ := id hX
  obtain ⟨⟨x145, xl1, xl4⟩, -, -, -, xp, -, -, ⟨n2, n20, xn2, -⟩⟩ := id h0
  refine zM.ofG (by decide +kernel) (Nat.le_of_ble_eq_true rfl) ?_
  refine zg_aload_n (i := 0) dX2_tickCount_0 rfl rfl ?_
  refine zg_getR dX2_tickCount_1 flX2_20 (by decide) (by assumption) (by assumption) (by assumption) ?_
  first | with_reducible refine zg_getIR dX2_tickCount_4 flX2_63 (by decide) (by assumption) (by assumption) (by omega) ?_ | refine zg_getI dX2_tickCount_4 flX2_63 (by decide) (by assumption) (by assumption) ?_
  exact zg_iret dX2_tickCount_7 rfl ⟨_, rfl, rfl, ⟨rfl, g10⟩⟩
set_option maxRecDepth 20000 in
theorem cx_isPointer {S : zS} {x : Nat} {pm : Nat → Nat} (hS : XS S x pm) {mu : zU} {v : Nat → Int32} {ol : List Nat} (hX : SX mu (x + 3) v ol) (q : Int32) : zM yX2_isPointer cX2_isPointer 2 (some .boolean) 0 0 0 [.inr (x + 1), .inl q] S mu (zPi S (fun r mu2 => mu2 = mu ∧ r = if 0 ≤ q ∧ q < nI ol.length then nI 1 else nI 0)) := by
  have hN0 : x < S.1 := hS.lt (i := 0) (by decide)
  have hNs : x + 3 < S.1 := hS.lt (by decide)
  have hNs1 : x + 3 + 1 < S.1 := hS.lt3 (by decide)
  have hNs2 : x + 3 + 2 < S.1 := hS.lt3 (by decide)
  have hNs3 : x + 3 + 3 < S.1 := hS.lt3 (by decide)
  have hNs4 : x + 3 + 4 < S.1 := hS.lt3 (by decide)
  have hNs6 : x + 3 + 6 < S.1 := hS.lt3 (by decide)
  have xk0 := hS.1.2.1
  have xr4 := hS.2.1.2.2.1
  obtain ⟨-, k0, k1, k2, k3, k4, k5, k6, r0, r1, r2, r3, r5, r7, hp⟩ := hS.2.2.1.1
  obtain ⟨h0, g1, g2, g3, g4, g5, g6, g7, g8, g9, g10, g11⟩ := id hX
  obtain ⟨⟨x145, xl1, xl4⟩, -, -, -, xp, -, -, ⟨n2, n20, xn2, -⟩⟩ := id h0
  refine zM.ofG (by decide +kernel) (Nat.le_of_ble_eq_true rfl) ?_
  refine zg_iload_n (i := 1) dX2_isPointer_0 rfl rfl ?_
  refine zg_if_lt (tgt := 19) dX2_isPointer_1 (by decide) (fun h1 => ?_) (fun h1 => ?_)
  · refine zg_iconst (v := nI 0) dX2_isPointer_19 (by decide) ?_
    exact zg_zret dX2_isPointer_20 rfl (by first | assumption | (left; rfl) | (right; rfl) | (simp; done)) ⟨_, rfl, rfl, ⟨rfl, by rw [if_neg (fun z => Int32.not_lt.mpr z.1 h1)]⟩⟩
  · refine zg_iload_n (i := 1) dX2_isPointer_4 rfl rfl ?_
    refine zg_aload_n (i := 0) dX2_isPointer_5 rfl rfl ?_
    refine zg_getR dX2_isPointer_6 flX2_20 (by decide) (by assumption) (by assumption) (by assumption) ?_
    first | with_reducible refine zg_getIR dX2_isPointer_9 flX2_116 (by decide) (by assumption) (by assumption) (by omega) ?_ | refine zg_getI dX2_isPointer_9 flX2_116 (by decide) (by assumption) (by assumption) ?_
    refine zg_val (g3.trans x145) ?_
    refine zg_icmp_ge (tgt := 19) dX2_isPointer_12 (by decide) (fun h2 => ?_) (fun h2 => ?_)
    · refine zg_iconst (v := nI 0) dX2_isPointer_19 (by decide) ?_
      exact zg_zret dX2_isPointer_20 rfl (by first | assumption | (left; rfl) | (right; rfl) | (simp; done)) ⟨_, rfl, rfl, ⟨rfl, by rw [if_neg (fun z => Int32.not_lt.mpr h2 z.2)]⟩⟩
    · refine zg_iconst (v := nI 1) dX2_isPointer_15 (by decide) ?_
      refine zg_goto (tgt := 20) dX2_isPointer_16 (by decide) ?_
      exact zg_zret dX2_isPointer_20 rfl (by first | assumption | (left; rfl) | (right; rfl) | (simp; done)) ⟨_, rfl, rfl, ⟨rfl, by rw [if_pos ⟨Int32.not_lt.mp h1, Int32.not_le.mp h2⟩]⟩⟩
set_option maxRecDepth 20000 in
theorem cx_direction {S : zS} {x : Nat} {pm : Nat → Nat} (hS : XS S x pm) {mu : zU} {v : Nat → Int32} {ol : List Nat} (hX : SX mu (x + 3) v ol) (q : Int32) : zM yX2_direction cX2_direction 2 (some .int) 1 0 0 [.inr (x + 1), .inl q] S mu (zPi S (fun r mu2 => mu2 = mu ∧ r = atN q ol.length (fun j => v (150 + 25 * j + 2)) (-1))) := by
  have hN0 : x < S.1 := hS.lt (i := 0) (by decide)
  have hNs : x + 3 < S.1 := hS.lt (by decide)
  have hNs1 : x + 3 + 1 < S.1 := hS.lt3 (by decide)
  have hNs2 : x + 3 + 2 < S.1 := hS.lt3 (by decide)
  have hNs3 : x + 3 + 3 < S.1 := hS.lt3 (by decide)
  have hNs4 : x + 3 + 4 < S.1 := hS.lt3 (by decide)
  have hNs6 : x + 3 + 6 < S.1 := hS.lt3 (by decide)
  have xk0 := hS.1.2.1
  have xr4 := hS.2.1.2.2.1
  obtain ⟨-, k0, k1, k2, k3, k4, k5, k6, r0, r1, r2, r3, r5, r7, hp⟩ := hS.2.2.1.1
  obtain ⟨h0, g1, g2, g3, g4, g5, g6, g7, g8, g9, g10, g11⟩ := id hX
  obtain ⟨⟨x145, xl1, xl4⟩, -, -, -, xp, -, -, ⟨n2, n20, xn2, -⟩⟩ := id h0
  refine zM.ofG (by decide +kernel) (Nat.le_of_ble_eq_true rfl) ?_
  refine zg_aload_n (i := 0) dX2_direction_0 rfl rfl ?_
  refine zg_iload_n (i := 1) dX2_direction_1 rfl rfl ?_
  refine zg_callVi (cx_isPointer hS hX q) dX2_direction_2 cvX2_isPointer mlX2_119 rfl (by assumption) (by assumption) rfl (Nat.le_of_ble_eq_true rfl) ⟨by decide, by decide⟩ ⟨Nat.le_refl _, Nat.le_refl _⟩ (fun r mu2 h2 => ?_)
  obtain ⟨rfl, rfl⟩ := h2
  by_cases hq : 0 ≤ q ∧ q < nI ol.length
  · rw [if_pos hq]
    obtain ⟨j, hj, rfl⟩ := atN_ix (by omega) hq
    obtain ⟨rp, hPS⟩ := hp j (by omega)
    have kp0 := hPS.2.1
    have kpN : x + 3 + 7 + 3 * j < S.1 := by have := hPS.1; omega
    obtain ⟨px, py, dr, ss, sl, ns, s0, s1, s2, hP, hR⟩ := g11 j (by omega)
    first | with_reducible refine zg_ifN_eq (tgt := 23) dX2_direction_5 (by decide) (by omega) (fun c => ?_) (fun c => ?_) | refine zg_if_eq (tgt := 23) dX2_direction_5 (by decide) (fun c => ?_) (fun c => ?_)
    · exact absurd c (by decide)
    · refine zg_aload_n (i := 0) dX2_direction_8 rfl rfl ?_
      refine zg_getR dX2_direction_9 flX2_20 (by decide) (by assumption) (by assumption) (by assumption) ?_
      refine zg_getR dX2_direction_12 flX2_125 (by decide) (by assumption) (by assumption) (by assumption) ?_
      refine zg_iload_n (i := 1) dX2_direction_15 rfl rfl ?_
      first | refine zg_pald dX2_direction_16 (by assumption) (by assumption) rfl (by omega) (by decide) (by assumption) ?_ | refine zg_sald dX2_direction_16 (by assumption) (by assumption) rfl (by omega) (by decide) (by assumption) ?_
      first | with_reducible refine zg_getIR dX2_direction_17 flX2_134 (by decide) (by assumption) (by assumption) (by omega) ?_ | refine zg_getI dX2_direction_17 flX2_134 (by decide) (by assumption) (by assumption) ?_
      refine zg_goto (tgt := 24) dX2_direction_20 (by decide) ?_
      exact zg_iret dX2_direction_24 rfl ⟨_, rfl, rfl, ⟨rfl, by rw [atN_in hj (by omega)]; exact hR.2.2.1⟩⟩
  · rw [if_neg hq]
    first | with_reducible refine zg_ifN_eq (tgt := 23) dX2_direction_5 (by decide) (by omega) (fun c => ?_) (fun c => ?_) | refine zg_if_eq (tgt := 23) dX2_direction_5 (by decide) (fun c => ?_) (fun c => ?_)
    · refine zg_iconst (v := -1) dX2_direction_23 (by decide) ?_
      exact zg_iret dX2_direction_24 rfl ⟨_, rfl, rfl, ⟨rfl, by rw [atN_no hq]⟩⟩
    · exact absurd rfl c
set_option maxRecDepth 20000 in
theorem cx_status {S : zS} {x : Nat} {pm : Nat → Nat} (hS : XS S x pm) {mu : zU} {v : Nat → Int32} {ol : List Nat} (hX : SX mu (x + 3) v ol) (q : Int32) : zM yX2_status cX2_status 2 (some .int) 1 0 0 [.inr (x + 1), .inl q] S mu (zPi S (fun r mu2 => mu2 = mu ∧ r = atN q ol.length (fun j => v (150 + 25 * j + 3)) (-1))) := by
  have hN0 : x < S.1 := hS.lt (i := 0) (by decide)
  have hNs : x + 3 < S.1 := hS.lt (by decide)
  have hNs1 : x + 3 + 1 < S.1 := hS.lt3 (by decide)
  have hNs2 : x + 3 + 2 < S.1 := hS.lt3 (by decide)
  have hNs3 : x + 3 + 3 < S.1 := hS.lt3 (by decide)
  have hNs4 : x + 3 + 4 < S.1 := hS.lt3 (by decide)
  have hNs6 : x + 3 + 6 < S.1 := hS.lt3 (by decide)
  have xk0 := hS.1.2.1
  have xr4 := hS.2.1.2.2.1
  obtain ⟨-, k0, k1, k2, k3, k4, k5, k6, r0, r1, r2, r3, r5, r7, hp⟩ := hS.2.2.1.1
  obtain ⟨h0, g1, g2, g3, g4, g5, g6, g7, g8, g9, g10, g11⟩ := id hX
  obtain ⟨⟨x145, xl1, xl4⟩, -, -, -, xp, -, -, ⟨n2, n20, xn2, -⟩⟩ := id h0
  refine zM.ofG (by decide +kernel) (Nat.le_of_ble_eq_true rfl) ?_
  refine zg_aload_n (i := 0) dX2_status_0 rfl rfl ?_
  refine zg_iload_n (i := 1) dX2_status_1 rfl rfl ?_
  refine zg_callVi (cx_isPointer hS hX q) dX2_status_2 cvX2_isPointer mlX2_119 rfl (by assumption) (by assumption) rfl (Nat.le_of_ble_eq_true rfl) ⟨by decide, by decide⟩ ⟨Nat.le_refl _, Nat.le_refl _⟩ (fun r mu2 h2 => ?_)
  obtain ⟨rfl, rfl⟩ := h2
  by_cases hq : 0 ≤ q ∧ q < nI ol.length
  · rw [if_pos hq]
    obtain ⟨j, hj, rfl⟩ := atN_ix (by omega) hq
    obtain ⟨rp, hPS⟩ := hp j (by omega)
    have kp0 := hPS.2.1
    have kpN : x + 3 + 7 + 3 * j < S.1 := by have := hPS.1; omega
    obtain ⟨px, py, dr, ss, sl, ns, s0, s1, s2, hP, hR⟩ := g11 j (by omega)
    first | with_reducible refine zg_ifN_eq (tgt := 23) dX2_status_5 (by decide) (by omega) (fun c => ?_) (fun c => ?_) | refine zg_if_eq (tgt := 23) dX2_status_5 (by decide) (fun c => ?_) (fun c => ?_)
    · exact absurd c (by decide)
    · refine zg_aload_n (i := 0) dX2_status_8 rfl rfl ?_
      refine zg_getR dX2_status_9 flX2_20 (by decide) (by assumption) (by assumption) (by assumption) ?_
      refine zg_getR dX2_status_12 flX2_125 (by decide) (by assumption) (by assumption) (by assumption) ?_
      refine zg_iload_n (i := 1) dX2_status_15 rfl rfl ?_
      first | refine zg_pald dX2_status_16 (by assumption) (by assumption) rfl (by omega) (by decide) (by assumption) ?_ | refine zg_sald dX2_status_16 (by assumption) (by assumption) rfl (by omega) (by decide) (by assumption) ?_
      first | with_reducible refine zg_getIR dX2_status_17 flX2_137 (by decide) (by assumption) (by assumption) (by omega) ?_ | refine zg_getI dX2_status_17 flX2_137 (by decide) (by assumption) (by assumption) ?_
      refine zg_goto (tgt := 24) dX2_status_20 (by decide) ?_
      exact zg_iret dX2_status_24 rfl ⟨_, rfl, rfl, ⟨rfl, by rw [atN_in hj (by omega)]; exact hR.2.2.2.1⟩⟩
  · rw [if_neg hq]
    first | with_reducible refine zg_ifN_eq (tgt := 23) dX2_status_5 (by decide) (by omega) (fun c => ?_) (fun c => ?_) | refine zg_if_eq (tgt := 23) dX2_status_5 (by decide) (fun c => ?_) (fun c => ?_)
    · refine zg_iconst (v := -1) dX2_status_23 (by decide) ?_
      exact zg_iret dX2_status_24 rfl ⟨_, rfl, rfl, ⟨rfl, by rw [atN_no hq]⟩⟩
    · exact absurd rfl c
set_option maxRecDepth 20000 in
theorem cx_sleep {S : zS} {x : Nat} {pm : Nat → Nat} (hS : XS S x pm) {mu : zU} {v : Nat → Int32} {ol : List Nat} (hX : SX mu (x + 3) v ol) (q : Int32) : zM yX2_sleep cX2_sleep 2 (some .int) 1 0 0 [.inr (x + 1), .inl q] S mu (zPi S (fun r mu2 => mu2 = mu ∧ r = atN q ol.length (fun j => v (150 + 25 * j + 4)) (-1))) := by
  have hN0 : x < S.1 := hS.lt (i := 0) (by decide)
  have hNs : x + 3 < S.1 := hS.lt (by decide)
  have hNs1 : x + 3 + 1 < S.1 := hS.lt3 (by decide)
  have hNs2 : x + 3 + 2 < S.1 := hS.lt3 (by decide)
  have hNs3 : x + 3 + 3 < S.1 := hS.lt3 (by decide)
  have hNs4 : x + 3 + 4 < S.1 := hS.lt3 (by decide)
  have hNs6 : x + 3 + 6 < S.1 := hS.lt3 (by decide)
  have xk0 := hS.1.2.1
  have xr4 := hS.2.1.2.2.1
  obtain ⟨-, k0, k1, k2, k3, k4, k5, k6, r0, r1, r2, r3, r5, r7, hp⟩ := hS.2.2.1.1
  obtain ⟨h0, g1, g2, g3, g4, g5, g6, g7, g8, g9, g10, g11⟩ := id hX
  obtain ⟨⟨x145, xl1, xl4⟩, -, -, -, xp, -, -, ⟨n2, n20, xn2, -⟩⟩ := id h0
  refine zM.ofG (by decide +kernel) (Nat.le_of_ble_eq_true rfl) ?_
  refine zg_aload_n (i := 0) dX2_sleep_0 rfl rfl ?_
  refine zg_iload_n (i := 1) dX2_sleep_1 rfl rfl ?_
  refine zg_callVi (cx_isPointer hS hX q) dX2_sleep_2 cvX2_isPointer mlX2_119 rfl (by assumption) (by assumption) rfl (Nat.le_of_ble_eq_true rfl) ⟨by decide, by decide⟩ ⟨Nat.le_refl _, Nat.le_refl _⟩ (fun r mu2 h2 => ?_)
  obtain ⟨rfl, rfl⟩ := h2
  by_cases hq : 0 ≤ q ∧ q < nI ol.length
  · rw [if_pos hq]
    obtain ⟨j, hj, rfl⟩ := atN_ix (by omega) hq
    obtain ⟨rp, hPS⟩ := hp j (by omega)
    have kp0 := hPS.2.1
    have kpN : x + 3 + 7 + 3 * j < S.1 := by have := hPS.1; omega
    obtain ⟨px, py, dr, ss, sl, ns, s0, s1, s2, hP, hR⟩ := g11 j (by omega)
    first | with_reducible refine zg_ifN_eq (tgt := 23) dX2_sleep_5 (by decide) (by omega) (fun c => ?_) (fun c => ?_) | refine zg_if_eq (tgt := 23) dX2_sleep_5 (by decide) (fun c => ?_) (fun c => ?_)
    · exact absurd c (by decide)
    · refine zg_aload_n (i := 0) dX2_sleep_8 rfl rfl ?_
      refine zg_getR dX2_sleep_9 flX2_20 (by decide) (by assumption) (by assumption) (by assumption) ?_
      refine zg_getR dX2_sleep_12 flX2_125 (by decide) (by assumption) (by assumption) (by assumption) ?_
      refine zg_iload_n (i := 1) dX2_sleep_15 rfl rfl ?_
      first | refine zg_pald dX2_sleep_16 (by assumption) (by assumption) rfl (by omega) (by decide) (by assumption) ?_ | refine zg_sald dX2_sleep_16 (by assumption) (by assumption) rfl (by omega) (by decide) (by assumption) ?_
      first | with_reducible refine zg_getIR dX2_sleep_17 flX2_140 (by decide) (by assumption) (by assumption) (by omega) ?_ | refine zg_getI dX2_sleep_17 flX2_140 (by decide) (by assumption) (by assumption) ?_
      refine zg_goto (tgt := 24) dX2_sleep_20 (by decide) ?_
      exact zg_iret dX2_sleep_24 rfl ⟨_, rfl, rfl, ⟨rfl, by rw [atN_in hj (by omega)]; exact hR.2.2.2.2.1⟩⟩
  · rw [if_neg hq]
    first | with_reducible refine zg_ifN_eq (tgt := 23) dX2_sleep_5 (by decide) (by omega) (fun c => ?_) (fun c => ?_) | refine zg_if_eq (tgt := 23) dX2_sleep_5 (by decide) (fun c => ?_) (fun c => ?_)
    · refine zg_iconst (v := -1) dX2_sleep_23 (by decide) ?_
      exact zg_iret dX2_sleep_24 rfl ⟨_, rfl, rfl, ⟨rfl, by rw [atN_no hq]⟩⟩
    · exact absurd rfl c
set_option maxRecDepth 20000 in
theorem cx_stackCount {S : zS} {x : Nat} {pm : Nat → Nat} (hS : XS S x pm) {mu : zU} {v : Nat → Int32} {ol : List Nat} (hX : SX mu (x + 3) v ol) (q : Int32) : zM yX2_stackCount cX2_stackCount 2 (some .int) 1 0 0 [.inr (x + 1), .inl q] S mu (zPi S (fun r mu2 => mu2 = mu ∧ r = atN q ol.length (fun j => v (150 + 25 * j + 5)) (-1))) := by
  have hN0 : x < S.1 := hS.lt (i := 0) (by decide)
  have hNs : x + 3 < S.1 := hS.lt (by decide)
  have hNs1 : x + 3 + 1 < S.1 := hS.lt3 (by decide)
  have hNs2 : x + 3 + 2 < S.1 := hS.lt3 (by decide)
  have hNs3 : x + 3 + 3 < S.1 := hS.lt3 (by decide)
  have hNs4 : x + 3 + 4 < S.1 := hS.lt3 (by decide)
  have hNs6 : x + 3 + 6 < S.1 := hS.lt3 (by decide)
  have xk0 := hS.1.2.1
  have xr4 := hS.2.1.2.2.1
  obtain ⟨-, k0, k1, k2, k3, k4, k5, k6, r0, r1, r2, r3, r5, r7, hp⟩ := hS.2.2.1.1
  obtain ⟨h0, g1, g2, g3, g4, g5, g6, g7, g8, g9, g10, g11⟩ := id hX
  obtain ⟨⟨x145, xl1, xl4⟩, -, -, -, xp, -, -, ⟨n2, n20, xn2, -⟩⟩ := id h0
  refine zM.ofG (by decide +kernel) (Nat.le_of_ble_eq_true rfl) ?_
  refine zg_aload_n (i := 0) dX2_stackCount_0 rfl rfl ?_
  refine zg_iload_n (i := 1) dX2_stackCount_1 rfl rfl ?_
  refine zg_callVi (cx_isPointer hS hX q) dX2_stackCount_2 cvX2_isPointer mlX2_119 rfl (by assumption) (by assumption) rfl (Nat.le_of_ble_eq_true rfl) ⟨by decide, by decide⟩ ⟨Nat.le_refl _, Nat.le_refl _⟩ (fun r mu2 h2 => ?_)
  obtain ⟨rfl, rfl⟩ := h2
  by_cases hq : 0 ≤ q ∧ q < nI ol.length
  · rw [if_pos hq]
    obtain ⟨j, hj, rfl⟩ := atN_ix (by omega) hq
    obtain ⟨rp, hPS⟩ := hp j (by omega)
    have kp0 := hPS.2.1
    have kpN : x + 3 + 7 + 3 * j < S.1 := by have := hPS.1; omega
    obtain ⟨px, py, dr, ss, sl, ns, s0, s1, s2, hP, hR⟩ := g11 j (by omega)
    first | with_reducible refine zg_ifN_eq (tgt := 23) dX2_stackCount_5 (by decide) (by omega) (fun c => ?_) (fun c => ?_) | refine zg_if_eq (tgt := 23) dX2_stackCount_5 (by decide) (fun c => ?_) (fun c => ?_)
    · exact absurd c (by decide)
    · refine zg_aload_n (i := 0) dX2_stackCount_8 rfl rfl ?_
      refine zg_getR dX2_stackCount_9 flX2_20 (by decide) (by assumption) (by assumption) (by assumption) ?_
      refine zg_getR dX2_stackCount_12 flX2_125 (by decide) (by assumption) (by assumption) (by assumption) ?_
      refine zg_iload_n (i := 1) dX2_stackCount_15 rfl rfl ?_
      first | refine zg_pald dX2_stackCount_16 (by assumption) (by assumption) rfl (by omega) (by decide) (by assumption) ?_ | refine zg_sald dX2_stackCount_16 (by assumption) (by assumption) rfl (by omega) (by decide) (by assumption) ?_
      first | with_reducible refine zg_getIR dX2_stackCount_17 flX2_143 (by decide) (by assumption) (by assumption) (by omega) ?_ | refine zg_getI dX2_stackCount_17 flX2_143 (by decide) (by assumption) (by assumption) ?_
      refine zg_goto (tgt := 24) dX2_stackCount_20 (by decide) ?_
      exact zg_iret dX2_stackCount_24 rfl ⟨_, rfl, rfl, ⟨rfl, by rw [atN_in hj (by omega)]; exact hR.2.2.2.2.2.1⟩⟩
  · rw [if_neg hq]
    first | with_reducible refine zg_ifN_eq (tgt := 23) dX2_stackCount_5 (by decide) (by omega) (fun c => ?_) (fun c => ?_) | refine zg_if_eq (tgt := 23) dX2_stackCount_5 (by decide) (fun c => ?_) (fun c => ?_)
    · refine zg_iconst (v := -1) dX2_stackCount_23 (by decide) ?_
      exact zg_iret dX2_stackCount_24 rfl ⟨_, rfl, rfl, ⟨rfl, by rw [atN_no hq]⟩⟩
    · exact absurd rfl c
set_option maxRecDepth 20000 in
theorem cx_position {S : zS} {x : Nat} {pm : Nat → Nat} (hS : XS S x pm) {mu : zU} {v : Nat → Int32} {ol : List Nat} (hX : SX mu (x + 3) v ol) (q : Int32) : zM yX2_position cX2_position 2 (some .int) 1 0 0 [.inr (x + 1), .inl q] S mu (zPi S (fun r mu2 => mu2 = mu ∧ r = atN q ol.length (fun j => nI 12 * v (150 + 25 * j + 1) + v (150 + 25 * j)) (-1))) := by
  have hN0 : x < S.1 := hS.lt (i := 0) (by decide)
  have hNs : x + 3 < S.1 := hS.lt (by decide)
  have hNs1 : x + 3 + 1 < S.1 := hS.lt3 (by decide)
  have hNs2 : x + 3 + 2 < S.1 := hS.lt3 (by decide)
  have hNs3 : x + 3 + 3 < S.1 := hS.lt3 (by decide)
  have hNs4 : x + 3 + 4 < S.1 := hS.lt3 (by decide)
  have hNs6 : x + 3 + 6 < S.1 := hS.lt3 (by decide)
  have xk0 := hS.1.2.1
  have xr4 := hS.2.1.2.2.1
  obtain ⟨-, k0, k1, k2, k3, k4, k5, k6, r0, r1, r2, r3, r5, r7, hp⟩ := hS.2.2.1.1
  obtain ⟨h0, g1, g2, g3, g4, g5, g6, g7, g8, g9, g10, g11⟩ := id hX
  obtain ⟨⟨x145, xl1, xl4⟩, -, -, -, xp, -, -, ⟨n2, n20, xn2, -⟩⟩ := id h0
  refine zM.ofG (by decide +kernel) (Nat.le_of_ble_eq_true rfl) ?_
  refine zg_aload_n (i := 0) dX2_position_0 rfl rfl ?_
  refine zg_iload_n (i := 1) dX2_position_1 rfl rfl ?_
  refine zg_callVi (cx_isPointer hS hX q) dX2_position_2 cvX2_isPointer mlX2_119 rfl (by assumption) (by assumption) rfl (Nat.le_of_ble_eq_true rfl) ⟨by decide, by decide⟩ ⟨Nat.le_refl _, Nat.le_refl _⟩ (fun r mu2 h2 => ?_)
  obtain ⟨rfl, rfl⟩ := h2
  by_cases hq : 0 ≤ q ∧ q < nI ol.length
  · rw [if_pos hq]
    obtain ⟨j, hj, rfl⟩ := atN_ix (by omega) hq
    obtain ⟨rp, hPS⟩ := hp j (by omega)
    have kp0 := hPS.2.1
    have kpN : x + 3 + 7 + 3 * j < S.1 := by have := hPS.1; omega
    obtain ⟨px, py, dr, ss, sl, ns, s0, s1, s2, hP, hR⟩ := g11 j (by omega)
    first | with_reducible refine zg_ifN_eq (tgt := 23) dX2_position_5 (by decide) (by omega) (fun c => ?_) (fun c => ?_) | refine zg_if_eq (tgt := 23) dX2_position_5 (by decide) (fun c => ?_) (fun c => ?_)
    · exact absurd c (by decide)
    · refine zg_aload_n (i := 0) dX2_position_8 rfl rfl ?_
      refine zg_getR dX2_position_9 flX2_20 (by decide) (by assumption) (by assumption) (by assumption) ?_
      refine zg_getR dX2_position_12 flX2_125 (by decide) (by assumption) (by assumption) (by assumption) ?_
      refine zg_iload_n (i := 1) dX2_position_15 rfl rfl ?_
      first | refine zg_pald dX2_position_16 (by assumption) (by assumption) rfl (by omega) (by decide) (by assumption) ?_ | refine zg_sald dX2_position_16 (by assumption) (by assumption) rfl (by omega) (by decide) (by assumption) ?_
      refine zg_callVi (cx_cell hPS (hR.1.trans hP.1) (hR.2.1.trans hP.2.1)) dX2_position_17 cvX0_cell mlX2_129 rfl (by assumption) (by assumption) rfl (Nat.le_of_ble_eq_true rfl) ⟨by decide, by decide⟩ ⟨Nat.le_refl _, Nat.le_refl _⟩ (fun r mu3 h3 => ?_)
      obtain ⟨rfl, rfl⟩ := h3
      refine zg_goto (tgt := 24) dX2_position_20 (by decide) ?_
      exact zg_iret dX2_position_24 rfl ⟨_, rfl, rfl, ⟨rfl, by rw [atN_in hj (by omega), hP.1, hP.2.1, pk_mul, nI_add]⟩⟩
  · rw [if_neg hq]
    first | with_reducible refine zg_ifN_eq (tgt := 23) dX2_position_5 (by decide) (by omega) (fun c => ?_) (fun c => ?_) | refine zg_if_eq (tgt := 23) dX2_position_5 (by decide) (fun c => ?_) (fun c => ?_)
    · refine zg_iconst (v := -1) dX2_position_23 (by decide) ?_
      exact zg_iret dX2_position_24 rfl ⟨_, rfl, rfl, ⟨rfl, by rw [atN_no hq]⟩⟩
    · exact absurd rfl c
set_option maxRecDepth 20000 in
theorem cx_pointerAt {S : zS} {x : Nat} {pm : Nat → Nat} (hS : XS S x pm) {mu : zU} {v : Nat → Int32} {ol : List Nat} (hX : SX mu (x + 3) v ol) (q : Int32) : zM yX2_pointerAt cX2_pointerAt 2 (some .int) 1 0 0 [.inr (x + 1), .inl q] S mu (zPi S (fun r mu2 => mu2 = mu ∧ r = atN q ol.length (fun j => v (146 + j)) (-1))) := by
  have hN0 : x < S.1 := hS.lt (i := 0) (by decide)
  have hNs : x + 3 < S.1 := hS.lt (by decide)
  have hNs1 : x + 3 + 1 < S.1 := hS.lt3 (by decide)
  have hNs2 : x + 3 + 2 < S.1 := hS.lt3 (by decide)
  have hNs3 : x + 3 + 3 < S.1 := hS.lt3 (by decide)
  have hNs4 : x + 3 + 4 < S.1 := hS.lt3 (by decide)
  have hNs6 : x + 3 + 6 < S.1 := hS.lt3 (by decide)
  have xk0 := hS.1.2.1
  have xr4 := hS.2.1.2.2.1
  obtain ⟨-, k0, k1, k2, k3, k4, k5, k6, r0, r1, r2, r3, r5, r7, hp⟩ := hS.2.2.1.1
  obtain ⟨h0, g1, g2, g3, g4, g5, g6, g7, g8, g9, g10, g11⟩ := id hX
  obtain ⟨⟨x145, xl1, xl4⟩, -, -, -, xp, -, -, ⟨n2, n20, xn2, -⟩⟩ := id h0
  refine zM.ofG (by decide +kernel) (Nat.le_of_ble_eq_true rfl) ?_
  refine zg_aload_n (i := 0) dX2_pointerAt_0 rfl rfl ?_
  refine zg_iload_n (i := 1) dX2_pointerAt_1 rfl rfl ?_
  refine zg_callVi (cx_isPointer hS hX q) dX2_pointerAt_2 cvX2_isPointer mlX2_119 rfl (by assumption) (by assumption) rfl (Nat.le_of_ble_eq_true rfl) ⟨by decide, by decide⟩ ⟨Nat.le_refl _, Nat.le_refl _⟩ (fun r mu2 h2 => ?_)
  obtain ⟨rfl, rfl⟩ := h2
  by_cases hq : 0 ≤ q ∧ q < nI ol.length
  · rw [if_pos hq]
    obtain ⟨j, hj, rfl⟩ := atN_ix (by omega) hq
    first | with_reducible refine zg_ifN_eq (tgt := 20) dX2_pointerAt_5 (by decide) (by omega) (fun c => ?_) (fun c => ?_) | refine zg_if_eq (tgt := 20) dX2_pointerAt_5 (by decide) (fun c => ?_) (fun c => ?_)
    · exact absurd c (by decide)
    · refine zg_aload_n (i := 0) dX2_pointerAt_8 rfl rfl ?_
      refine zg_getR dX2_pointerAt_9 flX2_20 (by decide) (by assumption) (by assumption) (by assumption) ?_
      refine zg_getR dX2_pointerAt_12 flX2_122 (by decide) (by assumption) (by assumption) (by assumption) ?_
      refine zg_iload_n (i := 1) dX2_pointerAt_15 rfl rfl ?_
      first | with_reducible refine zg_ialdR dX2_pointerAt_16 (by assumption) (by assumption) rfl (by omega) (by decide) ?_ | refine zg_iald dX2_pointerAt_16 (by assumption) (by assumption) rfl (by omega) (by decide) ?_
      refine zg_goto (tgt := 21) dX2_pointerAt_17 (by decide) ?_
      exact zg_iret dX2_pointerAt_21 rfl ⟨_, rfl, rfl, ⟨rfl, by rw [atN_in hj (by omega)]; exact g4 j hj⟩⟩
  · rw [if_neg hq]
    first | with_reducible refine zg_ifN_eq (tgt := 20) dX2_pointerAt_5 (by decide) (by omega) (fun c => ?_) (fun c => ?_) | refine zg_if_eq (tgt := 20) dX2_pointerAt_5 (by decide) (fun c => ?_) (fun c => ?_)
    · refine zg_iconst (v := -1) dX2_pointerAt_20 (by decide) ?_
      exact zg_iret dX2_pointerAt_21 rfl ⟨_, rfl, rfl, ⟨rfl, by rw [atN_no hq]⟩⟩
    · exact absurd rfl c
set_option maxRecDepth 20000 in
theorem cx_outputAt {S : zS} {x : Nat} {pm : Nat → Nat} (hS : XS S x pm) {mu : zU} {v : Nat → Int32} {ol : List Nat} (hX : SX mu (x + 3) v ol) (q : Int32) : zM yX2_outputAt cX2_outputAt 2 (some .int) 0 0 0 [.inr (x + 1), .inl q] S mu (zPi S (fun r mu2 => mu2 = mu ∧ r = atN q (zn v 267) (fun j => v (268 + j)) 0)) := by
  have hN0 : x < S.1 := hS.lt (i := 0) (by decide)
  have hNs : x + 3 < S.1 := hS.lt (by decide)
  have hNs1 : x + 3 + 1 < S.1 := hS.lt3 (by decide)
  have hNs2 : x + 3 + 2 < S.1 := hS.lt3 (by decide)
  have hNs3 : x + 3 + 3 < S.1 := hS.lt3 (by decide)
  have hNs4 : x + 3 + 4 < S.1 := hS.lt3 (by decide)
  have hNs6 : x + 3 + 6 < S.1 := hS.lt3 (by decide)
  have xk0 := hS.1.2.1
  have xr4 := hS.2.1.2.2.1
  obtain ⟨-, k0, k1, k2, k3, k4, k5, k6, r0, r1, r2, r3, r5, r7, hp⟩ := hS.2.2.1.1
  obtain ⟨h0, g1, g2, g3, g4, g5, g6, g7, g8, g9, g10, g11⟩ := id hX
  obtain ⟨⟨x145, xl1, xl4⟩, -, -, -, xp, -, -, ⟨n2, n20, xn2, -⟩⟩ := id h0
  have hz : zn v 267 = n2 := zn_of xn2 (by omega)
  refine zM.ofG (by decide +kernel) (Nat.le_of_ble_eq_true rfl) ?_
  refine zg_iload_n (i := 1) dX2_outputAt_0 rfl rfl ?_
  refine zg_if_lt (tgt := 27) dX2_outputAt_1 (by decide) (fun h1 => ?_) (fun h1 => ?_)
  · refine zg_iconst (v := nI 0) dX2_outputAt_27 (by decide) ?_
    exact zg_iret dX2_outputAt_28 rfl ⟨_, rfl, rfl, ⟨rfl, by rw [atN_lt h1]; rfl⟩⟩
  · refine zg_iload_n (i := 1) dX2_outputAt_4 rfl rfl ?_
    refine zg_aload_n (i := 0) dX2_outputAt_5 rfl rfl ?_
    refine zg_getR dX2_outputAt_6 flX2_20 (by decide) (by assumption) (by assumption) (by assumption) ?_
    first | with_reducible refine zg_getIR dX2_outputAt_9 flX2_158 (by decide) (by assumption) (by assumption) (by omega) ?_ | refine zg_getI dX2_outputAt_9 flX2_158 (by decide) (by assumption) (by assumption) ?_
    refine zg_val (g7.trans xn2) ?_
    refine zg_icmp_ge (tgt := 27) dX2_outputAt_12 (by decide) (fun h2 => ?_) (fun h2 => ?_)
    · refine zg_iconst (v := nI 0) dX2_outputAt_27 (by decide) ?_
      exact zg_iret dX2_outputAt_28 rfl ⟨_, rfl, rfl, ⟨rfl, by rw [hz, atN_ge h2]; rfl⟩⟩
    · obtain ⟨j, hj, rfl⟩ := atN_ix (p := q) (n := n2) (by omega) ⟨Int32.not_lt.mp h1, Int32.not_le.mp h2⟩
      refine zg_aload_n (i := 0) dX2_outputAt_15 rfl rfl ?_
      refine zg_getR dX2_outputAt_16 flX2_20 (by decide) (by assumption) (by assumption) (by assumption) ?_
      refine zg_getR dX2_outputAt_19 flX2_161 (by decide) (by assumption) (by assumption) (by assumption) ?_
      refine zg_iload_n (i := 1) dX2_outputAt_22 rfl rfl ?_
      first | with_reducible refine zg_ialdR dX2_outputAt_23 (by assumption) (by assumption) rfl (by omega) (by decide) ?_ | refine zg_iald dX2_outputAt_23 (by assumption) (by assumption) rfl (by omega) (by decide) ?_
      refine zg_goto (tgt := 28) dX2_outputAt_24 (by decide) ?_
      exact zg_iret dX2_outputAt_28 rfl ⟨_, rfl, rfl, ⟨rfl, by rw [hz, atN_in hj (by omega)]; exact g8 j (by omega)⟩⟩
set_option maxRecDepth 20000 in
theorem cx_cellAt {S : zS} {x : Nat} {pm : Nat → Nat} (hS : XS S x pm) {mu : zU} {v : Nat → Int32} {ol : List Nat} (hX : SX mu (x + 3) v ol) (a c : Int32) : zM yX2_cellAt cX2_cellAt 3 (some .int) 1 0 0 [.inr (x + 1), .inl a, .inl c] S mu (zPi S (fun r mu2 => mu2 = mu ∧ r = atC a c (fun j => v (72 + j)) (-1))) := by
  have hN0 : x < S.1 := hS.lt (i := 0) (by decide)
  have hNs : x + 3 < S.1 := hS.lt (by decide)
  have hNs1 : x + 3 + 1 < S.1 := hS.lt3 (by decide)
  have hNs2 : x + 3 + 2 < S.1 := hS.lt3 (by decide)
  have hNs3 : x + 3 + 3 < S.1 := hS.lt3 (by decide)
  have hNs4 : x + 3 + 4 < S.1 := hS.lt3 (by decide)
  have hNs6 : x + 3 + 6 < S.1 := hS.lt3 (by decide)
  have xk0 := hS.1.2.1
  have xr4 := hS.2.1.2.2.1
  obtain ⟨-, k0, k1, k2, k3, k4, k5, k6, r0, r1, r2, r3, r5, r7, hp⟩ := hS.2.2.1.1
  obtain ⟨h0, g1, g2, g3, g4, g5, g6, g7, g8, g9, g10, g11⟩ := id hX
  obtain ⟨⟨x145, xl1, xl4⟩, -, -, -, xp, -, -, ⟨n2, n20, xn2, -⟩⟩ := id h0
  refine zM.ofG (by decide +kernel) (Nat.le_of_ble_eq_true rfl) ?_
  refine zg_iload_n (i := 1) dX2_cellAt_0 rfl rfl ?_
  refine zg_iload_n (i := 2) dX2_cellAt_1 rfl rfl ?_
  refine zg_callSi (cx_isCell S mu a c) dX2_cellAt_2 ctX2_isCell mlX2_70 rfl rfl (Nat.le_of_ble_eq_true rfl) ⟨by decide, by decide⟩ ⟨Nat.le_refl _, Nat.le_refl _⟩ (fun r mu2 h2 => ?_)
  obtain ⟨rfl, rfl⟩ := h2
  rcases atC_cs a c with ⟨cx, cy, hx, hy, rfl, rfl⟩ | ⟨h1, h2⟩
  · rw [if_pos (cellC hx hy)]
    first | with_reducible refine zg_ifN_eq (tgt := 25) dX2_cellAt_5 (by decide) (by omega) (fun c1 => ?_) (fun c1 => ?_) | refine zg_if_eq (tgt := 25) dX2_cellAt_5 (by decide) (fun c1 => ?_) (fun c1 => ?_)
    · exact absurd c1 (by decide)
    · refine zg_aload_n (i := 0) dX2_cellAt_8 rfl rfl ?_
      refine zg_getR dX2_cellAt_9 flX2_20 (by decide) (by assumption) (by assumption) (by assumption) ?_
      refine zg_getR dX2_cellAt_12 flX2_78 (by decide) (by assumption) (by assumption) (by assumption) ?_
      refine zg_bipush (v := nI 12) dX2_cellAt_15 (by decide) ?_
      refine zg_iload_n (i := 2) dX2_cellAt_17 rfl rfl ?_
      first | with_reducible refine zg_imulN dX2_cellAt_18 ?_ | refine zg_imul dX2_cellAt_18 ?_
      refine zg_iload_n (i := 1) dX2_cellAt_19 rfl rfl ?_
      first | with_reducible refine zg_iaddN dX2_cellAt_20 ?_ | refine zg_iadd dX2_cellAt_20 ?_
      first | with_reducible refine zg_ialdR dX2_cellAt_21 (by assumption) (by assumption) rfl (by omega) (by decide) ?_ | refine zg_iald dX2_cellAt_21 (by assumption) (by assumption) rfl (by omega) (by decide) ?_
      refine zg_goto (tgt := 26) dX2_cellAt_22 (by decide) ?_
      exact zg_iret dX2_cellAt_26 rfl ⟨_, rfl, rfl, ⟨rfl, by rw [atC_in hx hy]; exact g2 _ (by omega)⟩⟩
  · rw [if_neg h1]
    first | with_reducible refine zg_ifN_eq (tgt := 25) dX2_cellAt_5 (by decide) (by omega) (fun c1 => ?_) (fun c1 => ?_) | refine zg_if_eq (tgt := 25) dX2_cellAt_5 (by decide) (fun c1 => ?_) (fun c1 => ?_)
    · refine zg_iconst (v := -1) dX2_cellAt_25 (by decide) ?_
      exact zg_iret dX2_cellAt_26 rfl ⟨_, rfl, rfl, ⟨rfl, by rw [h2]⟩⟩
    · exact absurd rfl c1
set_option maxRecDepth 20000 in
theorem cx_undoDepth {S : zS} {x : Nat} {pm : Nat → Nat} (hS : XS S x pm) (mu : zU) : zM yX2_undoDepth cX2_undoDepth 1 (some .int) 0 0 0 [.inr (x + 1)] S mu (zPi S (fun r mu2 => mu2 = mu ∧ r = mu x 6)) := by
  have hN0 : x < S.1 := hS.lt (i := 0) (by decide)
  have xk0 := hS.1.2.1
  refine zM.ofG (by decide +kernel) (Nat.le_of_ble_eq_true rfl) ?_
  refine zg_aload_n (i := 0) dX2_undoDepth_0 rfl rfl ?_
  first | with_reducible refine zg_getIR dX2_undoDepth_1 flX2_88 (by decide) (by assumption) (by assumption) (by omega) ?_ | refine zg_getI dX2_undoDepth_1 flX2_88 (by decide) (by assumption) (by assumption) ?_
  exact zg_iret dX2_undoDepth_4 rfl ⟨_, rfl, rfl, ⟨rfl, rfl⟩⟩
set_option maxRecDepth 20000 in
theorem lx_chg4 {S : zS} {x : Nat} {pm : Nat → Nat} (hS : XS S x pm) {mu : zU} {v : Nat → Int32} {ol : List Nat} (hX : SX mu (x + 3) v ol) (Ph : Option zV → zS → zU → Prop) (hx : Ph (some (.inl (nI (qdiff v (fun j => v (72 + j)) 72)))) S mu) :
    ∀ (t i : Nat), i + t = 72 → zG RX2 "changedCells" cX2_changedCells 3 (some .int) (zroom 0 0 0) 0 0 Ph 4 [some (.inr (x + 1)), some (.inl (nI (qdiff v (fun j => v (72 + j)) i))), some (.inl (nI i))] [] S (mu) 0 0 := by
  have hN0 : x < S.1 := hS.lt (i := 0) (by decide)
  have hNs : x + 3 < S.1 := hS.lt (by decide)
  have hNs1 : x + 3 + 1 < S.1 := hS.lt3 (by decide)
  have hNs2 : x + 3 + 2 < S.1 := hS.lt3 (by decide)
  have hNs3 : x + 3 + 3 < S.1 := hS.lt3 (by decide)
  have hNs4 : x + 3 + 4 < S.1 := hS.lt3 (by decide)
  have hNs6 : x + 3 + 6 < S.1 := hS.lt3 (by decide)
  have xk0 := hS.1.2.1
  have xr4 := hS.2.1.2.2.1
  obtain ⟨-, k0, k1, k2, k3, k4, k5, k6, r0, r1, r2, r3, r5, r7, hp⟩ := hS.2.2.1.1
  obtain ⟨h0, g1, g2, g3, g4, g5, g6, g7, g8, g9, g10, g11⟩ := id hX
  obtain ⟨⟨x145, xl1, xl4⟩, -, -, -, xp, -, -, ⟨n2, n20, xn2, -⟩⟩ := id h0
  intro t
  induction t with
  | zero =>
    intro i hit
    obtain rfl : i = 72 := by omega
    refine zg_iload_n (i := 2) dX2_changedCells_4 rfl rfl ?_
    refine zg_bipush (v := nI 72) dX2_changedCells_5 (by decide) ?_
    first | with_reducible refine zg_icmpN_ge (tgt := 40) dX2_changedCells_7 (by decide) (by omega) (by omega) (fun c => ?_) (fun c => ?_) | refine zg_icmp_ge (tgt := 40) dX2_changedCells_7 (by decide) (fun c => ?_) (fun c => ?_)
    · refine zg_iload_n (i := 1) dX2_changedCells_40 rfl rfl ?_
      exact zg_iret dX2_changedCells_41 rfl hx
    · omega
  | succ t ih =>
    intro i hit
    have hle := qdiff_le v (fun j => v (72 + j)) i
    have ihn := ih (i + 1) (by omega)
    rw [qdiff] at ihn
    refine zg_iload_n (i := 2) dX2_changedCells_4 rfl rfl ?_
    refine zg_bipush (v := nI 72) dX2_changedCells_5 (by decide) ?_
    first | with_reducible refine zg_icmpN_ge (tgt := 40) dX2_changedCells_7 (by decide) (by omega) (by omega) (fun c => ?_) (fun c => ?_) | refine zg_icmp_ge (tgt := 40) dX2_changedCells_7 (by decide) (fun c => ?_) (fun c => ?_)
    · omega
    · refine zg_aload_n (i := 0) dX2_changedCells_10 rfl rfl ?_
      refine zg_getR dX2_changedCells_11 flX2_20 (by decide) (by assumption) (by assumption) (by assumption) ?_
      refine zg_getR dX2_changedCells_14 flX2_78 (by decide) (by assumption) (by assumption) (by assumption) ?_
      refine zg_iload_n (i := 2) dX2_changedCells_17 rfl rfl ?_
      first | with_reducible refine zg_ialdR dX2_changedCells_18 (by assumption) (by assumption) rfl (by omega) (by decide) ?_ | refine zg_iald dX2_changedCells_18 (by assumption) (by assumption) rfl (by omega) (by decide) ?_
      refine zg_val (g2 i (by omega)) ?_
      refine zg_aload_n (i := 0) dX2_changedCells_19 rfl rfl ?_
      refine zg_getR dX2_changedCells_20 flX2_20 (by decide) (by assumption) (by assumption) (by assumption) ?_
      refine zg_getR dX2_changedCells_23 flX2_113 (by decide) (by assumption) (by assumption) (by assumption) ?_
      refine zg_iload_n (i := 2) dX2_changedCells_26 rfl rfl ?_
      first | with_reducible refine zg_ialdR dX2_changedCells_27 (by assumption) (by assumption) rfl (by omega) (by decide) ?_ | refine zg_iald dX2_changedCells_27 (by assumption) (by assumption) rfl (by omega) (by decide) ?_
      refine zg_val (g1 i (by omega)) ?_
      refine zg_icmp_eq (tgt := 34) dX2_changedCells_28 (by decide) (fun c2 => ?_) (fun c2 => ?_)
      · rw [if_pos (by first | exact c2 | exact c2.symm)] at ihn
        refine zg_iinc1 (L2 := [_, _, _]) dX2_changedCells_34 (by decide) rfl rfl ?_
        refine zg_goto (tgt := 4) dX2_changedCells_37 (by decide) ?_
        exact ihn
      · rw [if_neg (by first | exact c2 | exact fun z => c2 z.symm)] at ihn
        refine zg_iinc1 (L2 := [_, _, _]) dX2_changedCells_31 (by decide) rfl rfl ?_
        refine zg_iinc1 (L2 := [_, _, _]) dX2_changedCells_34 (by decide) rfl rfl ?_
        refine zg_goto (tgt := 4) dX2_changedCells_37 (by decide) ?_
        exact ihn
set_option maxRecDepth 20000 in
theorem cx_changedCells {S : zS} {x : Nat} {pm : Nat → Nat} (hS : XS S x pm) {mu : zU} {v : Nat → Int32} {ol : List Nat} (hX : SX mu (x + 3) v ol) : zM yX2_changedCells cX2_changedCells 3 (some .int) 0 0 0 [.inr (x + 1)] S mu (zPi S (fun r mu2 => mu2 = mu ∧ r = nI (qdiff v (fun j => v (72 + j)) 72))) := by
  refine zM.ofG (by decide +kernel) (Nat.le_of_ble_eq_true rfl) ?_
  refine zg_iconst (v := nI 0) dX2_changedCells_0 (by decide) ?_
  refine zg_istore_n (i := 1) (L2 := [_, _, _]) dX2_changedCells_1 rfl (by decide) rfl ?_
  refine zg_iconst (v := nI 0) dX2_changedCells_2 (by decide) ?_
  refine zg_istore_n (i := 2) (L2 := [_, _, _]) dX2_changedCells_3 rfl (by decide) rfl ?_
  exact lx_chg4 hS hX _ ⟨_, rfl, rfl, rfl, rfl⟩ 72 0 (by omega)
