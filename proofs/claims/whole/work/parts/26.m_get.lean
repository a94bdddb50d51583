/-! answers, and the reference's reads -/
def atN (p : Int32) (n : Nat) (f : Nat → Int32) (d : Int32) : Int32 := if 0 ≤ p ∧ p < nI n then f p.toNatClampNeg else d
theorem atN_in {pp n : Nat} {f : Nat → Int32} {d : Int32} (h : pp < n) (hn : n < 2 ^ 31) : atN (nI pp) n f d = f pp := by
  rw [atN, if_pos ⟨nI_pos' (by omega), nI_lt h hn⟩, nI_clamp (by omega)]
theorem atN_lt {p : Int32} {n : Nat} {f : Nat → Int32} {d : Int32} (h : p < 0) : atN p n f d = d := by
  rw [atN, if_neg (fun z => Int32.not_lt.mpr z.1 h)]
theorem atN_ge {p : Int32} {n : Nat} {f : Nat → Int32} {d : Int32} (h : nI n ≤ p) : atN p n f d = d := by
  rw [atN, if_neg (fun z => Int32.not_le.mpr z.2 h)]
theorem atN_no {p : Int32} {n : Nat} {f : Nat → Int32} {d : Int32} (h : ¬ (0 ≤ p ∧ p < nI n)) : atN p n f d = d := by rw [atN, if_neg h]
theorem atN_ix {p : Int32} {n : Nat} (hn : n < 2 ^ 31) (h : 0 ≤ p ∧ p < nI n) : ∃ j, j < n ∧ p = nI j := by
  rcases pk_ix p hn with h1 | h1 | h1
  · exact absurd h1 (Int32.not_lt.mpr h.1)
  · exact absurd h.2 (Int32.not_lt.mpr h1)
  · exact h1
theorem in_lt (p : Int32) {n : Nat} (hn : n < 2 ^ 31) : (nI 0 ≤ p ∧ p ≤ nI n - nI 1) ↔ (0 ≤ p ∧ p < nI n) := by
  have e : (nI n - nI 1).toInt = (n : Int) - 1 := by
    rw [fb_subI] <;> rw [nI_toInt hn, nI_toInt (by omega)] <;> omega
  have e2 : (nI n).toInt = n := nI_toInt hn
  rw [n0, Int32.le_iff_toInt_le, Int32.le_iff_toInt_le, Int32.lt_iff_toInt_lt, e, e2]
  omega
theorem in_lt1 (p : Int32) {n : Nat} (hn : n < 2 ^ 31) (h1 : 1 ≤ n) : (nI 0 ≤ p ∧ p ≤ nI (n - 1)) ↔ (0 ≤ p ∧ p < nI n) := by
  rw [← in_lt p hn, pk_sub h1]
theorem in_le (p : Int32) (n : Nat) (hn : n + 1 < 2 ^ 31) : (nI 0 ≤ p ∧ p ≤ nI n) ↔ (0 ≤ p ∧ p < nI (n + 1)) := by
  have := in_lt1 p hn (by omega)
  rw [Nat.add_sub_cancel] at this
  exact this
def atC (x y : Int32) (f : Nat → Int32) (d : Int32) : Int32 := atN x 12 (fun cx => atN y 6 (fun cy => f (12 * cy + cx)) d) d
theorem atC_cs (x y : Int32) : (∃ cx cy, cx < 12 ∧ cy < 6 ∧ x = nI cx ∧ y = nI cy) ∨ (¬ ((nI 0 ≤ x ∧ x ≤ nI 11) ∧ nI 0 ≤ y ∧ y ≤ nI 5) ∧ ∀ f d, atC x y f d = d) := by
  by_cases h1 : 0 ≤ x ∧ x < nI 12
  · by_cases h2 : 0 ≤ y ∧ y < nI 6
    · obtain ⟨cx, h3, h4⟩ := atN_ix (by omega) h1
      obtain ⟨cy, h5, h6⟩ := atN_ix (by omega) h2
      exact Or.inl ⟨cx, cy, h3, h5, h4, h6⟩
    · refine Or.inr ⟨fun z => h2 ((in_le y 5 (by omega)).mp z.2), fun f d => ?_⟩
      obtain ⟨cx, h3, rfl⟩ := atN_ix (by omega) h1
      rw [atC, atN_in h3 (by omega), atN_no h2]
  · exact Or.inr ⟨fun z => h1 ((in_le x 11 (by omega)).mp z.1), fun f d => by rw [atC, atN_no h1]⟩
theorem atC_in {cx cy : Nat} {f : Nat → Int32} {d : Int32} (h1 : cx < 12) (h2 : cy < 6) : atC (nI cx) (nI cy) f d = f (12 * cy + cx) := by rw [atC, atN_in h1 (by omega), atN_in h2 (by omega)]
theorem cellC {cx cy : Nat} (h1 : cx < 12) (h2 : cy < 6) : (nI 0 ≤ nI cx ∧ nI cx ≤ nI 11) ∧ nI 0 ≤ nI cy ∧ nI cy ≤ nI 5 := by
  rw [nI_leI (by omega) (by omega), nI_leI (by omega) (by omega), nI_leI (by omega) (by omega), nI_leI (by omega) (by omega)]
  omega
set_option maxRecDepth 20000 in
theorem cm_isPointer {S : zS} {m : Nat} (hS : MS S m) (mu : zU) {cn : Nat} (hv : mu (m + 1) 145 = nI cn) (h1 : 1 ≤ cn) (h4 : cn ≤ 4) (q : Int32) : zM yX3_isPointer cX3_isPointer 2 (some .boolean) 1 0 0 [.inr (m + 1), .inl q] S mu (zPi S (fun r mu2 => mu2 = mu ∧ r = if 0 ≤ q ∧ q < nI cn then nI 1 else nI 0)) := by
  have hN0 : m < S.1 := hS.lt (i := 0) (by decide)
  have hN1 : m + 1 < S.1 := hS.lt (by decide)
  obtain ⟨⟨-, k0, k1, -⟩, r0, -⟩ := id hS
  refine zM.ofG (by decide +kernel) (Nat.le_of_ble_eq_true rfl) ?_
  refine zg_iload_n (i := 1) dX3_isPointer_0 rfl rfl ?_
  refine zg_iconst (v := nI 0) dX3_isPointer_1 (by decide) ?_
  refine zg_aload_n (i := 0) dX3_isPointer_2 rfl rfl ?_
  refine zg_getR dX3_isPointer_3 flX3_7 (by decide) (by assumption) (by assumption) (by assumption) ?_
  refine zg_sipush (v := nI 145) dX3_isPointer_6 (by decide) ?_
  first | with_reducible refine zg_ialdR dX3_isPointer_9 (by assumption) (by assumption) rfl (by omega) (by decide) ?_ | refine zg_iald dX3_isPointer_9 (by assumption) (by assumption) rfl (by omega) (by decide) ?_
  refine zg_val hv ?_
  refine zg_iconst (v := nI 1) dX3_isPointer_10 (by decide) ?_
  first | with_reducible refine zg_isubN dX3_isPointer_11 (by omega) ?_ | refine zg_isub dX3_isPointer_11 ?_
  refine zg_callSi (cm_in S mu q (nI 0) (nI (cn - 1))) dX3_isPointer_12 ctX3_in mlX3_44 rfl rfl (Nat.le_of_ble_eq_true rfl) ⟨by decide, by decide⟩ ⟨Nat.le_refl _, Nat.le_refl _⟩ (fun r mu2 h2 => ?_)
  obtain ⟨rfl, rfl⟩ := h2
  simp only [in_lt1 q (show cn < 2 ^ 31 by omega) h1]
  exact zg_zret dX3_isPointer_15 rfl (by split <;> first | (left; rfl) | (right; rfl)) ⟨_, rfl, rfl, rfl, rfl⟩
set_option maxRecDepth 20000 in
theorem cm_pointerCount {S : zS} {m : Nat} (hS : MS S m) (mu : zU) : zM yX3_pointerCount cX3_pointerCount 1 (some .int) 0 0 0 [.inr (m + 1)] S mu (zPi S (fun r mu2 => mu2 = mu ∧ r = mu (m + 1) 145)) := by
  have hN0 : m < S.1 := hS.lt (i := 0) (by decide)
  have hN1 : m + 1 < S.1 := hS.lt (by decide)
  obtain ⟨⟨-, k0, k1, -⟩, r0, -⟩ := id hS
  refine zM.ofG (by decide +kernel) (Nat.le_of_ble_eq_true rfl) ?_
  refine zg_aload_n (i := 0) dX3_pointerCount_0 rfl rfl ?_
  refine zg_getR dX3_pointerCount_1 flX3_7 (by decide) (by assumption) (by assumption) (by assumption) ?_
  refine zg_sipush (v := nI 145) dX3_pointerCount_4 (by decide) ?_
  first | with_reducible refine zg_ialdR dX3_pointerCount_7 (by assumption) (by assumption) rfl (by omega) (by decide) ?_ | refine zg_iald dX3_pointerCount_7 (by assumption) (by assumption) rfl (by omega) (by decide) ?_
  exact zg_iret dX3_pointerCount_8 rfl ⟨_, rfl, rfl, ⟨rfl, rfl⟩⟩
set_option maxRecDepth 20000 in
theorem cm_inputSize {S : zS} {m : Nat} (hS : MS S m) (mu : zU) : zM yX3_inputSize cX3_inputSize 1 (some .int) 0 0 0 [.inr (m + 1)] S mu (zPi S (fun r mu2 => mu2 = mu ∧ r = mu (m + 1) 250)) := by
  have hN0 : m < S.1 := hS.lt (i := 0) (by decide)
  have hN1 : m + 1 < S.1 := hS.lt (by decide)
  obtain ⟨⟨-, k0, k1, -⟩, r0, -⟩ := id hS
  refine zM.ofG (by decide +kernel) (Nat.le_of_ble_eq_true rfl) ?_
  refine zg_aload_n (i := 0) dX3_inputSize_0 rfl rfl ?_
  refine zg_getR dX3_inputSize_1 flX3_7 (by decide) (by assumption) (by assumption) (by assumption) ?_
  refine zg_sipush (v := nI 250) dX3_inputSize_4 (by decide) ?_
  first | with_reducible refine zg_ialdR dX3_inputSize_7 (by assumption) (by assumption) rfl (by omega) (by decide) ?_ | refine zg_iald dX3_inputSize_7 (by assumption) (by assumption) rfl (by omega) (by decide) ?_
  exact zg_iret dX3_inputSize_8 rfl ⟨_, rfl, rfl, ⟨rfl, rfl⟩⟩
set_option maxRecDepth 20000 in
theorem cm_outputSize {S : zS} {m : Nat} (hS : MS S m) (mu : zU) : zM yX3_outputSize cX3_outputSize 1 (some .int) 0 0 0 [.inr (m + 1)] S mu (zPi S (fun r mu2 => mu2 = mu ∧ r = mu (m + 1) 267)) := by
  have hN0 : m < S.1 := hS.lt (i := 0) (by decide)
  have hN1 : m + 1 < S.1 := hS.lt (by decide)
  obtain ⟨⟨-, k0, k1, -⟩, r0, -⟩ := id hS
  refine zM.ofG (by decide +kernel) (Nat.le_of_ble_eq_true rfl) ?_
  refine zg_aload_n (i := 0) dX3_outputSize_0 rfl rfl ?_
  refine zg_getR dX3_outputSize_1 flX3_7 (by decide) (by assumption) (by assumption) (by assumption) ?_
  refine zg_sipush (v := nI 267) dX3_outputSize_4 (by decide) ?_
  first | with_reducible refine zg_ialdR dX3_outputSize_7 (by assumption) (by assumption) rfl (by omega) (by decide) ?_ | refine zg_iald dX3_outputSize_7 (by assumption) (by assumption) rfl (by omega) (by decide) ?_
  exact zg_iret dX3_outputSize_8 rfl ⟨_, rfl, rfl, ⟨rfl, rfl⟩⟩
set_option maxRecDepth 20000 in
theorem cm_outputTotal {S : zS} {m : Nat} (hS : MS S m) (mu : zU) : zM yX3_outputTotal cX3_outputTotal 1 (some .int) 0 0 0 [.inr (m + 1)] S mu (zPi S (fun r mu2 => mu2 = mu ∧ r = mu (m + 1) 288)) := by
  have hN0 : m < S.1 := hS.lt (i := 0) (by decide)
  have hN1 : m + 1 < S.1 := hS.lt (by decide)
  obtain ⟨⟨-, k0, k1, -⟩, r0, -⟩ := id hS
  refine zM.ofG (by decide +kernel) (Nat.le_of_ble_eq_true rfl) ?_
  refine zg_aload_n (i := 0) dX3_outputTotal_0 rfl rfl ?_
  refine zg_getR dX3_outputTotal_1 flX3_7 (by decide) (by assumption) (by assumption) (by assumption) ?_
  refine zg_sipush (v := nI 288) dX3_outputTotal_4 (by decide) ?_
  first | with_reducible refine zg_ialdR dX3_outputTotal_7 (by assumption) (by assumption) rfl (by omega) (by decide) ?_ | refine zg_iald dX3_outputTotal_7 (by assumption) (by assumption) rfl (by omega) (by decide) ?_
  exact zg_iret dX3_outputTotal_8 rfl ⟨_, rfl, rfl, ⟨rfl, rfl⟩⟩
set_option maxRecDepth 20000 in
theorem cm_tickCount {S : zS} {m : Nat} (hS : MS S m) (mu : zU) : zM yX3_tickCount cX3_tickCount 1 (some .int) 0 0 0 [.inr (m + 1)] S mu (zPi S (fun r mu2 => mu2 = mu ∧ r = mu (m + 1) 144)) := by
  have hN0 : m < S.1 := hS.lt (i := 0) (by decide)
  have hN1 : m + 1 < S.1 := hS.lt (by decide)
  obtain ⟨⟨-, k0, k1, -⟩, r0, -⟩ := id hS
  refine zM.ofG (by decide +kernel) (Nat.le_of_ble_eq_true rfl) ?_
  refine zg_aload_n (i := 0) dX3_tickCount_0 rfl rfl ?_
  refine zg_getR dX3_tickCount_1 flX3_7 (by decide) (by assumption) (by assumption) (by assumption) ?_
  refine zg_sipush (v := nI 144) dX3_tickCount_4 (by decide) ?_
  first | with_reducible refine zg_ialdR dX3_tickCount_7 (by assumption) (by assumption) rfl (by omega) (by decide) ?_ | refine zg_iald dX3_tickCount_7 (by assumption) (by assumption) rfl (by omega) (by decide) ?_
  exact zg_iret dX3_tickCount_8 rfl ⟨_, rfl, rfl, ⟨rfl, rfl⟩⟩
set_option maxRecDepth 20000 in
theorem cm_direction {S : zS} {m : Nat} (hS : MS S m) (mu : zU) {cn : Nat} (hv : mu (m + 1) 145 = nI cn) (h1 : 1 ≤ cn) (h4 : cn ≤ 4) (q : Int32) : zM yX3_direction cX3_direction 2 (some .int) 2 0 0 [.inr (m + 1), .inl q] S mu (zPi S (fun r mu2 => mu2 = mu ∧ r = atN q cn (fun j => mu (m + 1) (150 + 25 * j + 2)) (-1))) := by
  have hN0 : m < S.1 := hS.lt (i := 0) (by decide)
  have hN1 : m + 1 < S.1 := hS.lt (by decide)
  obtain ⟨⟨-, k0, k1, -⟩, r0, -⟩ := id hS
  refine zM.ofG (by decide +kernel) (Nat.le_of_ble_eq_true rfl) ?_
  refine zg_aload_n (i := 0) dX3_direction_0 rfl rfl ?_
  refine zg_iload_n (i := 1) dX3_direction_1 rfl rfl ?_
  refine zg_callVi (cm_isPointer hS mu hv h1 h4 q) dX3_direction_2 cvX3_isPointer mlX3_182 rfl (by assumption) (by assumption) rfl (Nat.le_of_ble_eq_true rfl) ⟨by decide, by decide⟩ ⟨Nat.le_refl _, Nat.le_refl _⟩ (fun r mu2 h2 => ?_)
  obtain ⟨rfl, rfl⟩ := h2
  by_cases hq : 0 ≤ q ∧ q < nI cn
  · rw [if_pos hq]
    obtain ⟨j, hj, rfl⟩ := atN_ix (by omega) hq
    first | with_reducible refine zg_ifN_eq (tgt := 17) dX3_direction_5 (by decide) (by omega) (fun c => ?_) (fun c => ?_) | refine zg_if_eq (tgt := 17) dX3_direction_5 (by decide) (fun c => ?_) (fun c => ?_)
    · exact absurd c (by decide)
    · refine zg_aload_n (i := 0) dX3_direction_8 rfl rfl ?_
      refine zg_iload_n (i := 1) dX3_direction_9 rfl rfl ?_
      refine zg_iconst (v := nI 2) dX3_direction_10 (by decide) ?_
      refine zg_mu (zrow_self mu2 (m + 1)).symm ?_
      refine zg_callVi (cm_of hS mu2 (mu2 (m + 1)) (p := j) (w := 2) (by omega)) dX3_direction_11 cvX3_of mlX3_69 rfl (by assumption) (by assumption) rfl (Nat.le_of_ble_eq_true rfl) ⟨by decide, by decide⟩ ⟨Nat.le_refl _, Nat.le_refl _⟩ (fun r mu3 h3 => ?_)
      obtain ⟨rfl, rfl⟩ := h3
      refine zg_goto (tgt := 18) dX3_direction_14 (by decide) ?_
      exact zg_iret dX3_direction_18 rfl ⟨_, rfl, rfl, ⟨zrow_self _ _, by rw [atN_in hj (by omega)]⟩⟩
  · rw [if_neg hq]
    first | with_reducible refine zg_ifN_eq (tgt := 17) dX3_direction_5 (by decide) (by omega) (fun c => ?_) (fun c => ?_) | refine zg_if_eq (tgt := 17) dX3_direction_5 (by decide) (fun c => ?_) (fun c => ?_)
    · refine zg_iconst (v := -1) dX3_direction_17 (by decide) ?_
      exact zg_iret dX3_direction_18 rfl ⟨_, rfl, rfl, ⟨rfl, by rw [atN_no hq]⟩⟩
    · exact absurd rfl c
set_option maxRecDepth 20000 in
theorem cm_status {S : zS} {m : Nat} (hS : MS S m) (mu : zU) {cn : Nat} (hv : mu (m + 1) 145 = nI cn) (h1 : 1 ≤ cn) (h4 : cn ≤ 4) (q : Int32) : zM yX3_status cX3_status 2 (some .int) 2 0 0 [.inr (m + 1), .inl q] S mu (zPi S (fun r mu2 => mu2 = mu ∧ r = atN q cn (fun j => mu (m + 1) (150 + 25 * j + 3)) (-1))) := by
  have hN0 : m < S.1 := hS.lt (i := 0) (by decide)
  have hN1 : m + 1 < S.1 := hS.lt (by decide)
  obtain ⟨⟨-, k0, k1, -⟩, r0, -⟩ := id hS
  refine zM.ofG (by decide +kernel) (Nat.le_of_ble_eq_true rfl) ?_
  refine zg_aload_n (i := 0) dX3_status_0 rfl rfl ?_
  refine zg_iload_n (i := 1) dX3_status_1 rfl rfl ?_
  refine zg_callVi (cm_isPointer hS mu hv h1 h4 q) dX3_status_2 cvX3_isPointer mlX3_182 rfl (by assumption) (by assumption) rfl (Nat.le_of_ble_eq_true rfl) ⟨by decide, by decide⟩ ⟨Nat.le_refl _, Nat.le_refl _⟩ (fun r mu2 h2 => ?_)
  obtain ⟨rfl, rfl⟩ := h2
  by_cases hq : 0 ≤ q ∧ q < nI cn
  · rw [if_pos hq]
    obtain ⟨j, hj, rfl⟩ := atN_ix (by omega) hq
    first | with_reducible refine zg_ifN_eq (tgt := 17) dX3_status_5 (by decide) (by omega) (fun c => ?_) (fun c => ?_) | refine zg_if_eq (tgt := 17) dX3_status_5 (by decide) (fun c => ?_) (fun c => ?_)
    · exact absurd c (by decide)
    · refine zg_aload_n (i := 0) dX3_status_8 rfl rfl ?_
      refine zg_iload_n (i := 1) dX3_status_9 rfl rfl ?_
      refine zg_iconst (v := nI 3) dX3_status_10 (by decide) ?_
      refine zg_mu (zrow_self mu2 (m + 1)).symm ?_
      refine zg_callVi (cm_of hS mu2 (mu2 (m + 1)) (p := j) (w := 3) (by omega)) dX3_status_11 cvX3_of mlX3_69 rfl (by assumption) (by assumption) rfl (Nat.le_of_ble_eq_true rfl) ⟨by decide, by decide⟩ ⟨Nat.le_refl _, Nat.le_refl _⟩ (fun r mu3 h3 => ?_)
      obtain ⟨rfl, rfl⟩ := h3
      refine zg_goto (tgt := 18) dX3_status_14 (by decide) ?_
      exact zg_iret dX3_status_18 rfl ⟨_, rfl, rfl, ⟨zrow_self _ _, by rw [atN_in hj (by omega)]⟩⟩
  · rw [if_neg hq]
    first | with_reducible refine zg_ifN_eq (tgt := 17) dX3_status_5 (by decide) (by omega) (fun c => ?_) (fun c => ?_) | refine zg_if_eq (tgt := 17) dX3_status_5 (by decide) (fun c => ?_) (fun c => ?_)
    · refine zg_iconst (v := -1) dX3_status_17 (by decide) ?_
      exact zg_iret dX3_status_18 rfl ⟨_, rfl, rfl, ⟨rfl, by rw [atN_no hq]⟩⟩
    · exact absurd rfl c
set_option maxRecDepth 20000 in
theorem cm_sleep {S : zS} {m : Nat} (hS : MS S m) (mu : zU) {cn : Nat} (hv : mu (m + 1) 145 = nI cn) (h1 : 1 ≤ cn) (h4 : cn ≤ 4) (q : Int32) : zM yX3_sleep cX3_sleep 2 (some .int) 2 0 0 [.inr (m + 1), .inl q] S mu (zPi S (fun r mu2 => mu2 = mu ∧ r = atN q cn (fun j => mu (m + 1) (150 + 25 * j + 4)) (-1))) := by
  have hN0 : m < S.1 := hS.lt (i := 0) (by decide)
  have hN1 : m + 1 < S.1 := hS.lt (by decide)
  obtain ⟨⟨-, k0, k1, -⟩, r0, -⟩ := id hS
  refine zM.ofG (by decide +kernel) (Nat.le_of_ble_eq_true rfl) ?_
  refine zg_aload_n (i := 0) dX3_sleep_0 rfl rfl ?_
  refine zg_iload_n (i := 1) dX3_sleep_1 rfl rfl ?_
  refine zg_callVi (cm_isPointer hS mu hv h1 h4 q) dX3_sleep_2 cvX3_isPointer mlX3_182 rfl (by assumption) (by assumption) rfl (Nat.le_of_ble_eq_true rfl) ⟨by decide, by decide⟩ ⟨Nat.le_refl _, Nat.le_refl _⟩ (fun r mu2 h2 => ?_)
  obtain ⟨rfl, rfl⟩ := h2
  by_cases hq : 0 ≤ q ∧ q < nI cn
  · rw [if_pos hq]
    obtain ⟨j, hj, rfl⟩ := atN_ix (by omega) hq
    first | with_reducible refine zg_ifN_eq (tgt := 17) dX3_sleep_5 (by decide) (by omega) (fun c => ?_) (fun c => ?_) | refine zg_if_eq (tgt := 17) dX3_sleep_5 (by decide) (fun c => ?_) (fun c => ?_)
    · exact absurd c (by decide)
    · refine zg_aload_n (i := 0) dX3_sleep_8 rfl rfl ?_
      refine zg_iload_n (i := 1) dX3_sleep_9 rfl rfl ?_
      refine zg_iconst (v := nI 4) dX3_sleep_10 (by decide) ?_
      refine zg_mu (zrow_self mu2 (m + 1)).symm ?_
      refine zg_callVi (cm_of hS mu2 (mu2 (m + 1)) (p := j) (w := 4) (by omega)) dX3_sleep_11 cvX3_of mlX3_69 rfl (by assumption) (by assumption) rfl (Nat.le_of_ble_eq_true rfl) ⟨by decide, by decide⟩ ⟨Nat.le_refl _, Nat.le_refl _⟩ (fun r mu3 h3 => ?_)
      obtain ⟨rfl, rfl⟩ := h3
      refine zg_goto (tgt := 18) dX3_sleep_14 (by decide) ?_
      exact zg_iret dX3_sleep_18 rfl ⟨_, rfl, rfl, ⟨zrow_self _ _, by rw [atN_in hj (by omega)]⟩⟩
  · rw [if_neg hq]
    first | with_reducible refine zg_ifN_eq (tgt := 17) dX3_sleep_5 (by decide) (by omega) (fun c => ?_) (fun c => ?_) | refine zg_if_eq (tgt := 17) dX3_sleep_5 (by decide) (fun c => ?_) (fun c => ?_)
    · refine zg_iconst (v := -1) dX3_sleep_17 (by decide) ?_
      exact zg_iret dX3_sleep_18 rfl ⟨_, rfl, rfl, ⟨rfl, by rw [atN_no hq]⟩⟩
    · exact absurd rfl c
set_option maxRecDepth 20000 in
theorem cm_stackCount {S : zS} {m : Nat} (hS : MS S m) (mu : zU) {cn : Nat} (hv : mu (m + 1) 145 = nI cn) (h1 : 1 ≤ cn) (h4 : cn ≤ 4) (q : Int32) : zM yX3_stackCount cX3_stackCount 2 (some .int) 2 0 0 [.inr (m + 1), .inl q] S mu (zPi S (fun r mu2 => mu2 = mu ∧ r = atN q cn (fun j => mu (m + 1) (150 + 25 * j + 5)) (-1))) := by
  have hN0 : m < S.1 := hS.lt (i := 0) (by decide)
  have hN1 : m + 1 < S.1 := hS.lt (by decide)
  obtain ⟨⟨-, k0, k1, -⟩, r0, -⟩ := id hS
  refine zM.ofG (by decide +kernel) (Nat.le_of_ble_eq_true rfl) ?_
  refine zg_aload_n (i := 0) dX3_stackCount_0 rfl rfl ?_
  refine zg_iload_n (i := 1) dX3_stackCount_1 rfl rfl ?_
  refine zg_callVi (cm_isPointer hS mu hv h1 h4 q) dX3_stackCount_2 cvX3_isPointer mlX3_182 rfl (by assumption) (by assumption) rfl (Nat.le_of_ble_eq_true rfl) ⟨by decide, by decide⟩ ⟨Nat.le_refl _, Nat.le_refl _⟩ (fun r mu2 h2 => ?_)
  obtain ⟨rfl, rfl⟩ := h2
  by_cases hq : 0 ≤ q ∧ q < nI cn
  · rw [if_pos hq]
    obtain ⟨j, hj, rfl⟩ := atN_ix (by omega) hq
    first | with_reducible refine zg_ifN_eq (tgt := 17) dX3_stackCount_5 (by decide) (by omega) (fun c => ?_) (fun c => ?_) | refine zg_if_eq (tgt := 17) dX3_stackCount_5 (by decide) (fun c => ?_) (fun c => ?_)
    · exact absurd c (by decide)
    · refine zg_aload_n (i := 0) dX3_stackCount_8 rfl rfl ?_
      refine zg_iload_n (i := 1) dX3_stackCount_9 rfl rfl ?_
      refine zg_iconst (v := nI 5) dX3_stackCount_10 (by decide) ?_
      refine zg_mu (zrow_self mu2 (m + 1)).symm ?_
      refine zg_callVi (cm_of hS mu2 (mu2 (m + 1)) (p := j) (w := 5) (by omega)) dX3_stackCount_11 cvX3_of mlX3_69 rfl (by assumption) (by assumption) rfl (Nat.le_of_ble_eq_true rfl) ⟨by decide, by decide⟩ ⟨Nat.le_refl _, Nat.le_refl _⟩ (fun r mu3 h3 => ?_)
      obtain ⟨rfl, rfl⟩ := h3
      refine zg_goto (tgt := 18) dX3_stackCount_14 (by decide) ?_
      exact zg_iret dX3_stackCount_18 rfl ⟨_, rfl, rfl, ⟨zrow_self _ _, by rw [atN_in hj (by omega)]⟩⟩
  · rw [if_neg hq]
    first | with_reducible refine zg_ifN_eq (tgt := 17) dX3_stackCount_5 (by decide) (by omega) (fun c => ?_) (fun c => ?_) | refine zg_if_eq (tgt := 17) dX3_stackCount_5 (by decide) (fun c => ?_) (fun c => ?_)
    · refine zg_iconst (v := -1) dX3_stackCount_17 (by decide) ?_
      exact zg_iret dX3_stackCount_18 rfl ⟨_, rfl, rfl, ⟨rfl, by rw [atN_no hq]⟩⟩
    · exact absurd rfl c
set_option maxRecDepth 20000 in
theorem cm_pointerAt {S : zS} {m : Nat} (hS : MS S m) (mu : zU) {cn : Nat} (hv : mu (m + 1) 145 = nI cn) (h1 : 1 ≤ cn) (h4 : cn ≤ 4) (q : Int32) : zM yX3_pointerAt cX3_pointerAt 2 (some .int) 2 0 0 [.inr (m + 1), .inl q] S mu (zPi S (fun r mu2 => mu2 = mu ∧ r = atN q cn (fun j => mu (m + 1) (146 + j)) (-1))) := by
  have hN0 : m < S.1 := hS.lt (i := 0) (by decide)
  have hN1 : m + 1 < S.1 := hS.lt (by decide)
  obtain ⟨⟨-, k0, k1, -⟩, r0, -⟩ := id hS
  refine zM.ofG (by decide +kernel) (Nat.le_of_ble_eq_true rfl) ?_
  refine zg_aload_n (i := 0) dX3_pointerAt_0 rfl rfl ?_
  refine zg_iload_n (i := 1) dX3_pointerAt_1 rfl rfl ?_
  refine zg_callVi (cm_isPointer hS mu hv h1 h4 q) dX3_pointerAt_2 cvX3_isPointer mlX3_182 rfl (by assumption) (by assumption) rfl (Nat.le_of_ble_eq_true rfl) ⟨by decide, by decide⟩ ⟨Nat.le_refl _, Nat.le_refl _⟩ (fun r mu2 h2 => ?_)
  obtain ⟨rfl, rfl⟩ := h2
  by_cases hq : 0 ≤ q ∧ q < nI cn
  · rw [if_pos hq]
    obtain ⟨j, hj, rfl⟩ := atN_ix (by omega) hq
    first | with_reducible refine zg_ifN_eq (tgt := 21) dX3_pointerAt_5 (by decide) (by omega) (fun c => ?_) (fun c => ?_) | refine zg_if_eq (tgt := 21) dX3_pointerAt_5 (by decide) (fun c => ?_) (fun c => ?_)
    · exact absurd c (by decide)
    · refine zg_aload_n (i := 0) dX3_pointerAt_8 rfl rfl ?_
      refine zg_getR dX3_pointerAt_9 flX3_7 (by decide) (by assumption) (by assumption) (by assumption) ?_
      refine zg_sipush (v := nI 146) dX3_pointerAt_12 (by decide) ?_
      refine zg_iload_n (i := 1) dX3_pointerAt_15 rfl rfl ?_
      first | with_reducible refine zg_iaddN dX3_pointerAt_16 ?_ | refine zg_iadd dX3_pointerAt_16 ?_
      first | with_reducible refine zg_ialdR dX3_pointerAt_17 (by assumption) (by assumption) rfl (by omega) (by decide) ?_ | refine zg_iald dX3_pointerAt_17 (by assumption) (by assumption) rfl (by omega) (by decide) ?_
      refine zg_goto (tgt := 22) dX3_pointerAt_18 (by decide) ?_
      exact zg_iret dX3_pointerAt_22 rfl ⟨_, rfl, rfl, ⟨rfl, by rw [atN_in hj (by omega)]⟩⟩
  · rw [if_neg hq]
    first | with_reducible refine zg_ifN_eq (tgt := 21) dX3_pointerAt_5 (by decide) (by omega) (fun c => ?_) (fun c => ?_) | refine zg_if_eq (tgt := 21) dX3_pointerAt_5 (by decide) (fun c => ?_) (fun c => ?_)
    · refine zg_iconst (v := -1) dX3_pointerAt_21 (by decide) ?_
      exact zg_iret dX3_pointerAt_22 rfl ⟨_, rfl, rfl, ⟨rfl, by rw [atN_no hq]⟩⟩
    · exact absurd rfl c
set_option maxRecDepth 20000 in
theorem cm_position {S : zS} {m : Nat} (hS : MS S m) (mu : zU) {cn : Nat} (hv : mu (m + 1) 145 = nI cn) (h1 : 1 ≤ cn) (h4 : cn ≤ 4) (q : Int32) (hxy : ∀ j, j < cn → ∃ x y, mu (m + 1) (150 + 25 * j) = nI x ∧ mu (m + 1) (150 + 25 * j + 1) = nI y) : zM yX3_position cX3_position 2 (some .int) 2 0 0 [.inr (m + 1), .inl q] S mu (zPi S (fun r mu2 => mu2 = mu ∧ r = atN q cn (fun j => nI 12 * mu (m + 1) (150 + 25 * j + 1) + mu (m + 1) (150 + 25 * j)) (-1))) := by
  have hN0 : m < S.1 := hS.lt (i := 0) (by decide)
  have hN1 : m + 1 < S.1 := hS.lt (by decide)
  obtain ⟨⟨-, k0, k1, -⟩, r0, -⟩ := id hS
  refine zM.ofG (by decide +kernel) (Nat.le_of_ble_eq_true rfl) ?_
  refine zg_aload_n (i := 0) dX3_position_0 rfl rfl ?_
  refine zg_iload_n (i := 1) dX3_position_1 rfl rfl ?_
  refine zg_callVi (cm_isPointer hS mu hv h1 h4 q) dX3_position_2 cvX3_isPointer mlX3_182 rfl (by assumption) (by assumption) rfl (Nat.le_of_ble_eq_true rfl) ⟨by decide, by decide⟩ ⟨Nat.le_refl _, Nat.le_refl _⟩ (fun r mu2 h2 => ?_)
  obtain ⟨rfl, rfl⟩ := h2
  by_cases hq : 0 ≤ q ∧ q < nI cn
  · rw [if_pos hq]
    obtain ⟨j, hj, rfl⟩ := atN_ix (by omega) hq
    first | with_reducible refine zg_ifN_eq (tgt := 27) dX3_position_5 (by decide) (by omega) (fun c => ?_) (fun c => ?_) | refine zg_if_eq (tgt := 27) dX3_position_5 (by decide) (fun c => ?_) (fun c => ?_)
    · exact absurd c (by decide)
    · refine zg_bipush (v := nI 12) dX3_position_8 (by decide) ?_
      refine zg_aload_n (i := 0) dX3_position_10 rfl rfl ?_
      refine zg_iload_n (i := 1) dX3_position_11 rfl rfl ?_
      refine zg_iconst (v := nI 1) dX3_position_12 (by decide) ?_
      refine zg_mu (zrow_self mu2 (m + 1)).symm ?_
      refine zg_callVi (cm_of hS mu2 (mu2 (m + 1)) (p := j) (w := 1) (by omega)) dX3_position_13 cvX3_of mlX3_69 rfl (by assumption) (by assumption) rfl (Nat.le_of_ble_eq_true rfl) ⟨by decide, by decide⟩ ⟨Nat.le_refl _, Nat.le_refl _⟩ (fun r mu3 h3 => ?_)
      obtain ⟨rfl, rfl⟩ := h3
      first | with_reducible refine zg_imulN dX3_position_16 ?_ | refine zg_imul dX3_position_16 ?_
      refine zg_aload_n (i := 0) dX3_position_17 rfl rfl ?_
      refine zg_iload_n (i := 1) dX3_position_18 rfl rfl ?_
      refine zg_iconst (v := nI 0) dX3_position_19 (by decide) ?_
      refine zg_callVi (cm_of hS mu2 (mu2 (m + 1)) (p := j) (w := 0) (by omega)) dX3_position_20 cvX3_of mlX3_69 rfl (by assumption) (by assumption) rfl (Nat.le_of_ble_eq_true rfl) ⟨by decide, by decide⟩ ⟨Nat.le_refl _, Nat.le_refl _⟩ (fun r mu3 h3 => ?_)
      obtain ⟨rfl, rfl⟩ := h3
      first | with_reducible refine zg_iaddN dX3_position_23 ?_ | refine zg_iadd dX3_position_23 ?_
      refine zg_goto (tgt := 28) dX3_position_24 (by decide) ?_
      exact zg_iret dX3_position_28 rfl ⟨_, rfl, rfl, ⟨zrow_self _ _, by rw [atN_in hj (by omega)]; rfl⟩⟩
  · rw [if_neg hq]
    first | with_reducible refine zg_ifN_eq (tgt := 27) dX3_position_5 (by decide) (by omega) (fun c => ?_) (fun c => ?_) | refine zg_if_eq (tgt := 27) dX3_position_5 (by decide) (fun c => ?_) (fun c => ?_)
    · refine zg_iconst (v := -1) dX3_position_27 (by decide) ?_
      exact zg_iret dX3_position_28 rfl ⟨_, rfl, rfl, ⟨rfl, by rw [atN_no hq]⟩⟩
    · exact absurd rfl c
set_option maxRecDepth 20000 in
theorem cm_undoDepth {S : zS} {m : Nat} (hS : MS S m) (mu : zU) : zM yX3_undoDepth cX3_undoDepth 1 (some .int) 0 0 0 [.inr (m + 1)] S mu (zPi S (fun r mu2 => mu2 = mu ∧ r = mu m 5)) := by
  have hN0 : m < S.1 := hS.lt (i := 0) (by decide)
  have k0 := hS.1.2.1
  refine zM.ofG (by decide +kernel) (Nat.le_of_ble_eq_true rfl) ?_
  refine zg_aload_n (i := 0) dX3_undoDepth_0 rfl rfl ?_
  first | with_reducible refine zg_getIR dX3_undoDepth_1 flX3_48 (by decide) (by assumption) (by assumption) (by omega) ?_ | refine zg_getI dX3_undoDepth_1 flX3_48 (by decide) (by assumption) (by assumption) ?_
  exact zg_iret dX3_undoDepth_4 rfl ⟨_, rfl, rfl, ⟨rfl, rfl⟩⟩
set_option maxRecDepth 20000 in
theorem cm_cellAt {S : zS} {m : Nat} (hS : MS S m) (mu : zU) (x y : Int32) : zM yX3_cellAt cX3_cellAt 3 (some .int) 2 0 0 [.inr (m + 1), .inl x, .inl y] S mu (zPi S (fun r mu2 => mu2 = mu ∧ r = atC x y (fun j => mu (m + 1) (72 + j)) (-1))) := by
  have hN0 : m < S.1 := hS.lt (i := 0) (by decide)
  have hN1 : m + 1 < S.1 := hS.lt (by decide)
  obtain ⟨⟨-, k0, k1, -⟩, r0, -⟩ := id hS
  refine zM.ofG (by decide +kernel) (Nat.le_of_ble_eq_true rfl) ?_
  refine zg_iload_n (i := 1) dX3_cellAt_0 rfl rfl ?_
  refine zg_iload_n (i := 2) dX3_cellAt_1 rfl rfl ?_
  refine zg_callSi (cm_isCell S mu x y) dX3_cellAt_2 ctX3_isCell mlX3_65 rfl rfl (Nat.le_of_ble_eq_true rfl) ⟨by decide, by decide⟩ ⟨Nat.le_refl _, Nat.le_refl _⟩ (fun r mu2 h2 => ?_)
  obtain ⟨rfl, rfl⟩ := h2
  rcases atC_cs x y with ⟨cx, cy, hx, hy, rfl, rfl⟩ | ⟨h1, h2⟩
  · rw [if_pos (cellC hx hy)]
    first | with_reducible refine zg_ifN_eq (tgt := 25) dX3_cellAt_5 (by decide) (by omega) (fun c => ?_) (fun c => ?_) | refine zg_if_eq (tgt := 25) dX3_cellAt_5 (by decide) (fun c => ?_) (fun c => ?_)
    · exact absurd c (by decide)
    · refine zg_aload_n (i := 0) dX3_cellAt_8 rfl rfl ?_
      refine zg_getR dX3_cellAt_9 flX3_7 (by decide) (by assumption) (by assumption) (by assumption) ?_
      refine zg_bipush (v := nI 72) dX3_cellAt_12 (by decide) ?_
      refine zg_bipush (v := nI 12) dX3_cellAt_14 (by decide) ?_
      refine zg_iload_n (i := 2) dX3_cellAt_16 rfl rfl ?_
      first | with_reducible refine zg_imulN dX3_cellAt_17 ?_ | refine zg_imul dX3_cellAt_17 ?_
      first | with_reducible refine zg_iaddN dX3_cellAt_18 ?_ | refine zg_iadd dX3_cellAt_18 ?_
      refine zg_iload_n (i := 1) dX3_cellAt_19 rfl rfl ?_
      first | with_reducible refine zg_iaddN dX3_cellAt_20 ?_ | refine zg_iadd dX3_cellAt_20 ?_
      first | with_reducible refine zg_ialdR dX3_cellAt_21 (by assumption) (by assumption) rfl (by omega) (by decide) ?_ | refine zg_iald dX3_cellAt_21 (by assumption) (by assumption) rfl (by omega) (by decide) ?_
      refine zg_goto (tgt := 26) dX3_cellAt_22 (by decide) ?_
      exact zg_iret dX3_cellAt_26 rfl ⟨_, rfl, rfl, ⟨rfl, by rw [atC_in hx hy, Nat.add_assoc]⟩⟩
  · rw [if_neg h1]
    first | with_reducible refine zg_ifN_eq (tgt := 25) dX3_cellAt_5 (by decide) (by omega) (fun c => ?_) (fun c => ?_) | refine zg_if_eq (tgt := 25) dX3_cellAt_5 (by decide) (fun c => ?_) (fun c => ?_)
    · refine zg_iconst (v := -1) dX3_cellAt_25 (by decide) ?_
      exact zg_iret dX3_cellAt_26 rfl ⟨_, rfl, rfl, ⟨rfl, by rw [h2]⟩⟩
    · exact absurd rfl c
set_option maxRecDepth 20000 in
theorem cm_outputAt {S : zS} {m : Nat} (hS : MS S m) (mu : zU) {n : Nat} (hv : mu (m + 1) 267 = nI n) (h20 : n ≤ 20) (q : Int32) : zM yX3_outputAt cX3_outputAt 2 (some .int) 1 0 0 [.inr (m + 1), .inl q] S mu (zPi S (fun r mu2 => mu2 = mu ∧ r = atN q n (fun j => mu (m + 1) (268 + j)) 0)) := by
  have hN0 : m < S.1 := hS.lt (i := 0) (by decide)
  have hN1 : m + 1 < S.1 := hS.lt (by decide)
  obtain ⟨⟨-, k0, k1, -⟩, r0, -⟩ := id hS
  refine zM.ofG (by decide +kernel) (Nat.le_of_ble_eq_true rfl) ?_
  refine zg_iload_n (i := 1) dX3_outputAt_0 rfl rfl ?_
  refine zg_iconst (v := nI 0) dX3_outputAt_1 (by decide) ?_
  refine zg_aload_n (i := 0) dX3_outputAt_2 rfl rfl ?_
  refine zg_getR dX3_outputAt_3 flX3_7 (by decide) (by assumption) (by assumption) (by assumption) ?_
  refine zg_sipush (v := nI 267) dX3_outputAt_6 (by decide) ?_
  first | with_reducible refine zg_ialdR dX3_outputAt_9 (by assumption) (by assumption) rfl (by omega) (by decide) ?_ | refine zg_iald dX3_outputAt_9 (by assumption) (by assumption) rfl (by omega) (by decide) ?_
  refine zg_val hv ?_
  refine zg_iconst (v := nI 1) dX3_outputAt_10 (by decide) ?_
  refine zg_isub dX3_outputAt_11 ?_
  refine zg_callSi (cm_in S mu q (nI 0) (nI n - nI 1)) dX3_outputAt_12 ctX3_in mlX3_44 rfl rfl (Nat.le_of_ble_eq_true rfl) ⟨by decide, by decide⟩ ⟨Nat.le_refl _, Nat.le_refl _⟩ (fun r mu2 h2 => ?_)
  obtain ⟨rfl, rfl⟩ := h2
  by_cases hq : 0 ≤ q ∧ q < nI n
  · rw [if_pos ((in_lt q (by omega)).mpr hq)]
    obtain ⟨j, hj, rfl⟩ := atN_ix (by omega) hq
    first | with_reducible refine zg_ifN_eq (tgt := 31) dX3_outputAt_15 (by decide) (by omega) (fun c => ?_) (fun c => ?_) | refine zg_if_eq (tgt := 31) dX3_outputAt_15 (by decide) (fun c => ?_) (fun c => ?_)
    · exact absurd c (by decide)
    · refine zg_aload_n (i := 0) dX3_outputAt_18 rfl rfl ?_
      refine zg_getR dX3_outputAt_19 flX3_7 (by decide) (by assumption) (by assumption) (by assumption) ?_
      refine zg_sipush (v := nI 268) dX3_outputAt_22 (by decide) ?_
      refine zg_iload_n (i := 1) dX3_outputAt_25 rfl rfl ?_
      first | with_reducible refine zg_iaddN dX3_outputAt_26 ?_ | refine zg_iadd dX3_outputAt_26 ?_
      first | with_reducible refine zg_ialdR dX3_outputAt_27 (by assumption) (by assumption) rfl (by omega) (by decide) ?_ | refine zg_iald dX3_outputAt_27 (by assumption) (by assumption) rfl (by omega) (by decide) ?_
      refine zg_goto (tgt := 32) dX3_outputAt_28 (by decide) ?_
      exact zg_iret dX3_outputAt_32 rfl ⟨_, rfl, rfl, ⟨rfl, by rw [atN_in hj (by omega)]⟩⟩
  · rw [if_neg (fun z => hq ((in_lt q (by omega)).mp z))]
    first | with_reducible refine zg_ifN_eq (tgt := 31) dX3_outputAt_15 (by decide) (by omega) (fun c => ?_) (fun c => ?_) | refine zg_if_eq (tgt := 31) dX3_outputAt_15 (by decide) (fun c => ?_) (fun c => ?_)
    · refine zg_iconst (v := nI 0) dX3_outputAt_31 (by decide) ?_
      exact zg_iret dX3_outputAt_32 rfl ⟨_, rfl, rfl, ⟨rfl, by rw [atN_no hq]; rfl⟩⟩
    · exact absurd rfl c
set_option maxRecDepth 20000 in
theorem cm_isStack {S : zS} {m : Nat} (hS : MS S m) (mu : zU) {cn : Nat} (hv : mu (m + 1) 145 = nI cn) (h1 : 1 ≤ cn) (h4 : cn ≤ 4) (q : Int32) (s : Int32) (hns : ∀ j, j < cn → ∃ ns, 1 ≤ ns ∧ ns ≤ 3 ∧ mu (m + 1) (150 + 25 * j + 5) = nI ns) : zM yX3_isStack cX3_isStack 3 (some .boolean) 2 0 0 [.inr (m + 1), .inl q, .inl s] S mu (zPi S (fun r mu2 => mu2 = mu ∧ ((r = nI 0 ∧ ¬ (∃ j ns t, j < cn ∧ q = nI j ∧ mu (m + 1) (150 + 25 * j + 5) = nI ns ∧ ns ≤ 3 ∧ t < ns ∧ s = nI t)) ∨ (r = nI 1 ∧ ∃ j ns t, j < cn ∧ q = nI j ∧ mu (m + 1) (150 + 25 * j + 5) = nI ns ∧ ns ≤ 3 ∧ t < ns ∧ s = nI t)))) := by
  have hN0 : m < S.1 := hS.lt (i := 0) (by decide)
  have hN1 : m + 1 < S.1 := hS.lt (by decide)
  obtain ⟨⟨-, k0, k1, -⟩, r0, -⟩ := id hS
  refine zM.ofG (by decide +kernel) (Nat.le_of_ble_eq_true rfl) ?_
  refine zg_aload_n (i := 0) dX3_isStack_0 rfl rfl ?_
  refine zg_iload_n (i := 1) dX3_isStack_1 rfl rfl ?_
  refine zg_callVi (cm_isPointer hS mu hv h1 h4 q) dX3_isStack_2 cvX3_isPointer mlX3_182 rfl (by assumption) (by assumption) rfl (Nat.le_of_ble_eq_true rfl) ⟨by decide, by decide⟩ ⟨Nat.le_refl _, Nat.le_refl _⟩ (fun r mu2 h2 => ?_)
  obtain ⟨rfl, rfl⟩ := h2
  by_cases hq : 0 ≤ q ∧ q < nI cn
  · rw [if_pos hq]
    obtain ⟨j, hj, rfl⟩ := atN_ix (by omega) hq
    obtain ⟨ns, hn1, hn3, hn⟩ := hns j hj
    first | with_reducible refine zg_ifN_eq (tgt := 28) dX3_isStack_5 (by decide) (by omega) (fun c => ?_) (fun c => ?_) | refine zg_if_eq (tgt := 28) dX3_isStack_5 (by decide) (fun c => ?_) (fun c => ?_)
    · exact absurd c (by decide)
    · refine zg_iload_n (i := 2) dX3_isStack_8 rfl rfl ?_
      refine zg_iconst (v := nI 0) dX3_isStack_9 (by decide) ?_
      refine zg_aload_n (i := 0) dX3_isStack_10 rfl rfl ?_
      refine zg_iload_n (i := 1) dX3_isStack_11 rfl rfl ?_
      refine zg_iconst (v := nI 5) dX3_isStack_12 (by decide) ?_
      refine zg_mu (zrow_self mu2 (m + 1)).symm ?_
      refine zg_callVi (cm_of hS mu2 (mu2 (m + 1)) (p := j) (w := 5) (by omega)) dX3_isStack_13 cvX3_of mlX3_69 rfl (by assumption) (by assumption) rfl (Nat.le_of_ble_eq_true rfl) ⟨by decide, by decide⟩ ⟨Nat.le_refl _, Nat.le_refl _⟩ (fun r mu3 h3 => ?_)
      obtain ⟨rfl, rfl⟩ := h3
      refine zg_val hn ?_
      refine zg_iconst (v := nI 1) dX3_isStack_16 (by decide) ?_
      first | with_reducible refine zg_isubN dX3_isStack_17 (by omega) ?_ | refine zg_isub dX3_isStack_17 ?_
      refine zg_callSi (cm_in S _ s (nI 0) (nI (ns - 1))) dX3_isStack_18 ctX3_in mlX3_44 rfl rfl (Nat.le_of_ble_eq_true rfl) ⟨by decide, by decide⟩ ⟨Nat.le_refl _, Nat.le_refl _⟩ (fun r mu4 h4 => ?_)
      obtain ⟨rfl, rfl⟩ := h4
      simp only [in_lt1 s (show ns < 2 ^ 31 by omega) hn1]
      by_cases hs : 0 ≤ s ∧ s < nI ns
      · rw [if_pos hs]
        obtain ⟨t, ht, rfl⟩ := atN_ix (by omega) hs
        first | with_reducible refine zg_ifN_eq (tgt := 28) dX3_isStack_21 (by decide) (by omega) (fun c2 => ?_) (fun c2 => ?_) | refine zg_if_eq (tgt := 28) dX3_isStack_21 (by decide) (fun c2 => ?_) (fun c2 => ?_)
        · exact absurd c2 (by decide)
        · refine zg_iconst (v := nI 1) dX3_isStack_24 (by decide) ?_
          refine zg_goto (tgt := 29) dX3_isStack_25 (by decide) ?_
          exact zg_zret dX3_isStack_29 rfl (by first | assumption | (left; rfl) | (right; rfl) | (simp; done)) ⟨_, rfl, rfl, ⟨zrow_self _ _, Or.inr ⟨rfl, j, ns, t, hj, rfl, hn, hn3, ht, rfl⟩⟩⟩
      · rw [if_neg hs]
        first | with_reducible refine zg_ifN_eq (tgt := 28) dX3_isStack_21 (by decide) (by omega) (fun c2 => ?_) (fun c2 => ?_) | refine zg_if_eq (tgt := 28) dX3_isStack_21 (by decide) (fun c2 => ?_) (fun c2 => ?_)
        · refine zg_iconst (v := nI 0) dX3_isStack_28 (by decide) ?_
          refine zg_zret dX3_isStack_29 rfl (Or.inl rfl) ⟨_, rfl, rfl, zrow_self _ _, Or.inl ⟨rfl, ?_⟩⟩
          rintro ⟨j', ns', t, w1, w2, w3, w4, w5, w6⟩
          rw [nI_eq (by omega) (by omega)] at w2
          subst w2
          rw [hn, nI_eq (by omega) (by omega)] at w3
          subst w3
          exact hs (by rw [w6]; exact ⟨nI_pos' (by omega), nI_lt w5 (by omega)⟩)
        · exact absurd rfl c2
  · rw [if_neg hq]
    first | with_reducible refine zg_ifN_eq (tgt := 28) dX3_isStack_5 (by decide) (by omega) (fun c => ?_) (fun c => ?_) | refine zg_if_eq (tgt := 28) dX3_isStack_5 (by decide) (fun c => ?_) (fun c => ?_)
    · refine zg_iconst (v := nI 0) dX3_isStack_28 (by decide) ?_
      refine zg_zret dX3_isStack_29 rfl (Or.inl rfl) ⟨_, rfl, rfl, rfl, Or.inl ⟨rfl, ?_⟩⟩
      rintro ⟨j', ns', t, w1, w2, -⟩
      exact hq (by rw [w2]; exact ⟨nI_pos' (by omega), nI_lt w1 (by omega)⟩)
    · exact absurd rfl c
