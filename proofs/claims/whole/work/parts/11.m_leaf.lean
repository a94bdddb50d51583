/-! THE REFERENCE's leaves -/
theorem n0 : nI 0 = (0 : Int32) := rfl
theorem n1 : nI 1 = (1 : Int32) := rfl
def PIsc (ns s0 s1 s2 : Nat) : Nat := if ns = 1 then s0 else if ns = 2 then s1 else s2
theorem PI.cur {v : Nat → Int32} {o x y dr ss sl ns s0 s1 s2 : Nat} (h : PI v o x y dr ss sl ns s0 s1 s2) : v (o + 5 + ns) = nI (PIsc ns s0 s1 s2) ∧ qcur v o = o + 5 + ns ∧ qheld v o = s0 + s1 + s2 ∧ PIsc ns s0 s1 s2 ≤ s0 + s1 + s2 := by
  obtain ⟨-, -, -, -, -, h5, h6, h7, h8, ⟨-, -, -, -, -, a1, a2, a3, -, -⟩, -⟩ := h
  refine ⟨?_, by rw [qcur, zn_of h5 (by omega)], by rw [qheld, zn_of h6 (by omega), zn_of h7 (by omega), zn_of h8 (by omega)], ?_⟩
  · rcases (show ns = 1 ∨ ns = 2 ∨ ns = 3 by omega) with rfl | rfl | rfl
    · exact h6
    · exact h7
    · exact h8
  · unfold PIsc
    repeat' split
    all_goals omega
set_option maxRecDepth 20000 in
theorem cm_in (S : zS) (mu : zU) (a b c : Int32) : zM yX3_in cX3_in 3 (some .boolean) 0 0 0 [.inl a, .inl b, .inl c] S mu (zPi S (fun r mu2 => mu2 = mu ∧ r = if b ≤ a ∧ a ≤ c then nI 1 else nI 0)) := by
  refine zM.ofG (by decide +kernel) (Nat.le_of_ble_eq_true rfl) ?_
  show zG RX3 "in" cX3_in 3 (some .boolean) (zroom 0 0 0) 0 0 _ 0 [some (.inl a), some (.inl b), some (.inl c)] [] S mu 0 0
  refine zg_iload_n (i := 0) dX3_in_0 rfl rfl ?_
  refine zg_iload_n (i := 1) dX3_in_1 rfl rfl ?_
  refine zg_icmp_lt (tgt := 14) dX3_in_2 (by decide) (fun h1 => ?_) (fun h1 => ?_)
  · refine zg_iconst (v := nI 0) dX3_in_14 (by decide) ?_
    exact zg_zret dX3_in_15 rfl (by first | assumption | (left; rfl) | (right; rfl) | (simp; done)) ⟨_, rfl, rfl, ⟨rfl, by rw [if_neg (fun z => Int32.not_le.mpr h1 z.1)]⟩⟩
  · refine zg_iload_n (i := 0) dX3_in_5 rfl rfl ?_
    refine zg_iload_n (i := 2) dX3_in_6 rfl rfl ?_
    refine zg_icmp_gt (tgt := 14) dX3_in_7 (by decide) (fun h2 => ?_) (fun h2 => ?_)
    · refine zg_iconst (v := nI 0) dX3_in_14 (by decide) ?_
      exact zg_zret dX3_in_15 rfl (by first | assumption | (left; rfl) | (right; rfl) | (simp; done)) ⟨_, rfl, rfl, ⟨rfl, by rw [if_neg (fun z => Int32.not_le.mpr h2 z.2)]⟩⟩
    · refine zg_iconst (v := nI 1) dX3_in_10 (by decide) ?_
      refine zg_goto (tgt := 15) dX3_in_11 (by decide) ?_
      exact zg_zret dX3_in_15 rfl (by first | assumption | (left; rfl) | (right; rfl) | (simp; done)) ⟨_, rfl, rfl, ⟨rfl, by rw [if_pos ⟨Int32.not_lt.mp h1, Int32.not_lt.mp h2⟩]⟩⟩
set_option maxRecDepth 20000 in
theorem cm_isCell (S : zS) (mu : zU) (x y : Int32) : zM yX3_isCell cX3_isCell 2 (some .boolean) 1 0 0 [.inl x, .inl y] S mu (zPi S (fun r mu2 => mu2 = mu ∧ r = if (nI 0 ≤ x ∧ x ≤ nI 11) ∧ nI 0 ≤ y ∧ y ≤ nI 5 then nI 1 else nI 0)) := by
  refine zM.ofG (by decide +kernel) (Nat.le_of_ble_eq_true rfl) ?_
  show zG RX3 "isCell" cX3_isCell 2 (some .boolean) (zroom 1 0 0) 0 0 _ 0 [some (.inl x), some (.inl y)] [] S mu 0 0
  refine zg_iload_n (i := 0) dX3_isCell_0 rfl rfl ?_
  refine zg_iconst (v := nI 0) dX3_isCell_1 (by decide) ?_
  refine zg_bipush (v := nI 11) dX3_isCell_2 (by decide) ?_
  refine zg_callSi (cm_in S mu x (nI 0) (nI 11)) dX3_isCell_4 ctX3_in mlX3_44 rfl rfl (Nat.le_of_ble_eq_true rfl) ⟨by decide, by decide⟩ ⟨Nat.le_refl _, Nat.le_refl _⟩ (fun r mu2 h2 => ?_)
  obtain ⟨rfl, rfl⟩ := h2
  by_cases hx : nI 0 ≤ x ∧ x ≤ nI 11
  · rw [if_pos hx]
    first | with_reducible refine zg_ifN_eq (tgt := 23) dX3_isCell_7 (by decide) (by omega) (fun c => ?_) (fun c => ?_) | refine zg_if_eq (tgt := 23) dX3_isCell_7 (by decide) (fun c => ?_) (fun c => ?_)
    · exact absurd c (by decide)
    · refine zg_iload_n (i := 1) dX3_isCell_10 rfl rfl ?_
      refine zg_iconst (v := nI 0) dX3_isCell_11 (by decide) ?_
      refine zg_iconst (v := nI 5) dX3_isCell_12 (by decide) ?_
      refine zg_callSi (cm_in S mu2 y (nI 0) (nI 5)) dX3_isCell_13 ctX3_in mlX3_44 rfl rfl (Nat.le_of_ble_eq_true rfl) ⟨by decide, by decide⟩ ⟨Nat.le_refl _, Nat.le_refl _⟩ (fun r mu2 h2 => ?_)
      obtain ⟨rfl, rfl⟩ := h2
      by_cases hy : nI 0 ≤ y ∧ y ≤ nI 5
      · rw [if_pos hy]
        first | with_reducible refine zg_ifN_eq (tgt := 23) dX3_isCell_16 (by decide) (by omega) (fun c => ?_) (fun c => ?_) | refine zg_if_eq (tgt := 23) dX3_isCell_16 (by decide) (fun c => ?_) (fun c => ?_)
        · exact absurd c (by decide)
        · refine zg_iconst (v := nI 1) dX3_isCell_19 (by decide) ?_
          refine zg_goto (tgt := 24) dX3_isCell_20 (by decide) ?_
          exact zg_zret dX3_isCell_24 rfl (by first | assumption | (left; rfl) | (right; rfl) | (simp; done)) ⟨_, rfl, rfl, ⟨rfl, by rw [if_pos ⟨hx, hy⟩]⟩⟩
      · rw [if_neg hy]
        first | with_reducible refine zg_ifN_eq (tgt := 23) dX3_isCell_16 (by decide) (by omega) (fun c => ?_) (fun c => ?_) | refine zg_if_eq (tgt := 23) dX3_isCell_16 (by decide) (fun c => ?_) (fun c => ?_)
        · refine zg_iconst (v := nI 0) dX3_isCell_23 (by decide) ?_
          exact zg_zret dX3_isCell_24 rfl (by first | assumption | (left; rfl) | (right; rfl) | (simp; done)) ⟨_, rfl, rfl, ⟨rfl, by rw [if_neg (fun z => hy z.2)]⟩⟩
        · exact absurd rfl c
  · rw [if_neg hx]
    first | with_reducible refine zg_ifN_eq (tgt := 23) dX3_isCell_7 (by decide) (by omega) (fun c => ?_) (fun c => ?_) | refine zg_if_eq (tgt := 23) dX3_isCell_7 (by decide) (fun c => ?_) (fun c => ?_)
    · refine zg_iconst (v := nI 0) dX3_isCell_23 (by decide) ?_
      exact zg_zret dX3_isCell_24 rfl (by first | assumption | (left; rfl) | (right; rfl) | (simp; done)) ⟨_, rfl, rfl, ⟨rfl, by rw [if_neg (fun z => hx z.1)]⟩⟩
    · exact absurd rfl c
set_option maxRecDepth 20000 in
theorem cm_of {S : zS} {m : Nat} (hS : MS S m) (mu : zU) (v : Nat → Int32) {p w : Nat} (h : 150 + 25 * p + w < 289) : zM yX3_of cX3_of 3 (some .int) 0 0 0 [.inr (m + 1), .inl (nI p), .inl (nI w)] S (zrow mu (m + 1) v) (zPi S (fun r mu2 => mu2 = zrow mu (m + 1) v ∧ r = v (150 + 25 * p + w))) := by
  obtain ⟨⟨hN, k0, k1, -⟩, r0, -⟩ := hS
  have hN0 : m < S.1 := by omega
  have hN1 : m + 1 < S.1 := by omega
  refine zM.ofG (by decide +kernel) (Nat.le_of_ble_eq_true rfl) ?_
  refine zg_aload_n (i := 0) dX3_of_0 rfl rfl ?_
  refine zg_getR dX3_of_1 flX3_7 (by decide) (by assumption) (by assumption) (by assumption) ?_
  refine zg_sipush (v := nI 150) dX3_of_4 (by decide) ?_
  refine zg_bipush (v := nI 25) dX3_of_7 (by decide) ?_
  refine zg_iload_n (i := 1) dX3_of_9 rfl rfl ?_
  first | with_reducible refine zg_imulN dX3_of_10 ?_ | refine zg_imul dX3_of_10 ?_
  first | with_reducible refine zg_iaddN dX3_of_11 ?_ | refine zg_iadd dX3_of_11 ?_
  refine zg_iload_n (i := 2) dX3_of_12 rfl rfl ?_
  first | with_reducible refine zg_iaddN dX3_of_13 ?_ | refine zg_iadd dX3_of_13 ?_
  first | with_reducible refine zg_ialdR dX3_of_14 (by assumption) (by assumption) rfl (by omega) (by decide) ?_ | refine zg_iald dX3_of_14 (by assumption) (by assumption) rfl (by omega) (by decide) ?_
  exact zg_iret dX3_of_15 rfl ⟨_, rfl, rfl, ⟨rfl, rfl⟩⟩
set_option maxRecDepth 20000 in
theorem cm_put {S : zS} {m : Nat} (hS : MS S m) (mu : zU) (v : Nat → Int32) {p w : Nat} (h : 150 + 25 * p + w < 289) (x : Int32) : zM yX3_put cX3_put 4 none 0 0 0 [.inr (m + 1), .inl (nI p), .inl (nI w), .inl x] S (zrow mu (m + 1) v) (zPv S (fun mu2 => mu2 = zrow mu (m + 1) (upd v (150 + 25 * p + w) x))) := by
  obtain ⟨⟨hN, k0, k1, -⟩, r0, -⟩ := hS
  have hN0 : m < S.1 := by omega
  have hN1 : m + 1 < S.1 := by omega
  refine zM.ofG (by decide +kernel) (Nat.le_of_ble_eq_true rfl) ?_
  refine zg_aload_n (i := 0) dX3_put_0 rfl rfl ?_
  refine zg_getR dX3_put_1 flX3_7 (by decide) (by assumption) (by assumption) (by assumption) ?_
  refine zg_sipush (v := nI 150) dX3_put_4 (by decide) ?_
  refine zg_bipush (v := nI 25) dX3_put_7 (by decide) ?_
  refine zg_iload_n (i := 1) dX3_put_9 rfl rfl ?_
  first | with_reducible refine zg_imulN dX3_put_10 ?_ | refine zg_imul dX3_put_10 ?_
  first | with_reducible refine zg_iaddN dX3_put_11 ?_ | refine zg_iadd dX3_put_11 ?_
  refine zg_iload_n (i := 2) dX3_put_12 rfl rfl ?_
  first | with_reducible refine zg_iaddN dX3_put_13 ?_ | refine zg_iadd dX3_put_13 ?_
  refine zg_iload_n (i := 3) dX3_put_14 rfl rfl ?_
  first | with_reducible refine zg_iastR dX3_put_15 (by assumption) (by assumption) rfl (by omega) (by decide) ?_ | refine zg_iast dX3_put_15 (by assumption) (by assumption) rfl (by omega) (by decide) ?_
  exact zg_vret dX3_put_16 rfl ⟨rfl, rfl, rfl⟩
