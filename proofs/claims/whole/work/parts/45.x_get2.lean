/-! THE CLASS: reads of stacks -/
set_option maxRecDepth 20000 in
theorem lx_sbg4 {S : zS} {k : Nat} (hS : PS S k) {mu : zU} {v : Nat → Int32} {b t : Nat} (ht : t ≤ 3) (hsz : ∀ i, i < t → mu (k + 2) i = nI (zn v (b + 6 + i))) (Ph : Option zV → zS → zU → Prop) (hx : Ph (some (.inl (nI (qoff v b t)))) S mu) :
    ∀ (d i : Nat), i + d = t → zG RX0 "stackBegin" cX0_stackBegin 4 (some .int) (zroom 0 0 0) 0 0 Ph 4 [some (.inr (k + 1)), some (.inl (nI t)), some (.inl (nI (qoff v b i))), some (.inl (nI i))] [] S (mu) 0 0 := by
  obtain ⟨hN2, k0, k1, kk2, r5, r7⟩ := hS
  have hN0 : k < S.1 := by omega
  intro d
  induction d with
  | zero =>
    intro i hit
    obtain rfl : i = t := by omega
    refine zg_iload_n (i := 3) dX0_stackBegin_4 rfl rfl ?_
    refine zg_iload_n (i := 1) dX0_stackBegin_5 rfl rfl ?_
    first | with_reducible refine zg_icmpN_ge (tgt := 24) dX0_stackBegin_6 (by decide) (by omega) (by omega) (fun c => ?_) (fun c => ?_) | refine zg_icmp_ge (tgt := 24) dX0_stackBegin_6 (by decide) (fun c => ?_) (fun c => ?_)
    · refine zg_iload_n (i := 2) dX0_stackBegin_24 rfl rfl ?_
      exact zg_iret dX0_stackBegin_25 rfl hx
    · omega
  | succ d ih =>
    intro i hit
    have ihn := ih (i + 1) (by omega)
    rw [qoff] at ihn
    refine zg_iload_n (i := 3) dX0_stackBegin_4 rfl rfl ?_
    refine zg_iload_n (i := 1) dX0_stackBegin_5 rfl rfl ?_
    first | with_reducible refine zg_icmpN_ge (tgt := 24) dX0_stackBegin_6 (by decide) (by omega) (by omega) (fun c => ?_) (fun c => ?_) | refine zg_icmp_ge (tgt := 24) dX0_stackBegin_6 (by decide) (fun c => ?_) (fun c => ?_)
    · omega
    · refine zg_iload_n (i := 2) dX0_stackBegin_9 rfl rfl ?_
      refine zg_aload_n (i := 0) dX0_stackBegin_10 rfl rfl ?_
      refine zg_getR dX0_stackBegin_11 flX0_15 (by decide) (by assumption) (by assumption) (by assumption) ?_
      refine zg_iload_n (i := 3) dX0_stackBegin_14 rfl rfl ?_
      first | with_reducible refine zg_ialdR dX0_stackBegin_15 (by assumption) (by assumption) rfl (by omega) (by decide) ?_ | refine zg_iald dX0_stackBegin_15 (by assumption) (by assumption) rfl (by omega) (by decide) ?_
      refine zg_val (hsz i (by omega)) ?_
      first | with_reducible refine zg_iaddN dX0_stackBegin_16 ?_ | refine zg_iadd dX0_stackBegin_16 ?_
      refine zg_istore_n (i := 2) (L2 := [_, _, _, _]) dX0_stackBegin_17 rfl (by decide) rfl ?_
      refine zg_iinc1 (L2 := [_, _, _, _]) dX0_stackBegin_18 (by decide) rfl rfl ?_
      refine zg_goto (tgt := 4) dX0_stackBegin_21 (by decide) ?_
      exact ihn
set_option maxRecDepth 20000 in
theorem cx_stackBegin {S : zS} {k : Nat} (hS : PS S k) {mu : zU} {v : Nat → Int32} {b t : Nat} (ht : t ≤ 3) (hsz : ∀ i, i < t → mu (k + 2) i = nI (zn v (b + 6 + i))) : zM yX0_stackBegin cX0_stackBegin 4 (some .int) 0 0 0 [.inr (k + 1), .inl (nI t)] S mu (zPi S (fun r mu2 => mu2 = mu ∧ r = nI (qoff v b t))) := by
  refine zM.ofG (by decide +kernel) (Nat.le_of_ble_eq_true rfl) ?_
  refine zg_iconst (v := nI 0) dX0_stackBegin_0 (by decide) ?_
  refine zg_istore_n (i := 2) (L2 := [_, _, _, _]) dX0_stackBegin_1 rfl (by decide) rfl ?_
  refine zg_iconst (v := nI 0) dX0_stackBegin_2 (by decide) ?_
  refine zg_istore_n (i := 3) (L2 := [_, _, _, _]) dX0_stackBegin_3 rfl (by decide) rfl ?_
  exact lx_sbg4 hS ht hsz _ ⟨_, rfl, rfl, rfl, rfl⟩ t 0 (by omega)
set_option maxRecDepth 20000 in
theorem cx_isStack {S : zS} {x : Nat} {pm : Nat → Nat} (hS : XS S x pm) {mu : zU} {v : Nat → Int32} {ol : List Nat} (hX : SX mu (x + 3) v ol) (q s : Int32) : zM yX2_isStack cX2_isStack 3 (some .boolean) 1 0 0 [.inr (x + 1), .inl q, .inl s] S mu (zPi S (fun r mu2 => mu2 = mu ∧ ((r = nI 0 ∧ ¬ (∃ j t, j < ol.length ∧ q = nI j ∧ t < zn v (150 + 25 * j + 5) ∧ s = nI t)) ∨ (r = nI 1 ∧ ∃ j t, j < ol.length ∧ q = nI j ∧ t < zn v (150 + 25 * j + 5) ∧ s = nI t)))) := by
  have hN0 : x < S.1 := hS.lt (i := 0) (by decide)
  have hNs : x + 3 < S.1 := hS.lt (by decide)
  have hNs1 : x + 3 + 1 < S.1 := hS.lt3 (by decide)
  have hNs2 : x + 3 + 2 < S.1 := hS.lt3 (by decide)
  have hNs3 : x + 3 + 3 < S.1 := hS.lt3 (by decide)
  have hNs4 : x + 3 + 4 < S.1 := hS.lt3 (by decide)
  have hNs6 : x + 3 + 6 < S.1 := hS.lt3 (by decide)
  have xk0 := hS.1.2.1
  have xr4 := hS.2.1.2.2.1
  obtain ⟨-, k0, k1, k2, k3, k4, k5, k6, r0, r1, r2, r3, r5, r7, hp⟩ := hS.2.2.1.1
  obtain ⟨h0, g1, g2, g3, g4, g5, g6, g7, g8, g9, g10, g11⟩ := id hX
  obtain ⟨⟨x145, xl1, xl4⟩, -, -, -, xp, -, -, ⟨n2, n20, xn2, -⟩⟩ := id h0
  refine zM.ofG (by decide +kernel) (Nat.le_of_ble_eq_true rfl) ?_
  refine zg_aload_n (i := 0) dX2_isStack_0 rfl rfl ?_
  refine zg_iload_n (i := 1) dX2_isStack_1 rfl rfl ?_
  refine zg_callVi (cx_isPointer hS hX q) dX2_isStack_2 cvX2_isPointer mlX2_119 rfl (by assumption) (by assumption) rfl (Nat.le_of_ble_eq_true rfl) ⟨by decide, by decide⟩ ⟨Nat.le_refl _, Nat.le_refl _⟩ (fun r mu2 h2 => ?_)
  obtain ⟨rfl, rfl⟩ := h2
  by_cases hq : 0 ≤ q ∧ q < nI ol.length
  · rw [if_pos hq]
    obtain ⟨j, hj, rfl⟩ := atN_ix (by omega) hq
    obtain ⟨rp, hPS⟩ := hp j (by omega)
    have kp0 := hPS.2.1
    have kpN : x + 3 + 7 + 3 * j < S.1 := by have := hPS.1; omega
    obtain ⟨px, py, dr, ss, sl, ns, s0, s1, s2, hP, hR⟩ := g11 j (by omega)
    obtain ⟨z5, b1, b2, b3⟩ := hP.ns
    have hz5 : zn v (150 + 25 * j + 5) = ns := zn_of hP.2.2.2.2.2.1 (by omega)
    have hno : ¬ (0 ≤ s ∧ s < nI ns) → ¬ (∃ j' t, j' < ol.length ∧ nI j = nI j' ∧ t < zn v (150 + 25 * j' + 5) ∧ s = nI t) := by
      rintro hs ⟨j', t, h1, h2, h3, rfl⟩
      obtain rfl : j = j' := (nI_eq (by omega) (by omega)).mp h2
      rw [hz5] at h3
      exact hs ⟨nI_pos' (by omega), nI_lt h3 (by omega)⟩
    first | with_reducible refine zg_ifN_eq (tgt := 32) dX2_isStack_5 (by decide) (by omega) (fun c => ?_) (fun c => ?_) | refine zg_if_eq (tgt := 32) dX2_isStack_5 (by decide) (fun c => ?_) (fun c => ?_)
    · exact absurd c (by decide)
    · refine zg_iload_n (i := 2) dX2_isStack_8 rfl rfl ?_
      refine zg_if_lt (tgt := 32) dX2_isStack_9 (by decide) (fun h1 => ?_) (fun h1 => ?_)
      · refine zg_iconst (v := nI 0) dX2_isStack_32 (by decide) ?_
        exact zg_zret dX2_isStack_33 rfl (by first | assumption | (left; rfl) | (right; rfl) | (simp; done)) ⟨_, rfl, rfl, ⟨rfl, Or.inl ⟨rfl, hno (fun z => Int32.not_lt.mpr z.1 h1)⟩⟩⟩
      · refine zg_iload_n (i := 2) dX2_isStack_12 rfl rfl ?_
        refine zg_aload_n (i := 0) dX2_isStack_13 rfl rfl ?_
        refine zg_getR dX2_isStack_14 flX2_20 (by decide) (by assumption) (by assumption) (by assumption) ?_
        refine zg_getR dX2_isStack_17 flX2_125 (by decide) (by assumption) (by assumption) (by assumption) ?_
        refine zg_iload_n (i := 1) dX2_isStack_20 rfl rfl ?_
        first | refine zg_pald dX2_isStack_21 (by assumption) (by assumption) rfl (by omega) (by decide) (by assumption) ?_ | refine zg_sald dX2_isStack_21 (by assumption) (by assumption) rfl (by omega) (by decide) (by assumption) ?_
        first | with_reducible refine zg_getIR dX2_isStack_22 flX2_143 (by decide) (by assumption) (by assumption) (by omega) ?_ | refine zg_getI dX2_isStack_22 flX2_143 (by decide) (by assumption) (by assumption) ?_
        refine zg_val (hR.2.2.2.2.2.1.trans hP.2.2.2.2.2.1) ?_
        refine zg_icmp_ge (tgt := 32) dX2_isStack_25 (by decide) (fun h2 => ?_) (fun h2 => ?_)
        · refine zg_iconst (v := nI 0) dX2_isStack_32 (by decide) ?_
          exact zg_zret dX2_isStack_33 rfl (by first | assumption | (left; rfl) | (right; rfl) | (simp; done)) ⟨_, rfl, rfl, ⟨rfl, Or.inl ⟨rfl, hno (fun z => Int32.not_lt.mpr h2 z.2)⟩⟩⟩
        · obtain ⟨t, ht, rfl⟩ := atN_ix (p := s) (n := ns) (by omega) ⟨Int32.not_lt.mp h1, Int32.not_le.mp h2⟩
          refine zg_iconst (v := nI 1) dX2_isStack_28 (by decide) ?_
          refine zg_goto (tgt := 33) dX2_isStack_29 (by decide) ?_
          exact zg_zret dX2_isStack_33 rfl (by first | assumption | (left; rfl) | (right; rfl) | (simp; done)) ⟨_, rfl, rfl, ⟨rfl, Or.inr ⟨rfl, j, t, hj, rfl, by rw [hz5]; exact ht, rfl⟩⟩⟩
  · rw [if_neg hq]
    first | with_reducible refine zg_ifN_eq (tgt := 32) dX2_isStack_5 (by decide) (by omega) (fun c => ?_) (fun c => ?_) | refine zg_if_eq (tgt := 32) dX2_isStack_5 (by decide) (fun c => ?_) (fun c => ?_)
    · refine zg_iconst (v := nI 0) dX2_isStack_32 (by decide) ?_
      refine zg_zret dX2_isStack_33 rfl (Or.inl rfl) ⟨_, rfl, rfl, rfl, Or.inl ⟨rfl, ?_⟩⟩
      rintro ⟨j', t, h1, rfl, -⟩
      exact hq ⟨nI_pos' (by omega), nI_lt h1 (by omega)⟩
    · exact absurd rfl c
theorem aSize_no {v : Nat → Int32} {cn : Nat} {q s : Int32} (hcn : cn ≤ 4) (hns : ∀ j, j < cn → zn v (150 + 25 * j + 5) ≤ 3) (h : ¬ (∃ j t, j < cn ∧ q = nI j ∧ t < zn v (150 + 25 * j + 5) ∧ s = nI t)) (F : Nat → Nat → Int32) (d : Int32) : atN q cn (fun j => atN s (zn v (150 + 25 * j + 5)) (F j) d) d = d := by
  by_cases hq : 0 ≤ q ∧ q < nI cn
  · obtain ⟨j, hj, rfl⟩ := atN_ix (by omega) hq
    rw [atN_in hj (by omega)]
    by_cases hs : 0 ≤ s ∧ s < nI (zn v (150 + 25 * j + 5))
    · have := hns j hj
      obtain ⟨t, ht, rfl⟩ := atN_ix (by omega) hs
      exact absurd ⟨j, t, hj, rfl, ht, rfl⟩ h
    · exact atN_no hs
  · exact atN_no hq
theorem VI_ns {v : Nat → Int32} {ol : List Nat} (h : VI v ol) : ∀ j, j < ol.length → zn v (150 + 25 * j + 5) ≤ 3 := by
  intro j hj
  obtain ⟨px, py, dr, ss, sl, ns, s0, s1, s2, hP⟩ := h.2.2.2.2.1 j hj
  rw [zn_of hP.2.2.2.2.2.1 (by have := hP.ns.2.2.1; omega)]
  exact hP.ns.2.2.1
set_option maxRecDepth 20000 in
theorem cx_stackSize {S : zS} {x : Nat} {pm : Nat → Nat} (hS : XS S x pm) {mu : zU} {v : Nat → Int32} {ol : List Nat} (hX : SX mu (x + 3) v ol) (q s : Int32) : zM yX2_stackSize cX2_stackSize 3 (some .int) 2 0 0 [.inr (x + 1), .inl q, .inl s] S mu (zPi S (fun r mu2 => mu2 = mu ∧ r = aSize v ol.length q s)) := by
  have hN0 : x < S.1 := hS.lt (i := 0) (by decide)
  have hNs : x + 3 < S.1 := hS.lt (by decide)
  have hNs1 : x + 3 + 1 < S.1 := hS.lt3 (by decide)
  have hNs2 : x + 3 + 2 < S.1 := hS.lt3 (by decide)
  have hNs3 : x + 3 + 3 < S.1 := hS.lt3 (by decide)
  have hNs4 : x + 3 + 4 < S.1 := hS.lt3 (by decide)
  have hNs6 : x + 3 + 6 < S.1 := hS.lt3 (by decide)
  have xk0 := hS.1.2.1
  have xr4 := hS.2.1.2.2.1
  obtain ⟨-, k0, k1, k2, k3, k4, k5, k6, r0, r1, r2, r3, r5, r7, hp⟩ := hS.2.2.1.1
  obtain ⟨h0, g1, g2, g3, g4, g5, g6, g7, g8, g9, g10, g11⟩ := id hX
  obtain ⟨⟨x145, xl1, xl4⟩, -, -, -, xp, -, -, ⟨n2, n20, xn2, -⟩⟩ := id h0
  refine zM.ofG (by decide +kernel) (Nat.le_of_ble_eq_true rfl) ?_
  refine zg_aload_n (i := 0) dX2_stackSize_0 rfl rfl ?_
  refine zg_iload_n (i := 1) dX2_stackSize_1 rfl rfl ?_
  refine zg_iload_n (i := 2) dX2_stackSize_2 rfl rfl ?_
  refine zg_callVi (cx_isStack hS hX q s) dX2_stackSize_3 cvX2_isStack mlX2_146 rfl (by assumption) (by assumption) rfl (Nat.le_of_ble_eq_true rfl) ⟨by decide, by decide⟩ ⟨Nat.le_refl _, Nat.le_refl _⟩ (fun r mu2 h2 => ?_)
  obtain ⟨rfl, h2⟩ := h2
  rcases h2 with ⟨rfl, h2⟩ | ⟨rfl, j, t, hj, rfl, ht, rfl⟩
  · first | with_reducible refine zg_ifN_eq (tgt := 26) dX2_stackSize_6 (by decide) (by omega) (fun c => ?_) (fun c => ?_) | refine zg_if_eq (tgt := 26) dX2_stackSize_6 (by decide) (fun c => ?_) (fun c => ?_)
    · refine zg_iconst (v := -1) dX2_stackSize_26 (by decide) ?_
      exact zg_iret dX2_stackSize_27 rfl ⟨_, rfl, rfl, ⟨rfl, (aSize_no xl4 (VI_ns h0) h2 _ _).symm⟩⟩
    · exact absurd rfl c
  · obtain ⟨rp, hPS⟩ := hp j (by omega)
    have kp0 := hPS.2.1
    have kp2 := hPS.2.2.2.1
    have rp7 := hPS.2.2.2.2.2
    have kpN : x + 3 + 7 + 3 * j < S.1 := by have := hPS.1; omega
    have kpN2 : x + 3 + 7 + 3 * j + 2 < S.1 := hPS.1
    obtain ⟨px, py, dr, ss, sl, ns, s0, s1, s2, hP, hR⟩ := g11 j (by omega)
    obtain ⟨z5, b1, b2, b3⟩ := hP.ns
    have hz5 : zn v (150 + 25 * j + 5) = ns := zn_of hP.2.2.2.2.2.1 (by omega)
    have ht3 : t < ns := by omega
    first | with_reducible refine zg_ifN_eq (tgt := 26) dX2_stackSize_6 (by decide) (by omega) (fun c => ?_) (fun c => ?_) | refine zg_if_eq (tgt := 26) dX2_stackSize_6 (by decide) (fun c => ?_) (fun c => ?_)
    · exact absurd c (by decide)
    · refine zg_aload_n (i := 0) dX2_stackSize_9 rfl rfl ?_
      refine zg_getR dX2_stackSize_10 flX2_20 (by decide) (by assumption) (by assumption) (by assumption) ?_
      refine zg_getR dX2_stackSize_13 flX2_125 (by decide) (by assumption) (by assumption) (by assumption) ?_
      refine zg_iload_n (i := 1) dX2_stackSize_16 rfl rfl ?_
      first | refine zg_pald dX2_stackSize_17 (by assumption) (by assumption) rfl (by omega) (by decide) (by assumption) ?_ | refine zg_sald dX2_stackSize_17 (by assumption) (by assumption) rfl (by omega) (by decide) (by assumption) ?_
      refine zg_getR dX2_stackSize_18 flX2_149 (by decide) (by assumption) (by assumption) (by assumption) ?_
      refine zg_iload_n (i := 2) dX2_stackSize_21 rfl rfl ?_
      first | with_reducible refine zg_ialdR dX2_stackSize_22 (by assumption) (by assumption) rfl (by omega) (by decide) ?_ | refine zg_iald dX2_stackSize_22 (by assumption) (by assumption) rfl (by omega) (by decide) ?_
      refine zg_goto (tgt := 27) dX2_stackSize_23 (by decide) ?_
      exact zg_iret dX2_stackSize_27 rfl ⟨_, rfl, rfl, ⟨rfl, by rw [aSize, atN_in hj (by omega), atN_in ht (by omega)]; exact hR.2.2.2.2.2.2.2.1 t ht3⟩⟩
set_option maxRecDepth 20000 in
theorem cx_valueAt {S : zS} {x : Nat} {pm : Nat → Nat} (hS : XS S x pm) {mu : zU} {v : Nat → Int32} {ol : List Nat} (hX : SX mu (x + 3) v ol) (q s e : Int32) : zM yX2_valueAt cX2_valueAt 5 (some .int) 2 0 0 [.inr (x + 1), .inl q, .inl s, .inl e] S mu (zPi S (fun r mu2 => mu2 = mu ∧ r = aValue v ol.length q s e)) := by
  have hN0 : x < S.1 := hS.lt (i := 0) (by decide)
  have hNs : x + 3 < S.1 := hS.lt (by decide)
  have hNs1 : x + 3 + 1 < S.1 := hS.lt3 (by decide)
  have hNs2 : x + 3 + 2 < S.1 := hS.lt3 (by decide)
  have hNs3 : x + 3 + 3 < S.1 := hS.lt3 (by decide)
  have hNs4 : x + 3 + 4 < S.1 := hS.lt3 (by decide)
  have hNs6 : x + 3 + 6 < S.1 := hS.lt3 (by decide)
  have xk0 := hS.1.2.1
  have xr4 := hS.2.1.2.2.1
  obtain ⟨-, k0, k1, k2, k3, k4, k5, k6, r0, r1, r2, r3, r5, r7, hp⟩ := hS.2.2.1.1
  obtain ⟨h0, g1, g2, g3, g4, g5, g6, g7, g8, g9, g10, g11⟩ := id hX
  obtain ⟨⟨x145, xl1, xl4⟩, -, -, -, xp, -, -, ⟨n2, n20, xn2, -⟩⟩ := id h0
  refine zM.ofG (by decide +kernel) (Nat.le_of_ble_eq_true rfl) ?_
  refine zg_aload_n (i := 0) dX2_valueAt_0 rfl rfl ?_
  refine zg_iload_n (i := 1) dX2_valueAt_1 rfl rfl ?_
  refine zg_iload_n (i := 2) dX2_valueAt_2 rfl rfl ?_
  refine zg_callVi (cx_isStack hS hX q s) dX2_valueAt_3 cvX2_isStack mlX2_146 rfl (by assumption) (by assumption) rfl (Nat.le_of_ble_eq_true rfl) ⟨by decide, by decide⟩ ⟨Nat.le_refl _, Nat.le_refl _⟩ (fun r mu2 h2 => ?_)
  obtain ⟨rfl, h2⟩ := h2
  rcases h2 with ⟨rfl, h2⟩ | ⟨rfl, j, t, hj, rfl, ht, rfl⟩
  · first | with_reducible refine zg_ifN_ne (tgt := 11) dX2_valueAt_6 (by decide) (by omega) (fun c => ?_) (fun c => ?_) | refine zg_if_ne (tgt := 11) dX2_valueAt_6 (by decide) (fun c => ?_) (fun c => ?_)
    · exact absurd rfl c
    · refine zg_iconst (v := nI 0) dX2_valueAt_9 (by decide) ?_
      exact zg_iret dX2_valueAt_10 rfl ⟨_, rfl, rfl, ⟨rfl, (aSize_no xl4 (VI_ns h0) h2 _ _).symm⟩⟩
  · obtain ⟨rp, hPS⟩ := hp j (by omega)
    have kp0 := hPS.2.1
    have kp1 := hPS.2.2.1
    have kp2 := hPS.2.2.2.1
    have rp5 := hPS.2.2.2.2.1
    have rp7 := hPS.2.2.2.2.2
    have kpN : x + 3 + 7 + 3 * j < S.1 := by have := hPS.1; omega
    have kpN1 : x + 3 + 7 + 3 * j + 1 < S.1 := by have := hPS.1; omega
    have kpN2 : x + 3 + 7 + 3 * j + 2 < S.1 := hPS.1
    obtain ⟨px, py, dr, ss, sl, ns, s0, s1, s2, hP, hR⟩ := g11 j (by omega)
    obtain ⟨z5, b1, b2, b3⟩ := hP.ns
    have hz5 : zn v (150 + 25 * j + 5) = ns := zn_of hP.2.2.2.2.2.1 (by omega)
    have ht3 : t < ns := by omega
    have hsz : ∀ i, i < 3 → ∃ z, z ≤ 16 ∧ v (150 + 25 * j + 6 + i) = nI z := by
      intro i hi
      rcases (show i = 0 ∨ i = 1 ∨ i = 2 by omega) with rfl | rfl | rfl
      · exact ⟨s0, by omega, hP.2.2.2.2.2.2.1⟩
      · exact ⟨s1, by omega, hP.2.2.2.2.2.2.2.1⟩
      · exact ⟨s2, by omega, hP.2.2.2.2.2.2.2.2.1⟩
    have hszz : ∀ i, i < t → mu2 (x + 3 + 7 + 3 * j + 2) i = nI (zn v (150 + 25 * j + 6 + i)) := by
      intro i hi
      obtain ⟨z, hz, e1⟩ := hsz i (by omega)
      rw [zn_of e1 (by omega), hR.2.2.2.2.2.2.2.1 i (by omega)]; exact e1
    obtain ⟨z, hz16, hz⟩ := hsz t (by omega)
    have hzz : zn v (150 + 25 * j + 6 + t) = z := zn_of hz (by omega)
    have hoff : qoff v (150 + 25 * j) t + z ≤ s0 + s1 + s2 := by
      have q6 := zn_of hP.2.2.2.2.2.2.1 (show s0 < 2 ^ 31 by omega)
      have q7 : zn v (150 + 25 * j + 6 + 1) = s1 := zn_of hP.2.2.2.2.2.2.2.1 (show s1 < 2 ^ 31 by omega)
      have q8 : zn v (150 + 25 * j + 6 + 2) = s2 := zn_of hP.2.2.2.2.2.2.2.2.1 (show s2 < 2 ^ 31 by omega)
      rcases (show t = 0 ∨ t = 1 ∨ t = 2 by omega) with rfl | rfl | rfl
      · simp only [qoff, Nat.add_zero] at hzz ⊢; omega
      · simp only [qoff, Nat.add_zero] at hzz ⊢; omega
      · simp only [qoff, Nat.add_zero] at hzz ⊢; omega
    first | with_reducible refine zg_ifN_ne (tgt := 11) dX2_valueAt_6 (by decide) (by omega) (fun c => ?_) (fun c => ?_) | refine zg_if_ne (tgt := 11) dX2_valueAt_6 (by decide) (fun c => ?_) (fun c => ?_)
    · refine zg_aload_n (i := 0) dX2_valueAt_11 rfl rfl ?_
      refine zg_getR dX2_valueAt_12 flX2_20 (by decide) (by assumption) (by assumption) (by assumption) ?_
      refine zg_getR dX2_valueAt_15 flX2_125 (by decide) (by assumption) (by assumption) (by assumption) ?_
      refine zg_iload_n (i := 1) dX2_valueAt_18 rfl rfl ?_
      first | refine zg_pald dX2_valueAt_19 (by assumption) (by assumption) rfl (by omega) (by decide) (by assumption) ?_ | refine zg_sald dX2_valueAt_19 (by assumption) (by assumption) rfl (by omega) (by decide) (by assumption) ?_
      refine zg_astore (L2 := [_, _, _, _, _]) dX2_valueAt_20 (by decide) rfl ?_
      refine zg_iload_n (i := 3) dX2_valueAt_22 rfl rfl ?_
      refine zg_if_lt (tgt := 37) dX2_valueAt_23 (by decide) (fun h1 => ?_) (fun h1 => ?_)
      · refine zg_iconst (v := nI 0) dX2_valueAt_37 (by decide) ?_
        exact zg_iret dX2_valueAt_38 rfl ⟨_, rfl, rfl, ⟨rfl, by rw [aValue, atN_in hj (by omega), atN_in ht (by omega), atN_lt h1]; rfl⟩⟩
      · refine zg_iload_n (i := 3) dX2_valueAt_26 rfl rfl ?_
        refine zg_aload dX2_valueAt_27 rfl ?_
        refine zg_getR dX2_valueAt_29 flX2_149 (by decide) (by assumption) (by assumption) (by assumption) ?_
        refine zg_iload_n (i := 2) dX2_valueAt_32 rfl rfl ?_
        first | with_reducible refine zg_ialdR dX2_valueAt_33 (by assumption) (by assumption) rfl (by omega) (by decide) ?_ | refine zg_iald dX2_valueAt_33 (by assumption) (by assumption) rfl (by omega) (by decide) ?_
        refine zg_val ((hR.2.2.2.2.2.2.2.1 t ht3).trans hz) ?_
        refine zg_icmp_lt (tgt := 39) dX2_valueAt_34 (by decide) (fun h2 => ?_) (fun h2 => ?_)
        · obtain ⟨i, hi, rfl⟩ := atN_ix (p := e) (n := z) (by omega) ⟨Int32.not_lt.mp h1, h2⟩
          refine zg_aload dX2_valueAt_39 rfl ?_
          refine zg_getR dX2_valueAt_41 flX2_152 (by decide) (by assumption) (by assumption) (by assumption) ?_
          refine zg_aload dX2_valueAt_44 rfl ?_
          refine zg_iload_n (i := 2) dX2_valueAt_46 rfl rfl ?_
          refine zg_callVi (cx_stackBegin hPS (v := v) (b := 150 + 25 * j) (t := t) (by omega) hszz) dX2_valueAt_47 cvX0_stackBegin mlX2_155 rfl (by assumption) (by assumption) rfl (Nat.le_of_ble_eq_true rfl) ⟨by decide, by decide⟩ ⟨Nat.le_refl _, Nat.le_refl _⟩ (fun r mu3 h3 => ?_)
          obtain ⟨rfl, rfl⟩ := h3
          refine zg_iload_n (i := 3) dX2_valueAt_50 rfl rfl ?_
          first | with_reducible refine zg_iaddN dX2_valueAt_51 ?_ | refine zg_iadd dX2_valueAt_51 ?_
          first | with_reducible refine zg_ialdR dX2_valueAt_52 (by assumption) (by assumption) rfl (by omega) (by decide) ?_ | refine zg_iald dX2_valueAt_52 (by assumption) (by assumption) rfl (by omega) (by decide) ?_
          refine zg_iret dX2_valueAt_53 rfl ⟨_, rfl, rfl, rfl, ?_⟩
          rw [aValue, atN_in hj (by omega), atN_in ht (by omega), hzz, atN_in hi (by omega), hR.2.2.2.2.2.2.2.2 _ (by omega)]
          congr 1
          omega
        · refine zg_iconst (v := nI 0) dX2_valueAt_37 (by decide) ?_
          exact zg_iret dX2_valueAt_38 rfl ⟨_, rfl, rfl, ⟨rfl, by rw [aValue, atN_in hj (by omega), atN_in ht (by omega), hzz, atN_ge (Int32.not_lt.mp h2)]; rfl⟩⟩
    · exact absurd c (by decide)
