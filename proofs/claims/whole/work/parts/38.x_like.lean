/-! THE CLASS: comparisons -/
def PE (v : Nat → Int32) (o : Nat) (w : Nat → Int32) (o2 : Nat) : Prop := ∀ j, j < 25 → v (o + j) = w (o2 + j)
def QE (v w : Nat → Int32) : Prop := ∀ j, 72 ≤ j → j < 267 → j ≠ 144 → v j = w j
def ans (r : Int32) (A : Prop) : Prop := (r = nI 1 ∧ A) ∨ (r = nI 0 ∧ ¬ A)
set_option maxRecDepth 20000 in
theorem lx_like118 {S : zS} {k k2 : Nat} (hS : PS S k) (hS2 : PS S k2) {mu : zU} {v w : Nat → Int32} {o o2 h : Nat} (h16 : h ≤ 16) (f6 : mu k 6 = nI h) (fv : ∀ j, j < h → mu (k + 1) j = v (o + 9 + j)) (gv : ∀ j, j < h → mu (k2 + 1) j = w (o2 + 9 + j)) (Ph : Option zV → zS → zU → Prop) (hx1 : (∀ j, j < h → v (o + 9 + j) = w (o2 + 9 + j)) → Ph (some (.inl (nI 1))) S mu) (hx0 : ¬ PE v o w o2 → Ph (some (.inl (nI 0))) S mu) :
    ∀ (t i : Nat), i + t = h → (∀ j, j < i → v (o + 9 + j) = w (o2 + 9 + j)) → zG RX0 "isLike" cX0_isLike 3 (some .boolean) (zroom 0 0 0) 0 0 Ph 118 [some (.inr (k + 1)), some (.inr (k2 + 1)), some (.inl (nI i))] [] S (mu) 0 0 := by
  obtain ⟨hN2, k0, k1, kk2, r5, r7⟩ := hS
  have hN0 : k < S.1 := by omega
  have hN1 : k + 1 < S.1 := by omega
  obtain ⟨hM2, j0, j1, jj2, q5, q7⟩ := hS2
  have hM0 : k2 < S.1 := by omega
  have hM1 : k2 + 1 < S.1 := by omega
  intro t
  induction t with
  | zero =>
    intro i hi ha
    obtain rfl : i = h := by omega
    refine zg_iload_n (i := 2) dX0_isLike_118 rfl rfl ?_
    refine zg_aload_n (i := 0) dX0_isLike_119 rfl rfl ?_
    first | with_reducible refine zg_getIR dX0_isLike_120 flX0_37 (by decide) (by assumption) (by assumption) (by omega) ?_ | refine zg_getI dX0_isLike_120 flX0_37 (by decide) (by assumption) (by assumption) ?_
    refine zg_val f6 ?_
    first | with_reducible refine zg_icmpN_ge (tgt := 149) dX0_isLike_123 (by decide) (by omega) (by omega) (fun c => ?_) (fun c => ?_) | refine zg_icmp_ge (tgt := 149) dX0_isLike_123 (by decide) (fun c => ?_) (fun c => ?_)
    · refine zg_iconst (v := nI 1) dX0_isLike_149 (by decide) ?_
      exact zg_zret dX0_isLike_150 rfl (Or.inr rfl) (hx1 ha)
    · omega
  | succ t ih =>
    intro i hi ha
    refine zg_iload_n (i := 2) dX0_isLike_118 rfl rfl ?_
    refine zg_aload_n (i := 0) dX0_isLike_119 rfl rfl ?_
    first | with_reducible refine zg_getIR dX0_isLike_120 flX0_37 (by decide) (by assumption) (by assumption) (by omega) ?_ | refine zg_getI dX0_isLike_120 flX0_37 (by decide) (by assumption) (by assumption) ?_
    refine zg_val f6 ?_
    first | with_reducible refine zg_icmpN_ge (tgt := 149) dX0_isLike_123 (by decide) (by omega) (by omega) (fun c => ?_) (fun c => ?_) | refine zg_icmp_ge (tgt := 149) dX0_isLike_123 (by decide) (fun c => ?_) (fun c => ?_)
    · omega
    · refine zg_aload_n (i := 0) dX0_isLike_126 rfl rfl ?_
      refine zg_getR dX0_isLike_127 flX0_9 (by decide) (by assumption) (by assumption) (by assumption) ?_
      refine zg_iload_n (i := 2) dX0_isLike_130 rfl rfl ?_
      first | with_reducible refine zg_ialdR dX0_isLike_131 (by assumption) (by assumption) rfl (by omega) (by decide) ?_ | refine zg_iald dX0_isLike_131 (by assumption) (by assumption) rfl (by omega) (by decide) ?_
      refine zg_val (fv i (by omega)) ?_
      refine zg_aload_n (i := 1) dX0_isLike_132 rfl rfl ?_
      refine zg_getR dX0_isLike_133 flX0_9 (by decide) (by assumption) (by assumption) (by assumption) ?_
      refine zg_iload_n (i := 2) dX0_isLike_136 rfl rfl ?_
      first | with_reducible refine zg_ialdR dX0_isLike_137 (by assumption) (by assumption) rfl (by omega) (by decide) ?_ | refine zg_iald dX0_isLike_137 (by assumption) (by assumption) rfl (by omega) (by decide) ?_
      refine zg_val (gv i (by omega)) ?_
      refine zg_icmp_eq (tgt := 143) dX0_isLike_138 (by decide) (fun c2 => ?_) (fun c2 => ?_)
      · refine zg_iinc1 (L2 := [_, _, _]) dX0_isLike_143 (by decide) rfl rfl ?_
        refine zg_goto (tgt := 118) dX0_isLike_146 (by decide) ?_
        refine ih (i + 1) (by omega) (fun j hj => ?_)
        by_cases hji : j = i
        · rw [hji]; exact c2
        · exact ha j (by omega)
      · refine zg_iconst (v := nI 0) dX0_isLike_141 (by decide) ?_
        exact zg_zret dX0_isLike_142 rfl (Or.inl rfl) (hx0 (fun z => c2 (by
          have := z (9 + i) (by omega)
          rw [← Nat.add_assoc, ← Nat.add_assoc] at this
          exact this)))
set_option maxRecDepth 20000 in
theorem lx_like85 {S : zS} {k k2 : Nat} (hS : PS S k) (hS2 : PS S k2) {mu : zU} {v w : Nat → Int32} {o o2 ns : Nat} (h3 : ns ≤ 3) (f8 : mu k 8 = nI ns) (fs : ∀ j, j < ns → mu (k + 2) j = v (o + 6 + j)) (gs : ∀ j, j < ns → mu (k2 + 2) j = w (o2 + 6 + j)) (Ph : Option zV → zS → zU → Prop) (hx1 : (∀ j, j < ns → v (o + 6 + j) = w (o2 + 6 + j)) → zG RX0 "isLike" cX0_isLike 3 (some .boolean) (zroom 0 0 0) 0 0 Ph 116 [some (.inr (k + 1)), some (.inr (k2 + 1)), some (.inl (nI ns))] [] S (mu) 0 0) (hx0 : ¬ PE v o w o2 → Ph (some (.inl (nI 0))) S mu) :
    ∀ (t i : Nat), i + t = ns → (∀ j, j < i → v (o + 6 + j) = w (o2 + 6 + j)) → zG RX0 "isLike" cX0_isLike 3 (some .boolean) (zroom 0 0 0) 0 0 Ph 85 [some (.inr (k + 1)), some (.inr (k2 + 1)), some (.inl (nI i))] [] S (mu) 0 0 := by
  obtain ⟨hN2, k0, k1, kk2, r5, r7⟩ := hS
  have hN0 : k < S.1 := by omega
  obtain ⟨hM2, j0, j1, jj2, q5, q7⟩ := hS2
  have hM0 : k2 < S.1 := by omega
  intro t
  induction t with
  | zero =>
    intro i hi ha
    obtain rfl : i = ns := by omega
    refine zg_iload_n (i := 2) dX0_isLike_85 rfl rfl ?_
    refine zg_aload_n (i := 0) dX0_isLike_86 rfl rfl ?_
    first | with_reducible refine zg_getIR dX0_isLike_87 flX0_18 (by decide) (by assumption) (by assumption) (by omega) ?_ | refine zg_getI dX0_isLike_87 flX0_18 (by decide) (by assumption) (by assumption) ?_
    refine zg_val f8 ?_
    first | with_reducible refine zg_icmpN_ge (tgt := 116) dX0_isLike_90 (by decide) (by omega) (by omega) (fun c => ?_) (fun c => ?_) | refine zg_icmp_ge (tgt := 116) dX0_isLike_90 (by decide) (fun c => ?_) (fun c => ?_)
    · exact hx1 ha
    · omega
  | succ t ih =>
    intro i hi ha
    refine zg_iload_n (i := 2) dX0_isLike_85 rfl rfl ?_
    refine zg_aload_n (i := 0) dX0_isLike_86 rfl rfl ?_
    first | with_reducible refine zg_getIR dX0_isLike_87 flX0_18 (by decide) (by assumption) (by assumption) (by omega) ?_ | refine zg_getI dX0_isLike_87 flX0_18 (by decide) (by assumption) (by assumption) ?_
    refine zg_val f8 ?_
    first | with_reducible refine zg_icmpN_ge (tgt := 116) dX0_isLike_90 (by decide) (by omega) (by omega) (fun c => ?_) (fun c => ?_) | refine zg_icmp_ge (tgt := 116) dX0_isLike_90 (by decide) (fun c => ?_) (fun c => ?_)
    · omega
    · refine zg_aload_n (i := 0) dX0_isLike_93 rfl rfl ?_
      refine zg_getR dX0_isLike_94 flX0_15 (by decide) (by assumption) (by assumption) (by assumption) ?_
      refine zg_iload_n (i := 2) dX0_isLike_97 rfl rfl ?_
      first | with_reducible refine zg_ialdR dX0_isLike_98 (by assumption) (by assumption) rfl (by omega) (by decide) ?_ | refine zg_iald dX0_isLike_98 (by assumption) (by assumption) rfl (by omega) (by decide) ?_
      refine zg_val (fs i (by omega)) ?_
      refine zg_aload_n (i := 1) dX0_isLike_99 rfl rfl ?_
      refine zg_getR dX0_isLike_100 flX0_15 (by decide) (by assumption) (by assumption) (by assumption) ?_
      refine zg_iload_n (i := 2) dX0_isLike_103 rfl rfl ?_
      first | with_reducible refine zg_ialdR dX0_isLike_104 (by assumption) (by assumption) rfl (by omega) (by decide) ?_ | refine zg_iald dX0_isLike_104 (by assumption) (by assumption) rfl (by omega) (by decide) ?_
      refine zg_val (gs i (by omega)) ?_
      refine zg_icmp_eq (tgt := 110) dX0_isLike_105 (by decide) (fun c2 => ?_) (fun c2 => ?_)
      · refine zg_iinc1 (L2 := [_, _, _]) dX0_isLike_110 (by decide) rfl rfl ?_
        refine zg_goto (tgt := 85) dX0_isLike_113 (by decide) ?_
        refine ih (i + 1) (by omega) (fun j hj => ?_)
        by_cases hji : j = i
        · rw [hji]; exact c2
        · exact ha j (by omega)
      · refine zg_iconst (v := nI 0) dX0_isLike_108 (by decide) ?_
        exact zg_zret dX0_isLike_109 rfl (Or.inl rfl) (hx0 (fun z => c2 (by
          have := z (6 + i) (by omega)
          rw [← Nat.add_assoc, ← Nat.add_assoc] at this
          exact this)))
set_option maxRecDepth 20000 in
theorem cx_isLike {S : zS} {k k2 : Nat} (hS : PS S k) (hS2 : PS S k2) {mu : zU} {v w : Nat → Int32} {o o2 : Nat} (hX : PX mu k v o) (hY : PX mu k2 w o2) : zM yX0_isLike cX0_isLike 3 (some .boolean) 0 0 0 [.inr (k + 1), .inr (k2 + 1)] S mu (zPi S (fun r mu2 => mu2 = mu ∧ ans r (PE v o w o2))) := by
  obtain ⟨hN2, k0, k1, kk2, r5, r7⟩ := id hS
  have hN0 : k < S.1 := by omega
  obtain ⟨hM2, j0, j1, jj2, q5, q7⟩ := id hS2
  have hM0 : k2 < S.1 := by omega
  obtain ⟨x, y, dr, ss, sl, ns, s0, s1, s2, hP, a0, a1, a2, a3, a4, a5, a6, a7, a8⟩ := hX
  obtain ⟨x', y', dr', ss', sl', ns', t0, t1, t2, hQ, b0, b1, b2, b3, b4, b5, b6, b7, b8⟩ := hY
  obtain ⟨z5, n1', n3, n16⟩ := hP.ns
  obtain ⟨z5', m1', m3, m16⟩ := hQ.ns
  refine zM.ofG (by decide +kernel) (Nat.le_of_ble_eq_true rfl) ?_
  have hno : ¬ PE v o w o2 → zPi S (fun r mu2 => mu2 = mu ∧ ans r (PE v o w o2)) (some (.inl (nI 0))) S mu := fun h => ⟨_, rfl, rfl, rfl, Or.inr ⟨rfl, h⟩⟩
  refine zg_aload_n (i := 0) dX0_isLike_0 rfl rfl ?_
  first | with_reducible refine zg_getIR dX0_isLike_1 flX0_22 (by decide) (by assumption) (by assumption) (by omega) ?_ | refine zg_getI dX0_isLike_1 flX0_22 (by decide) (by assumption) (by assumption) ?_
  refine zg_val a0 ?_
  refine zg_aload_n (i := 1) dX0_isLike_4 rfl rfl ?_
  first | with_reducible refine zg_getIR dX0_isLike_5 flX0_22 (by decide) (by assumption) (by assumption) (by omega) ?_ | refine zg_getI dX0_isLike_5 flX0_22 (by decide) (by assumption) (by assumption) ?_
  refine zg_val b0 ?_
  refine zg_icmp_ne (tgt := 33) dX0_isLike_8 (by decide) (fun c0 => ?_) (fun c0 => ?_)
  · refine zg_iconst (v := nI 0) dX0_isLike_33 (by decide) ?_
    exact zg_zret dX0_isLike_34 rfl (Or.inl rfl) (hno (fun z => c0 (z 0 (by omega))))
  refine zg_aload_n (i := 0) dX0_isLike_11 rfl rfl ?_
  first | with_reducible refine zg_getIR dX0_isLike_12 flX0_25 (by decide) (by assumption) (by assumption) (by omega) ?_ | refine zg_getI dX0_isLike_12 flX0_25 (by decide) (by assumption) (by assumption) ?_
  refine zg_val a1 ?_
  refine zg_aload_n (i := 1) dX0_isLike_15 rfl rfl ?_
  first | with_reducible refine zg_getIR dX0_isLike_16 flX0_25 (by decide) (by assumption) (by assumption) (by omega) ?_ | refine zg_getI dX0_isLike_16 flX0_25 (by decide) (by assumption) (by assumption) ?_
  refine zg_val b1 ?_
  refine zg_icmp_ne (tgt := 33) dX0_isLike_19 (by decide) (fun c1 => ?_) (fun c1 => ?_)
  · refine zg_iconst (v := nI 0) dX0_isLike_33 (by decide) ?_
    exact zg_zret dX0_isLike_34 rfl (Or.inl rfl) (hno (fun z => c1 (z 1 (by omega))))
  refine zg_aload_n (i := 0) dX0_isLike_22 rfl rfl ?_
  first | with_reducible refine zg_getIR dX0_isLike_23 flX0_28 (by decide) (by assumption) (by assumption) (by omega) ?_ | refine zg_getI dX0_isLike_23 flX0_28 (by decide) (by assumption) (by assumption) ?_
  refine zg_val a2 ?_
  refine zg_aload_n (i := 1) dX0_isLike_26 rfl rfl ?_
  first | with_reducible refine zg_getIR dX0_isLike_27 flX0_28 (by decide) (by assumption) (by assumption) (by omega) ?_ | refine zg_getI dX0_isLike_27 flX0_28 (by decide) (by assumption) (by assumption) ?_
  refine zg_val b2 ?_
  refine zg_icmp_eq (tgt := 35) dX0_isLike_30 (by decide) (fun c2 => ?_) (fun c2 => ?_)
  rotate_left
  · refine zg_iconst (v := nI 0) dX0_isLike_33 (by decide) ?_
    exact zg_zret dX0_isLike_34 rfl (Or.inl rfl) (hno (fun z => c2 (z 2 (by omega))))
  refine zg_aload_n (i := 0) dX0_isLike_35 rfl rfl ?_
  first | with_reducible refine zg_getIR dX0_isLike_36 flX0_31 (by decide) (by assumption) (by assumption) (by omega) ?_ | refine zg_getI dX0_isLike_36 flX0_31 (by decide) (by assumption) (by assumption) ?_
  refine zg_val a3 ?_
  refine zg_aload_n (i := 1) dX0_isLike_39 rfl rfl ?_
  first | with_reducible refine zg_getIR dX0_isLike_40 flX0_31 (by decide) (by assumption) (by assumption) (by omega) ?_ | refine zg_getI dX0_isLike_40 flX0_31 (by decide) (by assumption) (by assumption) ?_
  refine zg_val b3 ?_
  refine zg_icmp_ne (tgt := 57) dX0_isLike_43 (by decide) (fun c3 => ?_) (fun c3 => ?_)
  · refine zg_iconst (v := nI 0) dX0_isLike_57 (by decide) ?_
    exact zg_zret dX0_isLike_58 rfl (Or.inl rfl) (hno (fun z => c3 (z 3 (by omega))))
  refine zg_aload_n (i := 0) dX0_isLike_46 rfl rfl ?_
  first | with_reducible refine zg_getIR dX0_isLike_47 flX0_34 (by decide) (by assumption) (by assumption) (by omega) ?_ | refine zg_getI dX0_isLike_47 flX0_34 (by decide) (by assumption) (by assumption) ?_
  refine zg_val a4 ?_
  refine zg_aload_n (i := 1) dX0_isLike_50 rfl rfl ?_
  first | with_reducible refine zg_getIR dX0_isLike_51 flX0_34 (by decide) (by assumption) (by assumption) (by omega) ?_ | refine zg_getI dX0_isLike_51 flX0_34 (by decide) (by assumption) (by assumption) ?_
  refine zg_val b4 ?_
  refine zg_icmp_eq (tgt := 59) dX0_isLike_54 (by decide) (fun c4 => ?_) (fun c4 => ?_)
  rotate_left
  · refine zg_iconst (v := nI 0) dX0_isLike_57 (by decide) ?_
    exact zg_zret dX0_isLike_58 rfl (Or.inl rfl) (hno (fun z => c4 (z 4 (by omega))))
  refine zg_aload_n (i := 0) dX0_isLike_59 rfl rfl ?_
  first | with_reducible refine zg_getIR dX0_isLike_60 flX0_37 (by decide) (by assumption) (by assumption) (by omega) ?_ | refine zg_getI dX0_isLike_60 flX0_37 (by decide) (by assumption) (by assumption) ?_
  refine zg_val a6 ?_
  refine zg_aload_n (i := 1) dX0_isLike_63 rfl rfl ?_
  first | with_reducible refine zg_getIR dX0_isLike_64 flX0_37 (by decide) (by assumption) (by assumption) (by omega) ?_ | refine zg_getI dX0_isLike_64 flX0_37 (by decide) (by assumption) (by assumption) ?_
  refine zg_val b6 ?_
  first | with_reducible refine zg_icmpN_ne (tgt := 81) dX0_isLike_67 (by decide) (by omega) (by omega) (fun c6 => ?_) (fun c6 => ?_) | refine zg_icmp_ne (tgt := 81) dX0_isLike_67 (by decide) (fun c6 => ?_) (fun c6 => ?_)
  · refine zg_iconst (v := nI 0) dX0_isLike_81 (by decide) ?_
    refine zg_zret dX0_isLike_82 rfl (Or.inl rfl) (hno (fun z => c6 ?_))
    have e6 := z 6 (by omega)
    have e7 := z 7 (by omega)
    have e8 := z 8 (by omega)
    rw [hP.2.2.2.2.2.2.1, hQ.2.2.2.2.2.2.1, nI_eq (by omega) (by omega)] at e6
    rw [hP.2.2.2.2.2.2.2.1, hQ.2.2.2.2.2.2.2.1, nI_eq (by omega) (by omega)] at e7
    rw [hP.2.2.2.2.2.2.2.2.1, hQ.2.2.2.2.2.2.2.2.1, nI_eq (by omega) (by omega)] at e8
    omega
  refine zg_aload_n (i := 0) dX0_isLike_70 rfl rfl ?_
  first | with_reducible refine zg_getIR dX0_isLike_71 flX0_18 (by decide) (by assumption) (by assumption) (by omega) ?_ | refine zg_getI dX0_isLike_71 flX0_18 (by decide) (by assumption) (by assumption) ?_
  refine zg_val a5 ?_
  refine zg_aload_n (i := 1) dX0_isLike_74 rfl rfl ?_
  first | with_reducible refine zg_getIR dX0_isLike_75 flX0_18 (by decide) (by assumption) (by assumption) (by omega) ?_ | refine zg_getI dX0_isLike_75 flX0_18 (by decide) (by assumption) (by assumption) ?_
  refine zg_val b5 ?_
  refine zg_icmp_eq (tgt := 83) dX0_isLike_78 (by decide) (fun c5 => ?_) (fun c5 => ?_)
  rotate_left
  · refine zg_iconst (v := nI 0) dX0_isLike_81 (by decide) ?_
    exact zg_zret dX0_isLike_82 rfl (Or.inl rfl) (hno (fun z => c5 (z 5 (by omega))))
  have hns : ns = ns' := by
    have e := c5
    rw [hP.2.2.2.2.2.1, hQ.2.2.2.2.2.1, nI_eq (by omega) (by omega)] at e
    exact e
  refine zg_iconst (v := nI 0) dX0_isLike_83 (by decide) ?_
  refine zg_istore_n (i := 2) (L2 := [_, _, _]) dX0_isLike_84 rfl (by decide) rfl ?_
  refine lx_like85 hS hS2 n3 (a5.trans hP.2.2.2.2.2.1) a7 (fun j hj => b7 j (by omega)) _ ?_ hno ns 0 (by omega) (fun j hj => absurd hj (by omega))
  intro hsz
  refine zg_iconst (v := nI 0) dX0_isLike_116 (by decide) ?_
  refine zg_istore_n (i := 2) (L2 := [_, _, _]) dX0_isLike_117 rfl (by decide) rfl ?_
  refine lx_like118 hS hS2 n16 a6 a8 (fun j hj => b8 j (by omega)) _ ?_ hno (s0 + s1 + s2) 0 (by omega) (fun j hj => absurd hj (by omega))
  intro hvl
  refine ⟨_, rfl, rfl, rfl, Or.inl ⟨rfl, fun j hj => ?_⟩⟩
  obtain ⟨-, -, -, -, -, -, p6, p7, p8, ⟨-, -, -, -, -, -, -, -, w9, w10⟩, p9⟩ := hP
  obtain ⟨-, -, -, -, -, -, l6, l7, l8, ⟨-, -, -, -, -, -, -, -, u9, u10⟩, l9⟩ := hQ
  rcases (show j = 0 ∨ j = 1 ∨ j = 2 ∨ j = 3 ∨ j = 4 ∨ j = 5 ∨ j = 6 ∨ j = 7 ∨ j = 8 ∨ 9 ≤ j by omega) with rfl | rfl | rfl | rfl | rfl | rfl | rfl | rfl | rfl | h9
  · exact c0
  · exact c1
  · exact c2
  · exact c3
  · exact c4
  · exact c5
  · exact hsz 0 (by omega)
  · by_cases h1 : 1 < ns
    · exact hsz 1 h1
    · rw [p7, l7, w9 (by omega), u9 (by omega)]
  · by_cases h1 : 2 < ns
    · exact hsz 2 h1
    · rw [p8, l8, w10 (by omega), u10 (by omega)]
  · obtain ⟨i, rfl⟩ : ∃ i, j = 9 + i := ⟨j - 9, by omega⟩
    rw [← Nat.add_assoc, ← Nat.add_assoc]
    by_cases h1 : i < s0 + s1 + s2
    · exact hvl i h1
    · rw [p9 i (by omega) (by omega), l9 i (by omega) (by omega)]
set_option maxRecDepth 20000 in
theorem lx_conf26 {S : zS} {b d : Nat} (hS : SS S b) (hSd : SS S d) {mu : zU} {v w : Nat → Int32} {ol ol2 : List Nat} (hX : SX mu b v ol) (hY : SX mu d w ol2) (hl : ol.length = ol2.length) (Ph : Option zV → zS → zU → Prop) (hx0 : ¬ QE v w → Ph (some (.inl (nI 0))) S mu)
    (hx1 : (∀ j, j < ol.length → v (146 + j) = w (146 + j) ∧ PE v (150 + 25 * j) w (150 + 25 * j)) → zG RX1 "hasConfigurationOf" cX1_hasConfigurationOf 3 (some .boolean) (zroom 1 0 0) 0 0 Ph 75 [some (.inr (b + 1)), some (.inr (d + 1)), some (.inl (nI ol.length))] [] S (mu) 0 0) :
    ∀ (t i : Nat), i + t = ol.length → (∀ j, j < i → v (146 + j) = w (146 + j) ∧ PE v (150 + 25 * j) w (150 + 25 * j)) → zG RX1 "hasConfigurationOf" cX1_hasConfigurationOf 3 (some .boolean) (zroom 1 0 0) 0 0 Ph 26 [some (.inr (b + 1)), some (.inr (d + 1)), some (.inl (nI i))] [] S (mu) 0 0 := by
  obtain ⟨hN, k0, k1, k2, k3, k4, k5, k6, r0, r1, r2, r3, r5, r7, hp⟩ := id hS
  have hN0 : b < S.1 := by omega
  have hN3 : b + 3 < S.1 := by omega
  have hN4 : b + 4 < S.1 := by omega
  obtain ⟨gN, j0, j1, j2, j3, j4, j5, j6, q0, q1, q2, q3, q5, q7, gp⟩ := id hSd
  have gN0 : d < S.1 := by omega
  have gN3 : d + 3 < S.1 := by omega
  have gN4 : d + 4 < S.1 := by omega
  have hl4 := hX.1.1.2.2
  have f4 : mu b 4 = nI ol.length := hX.2.2.2.1.trans hX.1.1.1
  intro t
  induction t with
  | zero =>
    intro i hi ha
    refine zg_iload_n (i := 2) dX1_hasConfigurationOf_26 rfl rfl ?_
    refine zg_aload_n (i := 0) dX1_hasConfigurationOf_27 rfl rfl ?_
    first | with_reducible refine zg_getIR dX1_hasConfigurationOf_28 flX1_34 (by decide) (by assumption) (by assumption) (by omega) ?_ | refine zg_getI dX1_hasConfigurationOf_28 flX1_34 (by decide) (by assumption) (by assumption) ?_
    refine zg_val f4 ?_
    first | with_reducible refine zg_icmpN_ge (tgt := 75) dX1_hasConfigurationOf_31 (by decide) (by omega) (by omega) (fun c => ?_) (fun c => ?_) | refine zg_icmp_ge (tgt := 75) dX1_hasConfigurationOf_31 (by decide) (fun c => ?_) (fun c => ?_)
    · rw [show i = ol.length by omega] at ha ⊢
      exact hx1 ha
    · omega
  | succ t ih =>
    intro i hi ha
    obtain ⟨rp, hPS⟩ := hp i (by omega)
    obtain ⟨rq, hPSd⟩ := gp i (by omega)
    have kp0 := hPS.2.1
    have kpN : b + 7 + 3 * i < S.1 := by omega
    refine zg_iload_n (i := 2) dX1_hasConfigurationOf_26 rfl rfl ?_
    refine zg_aload_n (i := 0) dX1_hasConfigurationOf_27 rfl rfl ?_
    first | with_reducible refine zg_getIR dX1_hasConfigurationOf_28 flX1_34 (by decide) (by assumption) (by assumption) (by omega) ?_ | refine zg_getI dX1_hasConfigurationOf_28 flX1_34 (by decide) (by assumption) (by assumption) ?_
    refine zg_val f4 ?_
    first | with_reducible refine zg_icmpN_ge (tgt := 75) dX1_hasConfigurationOf_31 (by decide) (by omega) (by omega) (fun c => ?_) (fun c => ?_) | refine zg_icmp_ge (tgt := 75) dX1_hasConfigurationOf_31 (by decide) (fun c => ?_) (fun c => ?_)
    · omega
    · refine zg_aload_n (i := 0) dX1_hasConfigurationOf_34 rfl rfl ?_
      refine zg_getR dX1_hasConfigurationOf_35 flX1_24 (by decide) (by assumption) (by assumption) (by assumption) ?_
      refine zg_iload_n (i := 2) dX1_hasConfigurationOf_38 rfl rfl ?_
      first | with_reducible refine zg_ialdR dX1_hasConfigurationOf_39 (by assumption) (by assumption) rfl (by omega) (by decide) ?_ | refine zg_iald dX1_hasConfigurationOf_39 (by assumption) (by assumption) rfl (by omega) (by decide) ?_
      refine zg_val (hX.2.2.2.2.1 i (by omega)) ?_
      refine zg_aload_n (i := 1) dX1_hasConfigurationOf_40 rfl rfl ?_
      refine zg_getR dX1_hasConfigurationOf_41 flX1_24 (by decide) (by assumption) (by assumption) (by assumption) ?_
      refine zg_iload_n (i := 2) dX1_hasConfigurationOf_44 rfl rfl ?_
      first | with_reducible refine zg_ialdR dX1_hasConfigurationOf_45 (by assumption) (by assumption) rfl (by omega) (by decide) ?_ | refine zg_iald dX1_hasConfigurationOf_45 (by assumption) (by assumption) rfl (by omega) (by decide) ?_
      refine zg_val (hY.2.2.2.2.1 i (by omega)) ?_
      refine zg_icmp_ne (tgt := 67) dX1_hasConfigurationOf_46 (by decide) (fun c2 => ?_) (fun c2 => ?_)
      · refine zg_iconst (v := nI 0) dX1_hasConfigurationOf_67 (by decide) ?_
        exact zg_zret dX1_hasConfigurationOf_68 rfl (Or.inl rfl) (hx0 (fun z => c2 (z _ (by omega) (by omega) (by omega))))
      · refine zg_aload_n (i := 0) dX1_hasConfigurationOf_49 rfl rfl ?_
        refine zg_getR dX1_hasConfigurationOf_50 flX1_20 (by decide) (by assumption) (by assumption) (by assumption) ?_
        refine zg_iload_n (i := 2) dX1_hasConfigurationOf_53 rfl rfl ?_
        first | refine zg_pald dX1_hasConfigurationOf_54 (by assumption) (by assumption) rfl (by omega) (by decide) (by assumption) ?_ | refine zg_sald dX1_hasConfigurationOf_54 (by assumption) (by assumption) rfl (by omega) (by decide) (by assumption) ?_
        refine zg_aload_n (i := 1) dX1_hasConfigurationOf_55 rfl rfl ?_
        refine zg_getR dX1_hasConfigurationOf_56 flX1_20 (by decide) (by assumption) (by assumption) (by assumption) ?_
        refine zg_iload_n (i := 2) dX1_hasConfigurationOf_59 rfl rfl ?_
        first | refine zg_pald dX1_hasConfigurationOf_60 (by assumption) (by assumption) rfl (by omega) (by decide) (by assumption) ?_ | refine zg_sald dX1_hasConfigurationOf_60 (by assumption) (by assumption) rfl (by omega) (by decide) (by assumption) ?_
        refine zg_callVi (cx_isLike hPS hPSd (hX.2.2.2.2.2.2.2.2.2.2.2 i (by omega)) (hY.2.2.2.2.2.2.2.2.2.2.2 i (by omega))) dX1_hasConfigurationOf_61 cvX0_isLike mlX1_60 rfl (by assumption) (by assumption) rfl (Nat.le_of_ble_eq_true rfl) ⟨by decide, by decide⟩ ⟨Nat.le_refl _, Nat.le_refl _⟩ (fun r mu2 h2 => ?_)
        obtain ⟨rfl, h2 | h2⟩ := h2
        · obtain ⟨rfl, h2⟩ := h2
          first | with_reducible refine zg_ifN_ne (tgt := 69) dX1_hasConfigurationOf_64 (by decide) (by omega) (fun c3 => ?_) (fun c3 => ?_) | refine zg_if_ne (tgt := 69) dX1_hasConfigurationOf_64 (by decide) (fun c3 => ?_) (fun c3 => ?_)
          · refine zg_iinc1 (L2 := [_, _, _]) dX1_hasConfigurationOf_69 (by decide) rfl rfl ?_
            refine zg_goto (tgt := 26) dX1_hasConfigurationOf_72 (by decide) ?_
            refine ih (i + 1) (by omega) (fun j hj => ?_)
            by_cases hji : j = i
            · rw [hji]; exact ⟨c2, h2⟩
            · exact ha j (by omega)
          · exact absurd c3 (by decide)
        · obtain ⟨rfl, h2⟩ := h2
          first | with_reducible refine zg_ifN_ne (tgt := 69) dX1_hasConfigurationOf_64 (by decide) (by omega) (fun c3 => ?_) (fun c3 => ?_) | refine zg_if_ne (tgt := 69) dX1_hasConfigurationOf_64 (by decide) (fun c3 => ?_) (fun c3 => ?_)
          · exact absurd rfl c3
          · refine zg_iconst (v := nI 0) dX1_hasConfigurationOf_67 (by decide) ?_
            refine zg_zret dX1_hasConfigurationOf_68 rfl (Or.inl rfl) (hx0 (fun z => h2 (fun j hj => z _ (by omega) (by omega) (by omega))))
set_option maxRecDepth 20000 in
theorem lx_conf77 {S : zS} {b d : Nat} (hS : SS S b) (hSd : SS S d) {mu : zU} {v w : Nat → Int32} {n : Nat} (hn16 : n ≤ 16) (f6 : mu b 6 = nI n) (fi : ∀ j, j < n → mu (b + 5) j = v (251 + j)) (gi : ∀ j, j < n → mu (d + 5) j = w (251 + j)) (Ph : Option zV → zS → zU → Prop) (hx0 : ¬ QE v w → Ph (some (.inl (nI 0))) S mu)
    (hx1 : (∀ j, j < n → v (251 + j) = w (251 + j)) → zG RX1 "hasConfigurationOf" cX1_hasConfigurationOf 3 (some .boolean) (zroom 1 0 0) 0 0 Ph 108 [some (.inr (b + 1)), some (.inr (d + 1)), some (.inl (nI n))] [] S (mu) 0 0) :
    ∀ (t i : Nat), i + t = n → (∀ j, j < i → v (251 + j) = w (251 + j)) → zG RX1 "hasConfigurationOf" cX1_hasConfigurationOf 3 (some .boolean) (zroom 1 0 0) 0 0 Ph 77 [some (.inr (b + 1)), some (.inr (d + 1)), some (.inl (nI i))] [] S (mu) 0 0 := by
  obtain ⟨hN, k0, k1, k2, k3, k4, k5, k6, r0, r1, r2, r3, r5, r7, hp⟩ := id hS
  have hN0 : b < S.1 := by omega
  have hN5 : b + 5 < S.1 := by omega
  obtain ⟨gN, j0, j1, j2, j3, j4, j5, j6, q0, q1, q2, q3, q5, q7, gp⟩ := id hSd
  have gN0 : d < S.1 := by omega
  have gN5 : d + 5 < S.1 := by omega
  intro t
  induction t with
  | zero =>
    intro i hi ha
    obtain rfl : i = n := by omega
    refine zg_iload_n (i := 2) dX1_hasConfigurationOf_77 rfl rfl ?_
    refine zg_aload_n (i := 0) dX1_hasConfigurationOf_78 rfl rfl ?_
    first | with_reducible refine zg_getIR dX1_hasConfigurationOf_79 flX1_48 (by decide) (by assumption) (by assumption) (by omega) ?_ | refine zg_getI dX1_hasConfigurationOf_79 flX1_48 (by decide) (by assumption) (by assumption) ?_
    refine zg_val f6 ?_
    first | with_reducible refine zg_icmpN_ge (tgt := 108) dX1_hasConfigurationOf_82 (by decide) (by omega) (by omega) (fun c => ?_) (fun c => ?_) | refine zg_icmp_ge (tgt := 108) dX1_hasConfigurationOf_82 (by decide) (fun c => ?_) (fun c => ?_)
    · exact hx1 ha
    · omega
  | succ t ih =>
    intro i hi ha
    refine zg_iload_n (i := 2) dX1_hasConfigurationOf_77 rfl rfl ?_
    refine zg_aload_n (i := 0) dX1_hasConfigurationOf_78 rfl rfl ?_
    first | with_reducible refine zg_getIR dX1_hasConfigurationOf_79 flX1_48 (by decide) (by assumption) (by assumption) (by omega) ?_ | refine zg_getI dX1_hasConfigurationOf_79 flX1_48 (by decide) (by assumption) (by assumption) ?_
    refine zg_val f6 ?_
    first | with_reducible refine zg_icmpN_ge (tgt := 108) dX1_hasConfigurationOf_82 (by decide) (by omega) (by omega) (fun c => ?_) (fun c => ?_) | refine zg_icmp_ge (tgt := 108) dX1_hasConfigurationOf_82 (by decide) (fun c => ?_) (fun c => ?_)
    · omega
    · refine zg_aload_n (i := 0) dX1_hasConfigurationOf_85 rfl rfl ?_
      refine zg_getR dX1_hasConfigurationOf_86 flX1_27 (by decide) (by assumption) (by assumption) (by assumption) ?_
      refine zg_iload_n (i := 2) dX1_hasConfigurationOf_89 rfl rfl ?_
      first | with_reducible refine zg_ialdR dX1_hasConfigurationOf_90 (by assumption) (by assumption) rfl (by omega) (by decide) ?_ | refine zg_iald dX1_hasConfigurationOf_90 (by assumption) (by assumption) rfl (by omega) (by decide) ?_
      refine zg_val (fi i (by omega)) ?_
      refine zg_aload_n (i := 1) dX1_hasConfigurationOf_91 rfl rfl ?_
      refine zg_getR dX1_hasConfigurationOf_92 flX1_27 (by decide) (by assumption) (by assumption) (by assumption) ?_
      refine zg_iload_n (i := 2) dX1_hasConfigurationOf_95 rfl rfl ?_
      first | with_reducible refine zg_ialdR dX1_hasConfigurationOf_96 (by assumption) (by assumption) rfl (by omega) (by decide) ?_ | refine zg_iald dX1_hasConfigurationOf_96 (by assumption) (by assumption) rfl (by omega) (by decide) ?_
      refine zg_val (gi i (by omega)) ?_
      refine zg_icmp_eq (tgt := 102) dX1_hasConfigurationOf_97 (by decide) (fun c2 => ?_) (fun c2 => ?_)
      · refine zg_iinc1 (L2 := [_, _, _]) dX1_hasConfigurationOf_102 (by decide) rfl rfl ?_
        refine zg_goto (tgt := 77) dX1_hasConfigurationOf_105 (by decide) ?_
        refine ih (i + 1) (by omega) (fun j hj => ?_)
        by_cases hji : j = i
        · rw [hji]; exact c2
        · exact ha j (by omega)
      · refine zg_iconst (v := nI 0) dX1_hasConfigurationOf_100 (by decide) ?_
        exact zg_zret dX1_hasConfigurationOf_101 rfl (Or.inl rfl) (hx0 (fun z => c2 (z _ (by omega) (by omega) (by omega))))
set_option maxRecDepth 20000 in
theorem lx_conf110 {S : zS} {b d : Nat} (hS : SS S b) (hSd : SS S d) {mu : zU} {v w : Nat → Int32} (fi : ∀ j, j < 72 → mu (b + 2) j = v (72 + j)) (gi : ∀ j, j < 72 → mu (d + 2) j = w (72 + j)) (Ph : Option zV → zS → zU → Prop) (hx0 : ¬ QE v w → Ph (some (.inl (nI 0))) S mu)
    (hx1 : (∀ j, j < 72 → v (72 + j) = w (72 + j)) → Ph (some (.inl (nI 1))) S mu) :
    ∀ (t i : Nat), i + t = 72 → (∀ j, j < i → v (72 + j) = w (72 + j)) → zG RX1 "hasConfigurationOf" cX1_hasConfigurationOf 3 (some .boolean) (zroom 1 0 0) 0 0 Ph 110 [some (.inr (b + 1)), some (.inr (d + 1)), some (.inl (nI i))] [] S (mu) 0 0 := by
  obtain ⟨hN, k0, k1, k2, k3, k4, k5, k6, r0, r1, r2, r3, r5, r7, hp⟩ := id hS
  have hN0 : b < S.1 := by omega
  have hN2 : b + 2 < S.1 := by omega
  obtain ⟨gN, j0, j1, j2, j3, j4, j5, j6, q0, q1, q2, q3, q5, q7, gp⟩ := id hSd
  have gN0 : d < S.1 := by omega
  have gN2 : d + 2 < S.1 := by omega
  intro t
  induction t with
  | zero =>
    intro i hi ha
    obtain rfl : i = 72 := by omega
    refine zg_iload_n (i := 2) dX1_hasConfigurationOf_110 rfl rfl ?_
    refine zg_bipush (v := nI 72) dX1_hasConfigurationOf_111 (by decide) ?_
    first | with_reducible refine zg_icmpN_ge (tgt := 139) dX1_hasConfigurationOf_113 (by decide) (by omega) (by omega) (fun c => ?_) (fun c => ?_) | refine zg_icmp_ge (tgt := 139) dX1_hasConfigurationOf_113 (by decide) (fun c => ?_) (fun c => ?_)
    · refine zg_iconst (v := nI 1) dX1_hasConfigurationOf_139 (by decide) ?_
      exact zg_zret dX1_hasConfigurationOf_140 rfl (Or.inr rfl) (hx1 ha)
    · omega
  | succ t ih =>
    intro i hi ha
    refine zg_iload_n (i := 2) dX1_hasConfigurationOf_110 rfl rfl ?_
    refine zg_bipush (v := nI 72) dX1_hasConfigurationOf_111 (by decide) ?_
    first | with_reducible refine zg_icmpN_ge (tgt := 139) dX1_hasConfigurationOf_113 (by decide) (by omega) (by omega) (fun c => ?_) (fun c => ?_) | refine zg_icmp_ge (tgt := 139) dX1_hasConfigurationOf_113 (by decide) (fun c => ?_) (fun c => ?_)
    · omega
    · refine zg_aload_n (i := 0) dX1_hasConfigurationOf_116 rfl rfl ?_
      refine zg_getR dX1_hasConfigurationOf_117 flX1_15 (by decide) (by assumption) (by assumption) (by assumption) ?_
      refine zg_iload_n (i := 2) dX1_hasConfigurationOf_120 rfl rfl ?_
      first | with_reducible refine zg_ialdR dX1_hasConfigurationOf_121 (by assumption) (by assumption) rfl (by omega) (by decide) ?_ | refine zg_iald dX1_hasConfigurationOf_121 (by assumption) (by assumption) rfl (by omega) (by decide) ?_
      refine zg_val (fi i (by omega)) ?_
      refine zg_aload_n (i := 1) dX1_hasConfigurationOf_122 rfl rfl ?_
      refine zg_getR dX1_hasConfigurationOf_123 flX1_15 (by decide) (by assumption) (by assumption) (by assumption) ?_
      refine zg_iload_n (i := 2) dX1_hasConfigurationOf_126 rfl rfl ?_
      first | with_reducible refine zg_ialdR dX1_hasConfigurationOf_127 (by assumption) (by assumption) rfl (by omega) (by decide) ?_ | refine zg_iald dX1_hasConfigurationOf_127 (by assumption) (by assumption) rfl (by omega) (by decide) ?_
      refine zg_val (gi i (by omega)) ?_
      refine zg_icmp_eq (tgt := 133) dX1_hasConfigurationOf_128 (by decide) (fun c2 => ?_) (fun c2 => ?_)
      · refine zg_iinc1 (L2 := [_, _, _]) dX1_hasConfigurationOf_133 (by decide) rfl rfl ?_
        refine zg_goto (tgt := 110) dX1_hasConfigurationOf_136 (by decide) ?_
        refine ih (i + 1) (by omega) (fun j hj => ?_)
        by_cases hji : j = i
        · rw [hji]; exact c2
        · exact ha j (by omega)
      · refine zg_iconst (v := nI 0) dX1_hasConfigurationOf_131 (by decide) ?_
        exact zg_zret dX1_hasConfigurationOf_132 rfl (Or.inl rfl) (hx0 (fun z => c2 (z _ (by omega) (by omega) (by omega))))
set_option maxRecDepth 20000 in
theorem cx_conf {S : zS} {b d : Nat} (hS : SS S b) (hSd : SS S d) {mu : zU} {v w : Nat → Int32} {ol ol2 : List Nat} (hX : SX mu b v ol) (hY : SX mu d w ol2) : zM yX1_hasConfigurationOf cX1_hasConfigurationOf 3 (some .boolean) 1 0 0 [.inr (b + 1), .inr (d + 1)] S mu (zPi S (fun r mu2 => mu2 = mu ∧ ans r (QE v w))) := by
  obtain ⟨hN, k0, k1, k2, k3, k4, k5, k6, r0, r1, r2, r3, r5, r7, hp⟩ := id hS
  have hN0 : b < S.1 := by omega
  obtain ⟨gN, j0, j1, j2, j3, j4, j5, j6, q0, q1, q2, q3, q5, q7, gp⟩ := id hSd
  have gN0 : d < S.1 := by omega
  obtain ⟨h0, g1, g2, g3, g4, g5, g6, g7, g8, g9, g10, g11⟩ := id hX
  obtain ⟨h0', g1', g2', g3', g4', g5', g6', g7', g8', g9', g10', g11'⟩ := id hY
  obtain ⟨⟨x145, xl1, xl4⟩, xo, -, xz, xp, xq, ⟨n, n16, xn, xi⟩, -⟩ := h0
  obtain ⟨⟨y145, yl1, yl4⟩, yo, -, yz, yp, yq, ⟨n', n16', yn, yi⟩, -⟩ := h0'
  have hno : ¬ QE v w → zPi S (fun r mu2 => mu2 = mu ∧ ans r (QE v w)) (some (.inl (nI 0))) S mu := fun h => ⟨_, rfl, rfl, rfl, Or.inr ⟨rfl, h⟩⟩
  refine zM.ofG (by decide +kernel) (Nat.le_of_ble_eq_true rfl) ?_
  refine zg_aload_n (i := 0) dX1_hasConfigurationOf_0 rfl rfl ?_
  first | with_reducible refine zg_getIR dX1_hasConfigurationOf_1 flX1_34 (by decide) (by assumption) (by assumption) (by omega) ?_ | refine zg_getI dX1_hasConfigurationOf_1 flX1_34 (by decide) (by assumption) (by assumption) ?_
  refine zg_val (g3.trans x145) ?_
  refine zg_aload_n (i := 1) dX1_hasConfigurationOf_4 rfl rfl ?_
  first | with_reducible refine zg_getIR dX1_hasConfigurationOf_5 flX1_34 (by decide) (by assumption) (by assumption) (by omega) ?_ | refine zg_getI dX1_hasConfigurationOf_5 flX1_34 (by decide) (by assumption) (by assumption) ?_
  refine zg_val (g3'.trans y145) ?_
  first | with_reducible refine zg_icmpN_ne (tgt := 22) dX1_hasConfigurationOf_8 (by decide) (by omega) (by omega) (fun c => ?_) (fun c => ?_) | refine zg_icmp_ne (tgt := 22) dX1_hasConfigurationOf_8 (by decide) (fun c => ?_) (fun c => ?_)
  · refine zg_iconst (v := nI 0) dX1_hasConfigurationOf_22 (by decide) ?_
    refine zg_zret dX1_hasConfigurationOf_23 rfl (Or.inl rfl) (hno (fun z => c ?_))
    have := z 145 (by omega) (by omega) (by omega)
    rw [x145, y145, nI_eq (by omega) (by omega)] at this
    exact this
  refine zg_aload_n (i := 0) dX1_hasConfigurationOf_11 rfl rfl ?_
  first | with_reducible refine zg_getIR dX1_hasConfigurationOf_12 flX1_48 (by decide) (by assumption) (by assumption) (by omega) ?_ | refine zg_getI dX1_hasConfigurationOf_12 flX1_48 (by decide) (by assumption) (by assumption) ?_
  refine zg_val (g5.trans xn) ?_
  refine zg_aload_n (i := 1) dX1_hasConfigurationOf_15 rfl rfl ?_
  first | with_reducible refine zg_getIR dX1_hasConfigurationOf_16 flX1_48 (by decide) (by assumption) (by assumption) (by omega) ?_ | refine zg_getI dX1_hasConfigurationOf_16 flX1_48 (by decide) (by assumption) (by assumption) ?_
  refine zg_val (g5'.trans yn) ?_
  first | with_reducible refine zg_icmpN_eq (tgt := 24) dX1_hasConfigurationOf_19 (by decide) (by omega) (by omega) (fun c2 => ?_) (fun c2 => ?_) | refine zg_icmp_eq (tgt := 24) dX1_hasConfigurationOf_19 (by decide) (fun c2 => ?_) (fun c2 => ?_)
  rotate_left
  · refine zg_iconst (v := nI 0) dX1_hasConfigurationOf_22 (by decide) ?_
    refine zg_zret dX1_hasConfigurationOf_23 rfl (Or.inl rfl) (hno (fun z => c2 ?_))
    have := z 250 (by omega) (by omega) (by omega)
    rw [xn, yn, nI_eq (by omega) (by omega)] at this
    exact this
  rw [zn_of xn (by omega)] at g6
  rw [zn_of yn (by omega)] at g6'
  refine zg_iconst (v := nI 0) dX1_hasConfigurationOf_24 (by decide) ?_
  refine zg_istore_n (i := 2) (L2 := [_, _, _]) dX1_hasConfigurationOf_25 rfl (by decide) rfl ?_
  refine lx_conf26 hS hSd hX hY c _ hno ?_ ol.length 0 (by omega) (fun j hj => absurd hj (by omega))
  intro hA
  refine zg_iconst (v := nI 0) dX1_hasConfigurationOf_75 (by decide) ?_
  refine zg_istore_n (i := 2) (L2 := [_, _, _]) dX1_hasConfigurationOf_76 rfl (by decide) rfl ?_
  refine lx_conf77 hS hSd n16 (g5.trans xn) g6 (fun j hj => g6' j (by omega)) _ hno ?_ n 0 (by omega) (fun j hj => absurd hj (by omega))
  intro hB
  refine zg_iconst (v := nI 0) dX1_hasConfigurationOf_108 (by decide) ?_
  refine zg_istore_n (i := 2) (L2 := [_, _, _]) dX1_hasConfigurationOf_109 rfl (by decide) rfl ?_
  refine lx_conf110 hS hSd g2 g2' _ hno ?_ 72 0 (by omega) (fun j hj => absurd hj (by omega))
  intro hC
  refine ⟨_, rfl, rfl, rfl, Or.inl ⟨rfl, fun j ja jb jc => ?_⟩⟩
  by_cases e1 : j < 144
  · have := hC (j - 72) (by omega)
    rw [show 72 + (j - 72) = j by omega] at this
    exact this
  by_cases e2 : j = 145
  · rw [e2, x145, y145, c]
  by_cases e3 : j < 150
  · obtain ⟨i, rfl⟩ : ∃ i, j = 146 + i := ⟨j - 146, by omega⟩
    by_cases hi : i < ol.length
    · exact (hA i hi).1
    · rw [xz i (by omega) (by omega), yz i (by omega) (by omega)]
  by_cases e4 : j < 250
  · obtain ⟨q, i, hi25, rfl⟩ : ∃ q i, i < 25 ∧ j = 150 + 25 * q + i := ⟨(j - 150) / 25, (j - 150) % 25, by omega, by omega⟩
    by_cases hq : q < ol.length
    · exact (hA q hq).2 i hi25
    · rw [xq q i (by omega) (by omega) hi25, yq q i (by omega) (by omega) hi25]
  by_cases e5 : j = 250
  · rw [e5, xn, yn, c2]
  · obtain ⟨i, rfl⟩ : ∃ i, j = 251 + i := ⟨j - 251, by omega⟩
    by_cases hi : i < n
    · exact hB i hi
    · rw [xi i (by omega) (by omega), yi i (by omega) (by omega)]
