/-! THE CLASS: findPeriod, findCycleEntry -/
def FD (v : Nat → Int32) (lim : Nat) (r : Int32) : Prop := (qhalt (qit v lim) = true ∧ r = -9) ∨ (qhalt (qit v lim) = false ∧ ((∃ l, 1 ≤ l ∧ l ≤ lim ∧ QE (qit v (lim + l)) (qit v lim) ∧ (∀ l', 1 ≤ l' → l' < l → ¬ QE (qit v (lim + l')) (qit v lim)) ∧ r = nI l) ∨ ((∀ l, 1 ≤ l → l ≤ lim → ¬ QE (qit v (lim + l)) (qit v lim)) ∧ r = -9)))
def FE (v : Nat → Int32) (lim w : Nat) (r : Int32) : Prop := (∃ i, i + w ≤ lim ∧ QE (qit v (i + w)) (qit v i) ∧ (∀ i', i' < i → ¬ QE (qit v (i' + w)) (qit v i')) ∧ r = nI i) ∨ ((∀ i, i + w ≤ lim → ¬ QE (qit v (i + w)) (qit v i)) ∧ r = -9)
set_option maxRecDepth 20000 in
theorem lx_fp57 {S : zS} {x : Nat} {pm : Nat → Nat} (hS : XS S x pm) {v : Nat → Int32} {lim : Nat} {ol : List Nat} (hlim : lim ≤ 200) (hq : qhalt (qit v lim) = false) (mu0 : zU) (Ph : Option zV → zS → zU → Prop) (hx : ∀ mu r, zfr mu0 mu (x + 177) 38 → FD v lim r → Ph (some (.inl r)) S mu) :
    ∀ (t c : Nat) (mu : zU) (ol2 : List Nat), c + t = lim + 1 → 1 ≤ c → SX mu (x + 177) (qit v lim) ol → SX mu (x + 196) (qit v (lim + (c - 1))) ol2 → zfr mu0 mu (x + 177) 38 → (∀ l, 1 ≤ l → l < c → ¬ QE (qit v (lim + l)) (qit v lim)) → zG RX2 "findPeriod" cX2_findPeriod 3 (some .int) (zroom 5 0 0) 0 0 Ph 57 [some (.inr (x + 1)), some (.inl (nI lim)), some (.inl (nI c))] [] S (mu) 0 0 := by
  have hN0 : x < S.1 := hS.lt (i := 0) (by decide)
  have hNt : x + 177 < S.1 := hS.lt (by decide)
  have hNu : x + 196 < S.1 := hS.lt (by decide)
  have xk0 := hS.1.2.1
  obtain ⟨-, -, -, -, -, -, xr9, xr10⟩ := hS.2.1
  obtain ⟨-, hSt, hSu⟩ := hS.2.2.1
  have tk0 := hSt.2.1
  have uk0 := hSu.2.1
  intro t
  induction t with
  | zero =>
    intro c mu ol2 hc h1 hT hU hf hno
    refine zg_iload_n (i := 2) dX2_findPeriod_57 rfl rfl ?_
    refine zg_iload_n (i := 1) dX2_findPeriod_58 rfl rfl ?_
    first | with_reducible refine zg_icmpN_gt (tgt := 91) dX2_findPeriod_59 (by decide) (by omega) (by omega) (fun c1 => ?_) (fun c1 => ?_) | refine zg_icmp_gt (tgt := 91) dX2_findPeriod_59 (by decide) (fun c1 => ?_) (fun c1 => ?_)
    · refine zg_bipush (v := -9) dX2_findPeriod_91 (by decide) ?_
      exact zg_iret dX2_findPeriod_93 rfl (hx _ _ hf (Or.inr ⟨hq, Or.inr ⟨fun l a b => hno l a (by omega), rfl⟩⟩))
    · omega
  | succ t ih =>
    intro c mu ol2 hc h1 hT hU hf hno
    refine zg_iload_n (i := 2) dX2_findPeriod_57 rfl rfl ?_
    refine zg_iload_n (i := 1) dX2_findPeriod_58 rfl rfl ?_
    first | with_reducible refine zg_icmpN_gt (tgt := 91) dX2_findPeriod_59 (by decide) (by omega) (by omega) (fun c1 => ?_) (fun c1 => ?_) | refine zg_icmp_gt (tgt := 91) dX2_findPeriod_59 (by decide) (fun c1 => ?_) (fun c1 => ?_)
    · omega
    · refine zg_aload_n (i := 0) dX2_findPeriod_62 rfl rfl ?_
      refine zg_getR dX2_findPeriod_63 flX2_37 (by decide) (by assumption) (by assumption) (by assumption) ?_
      refine zg_callVv (cx_performTick hSu hU) dX2_findPeriod_66 cvX1_performTick mlX2_102 rfl (by assumption) (by assumption) rfl (Nat.le_of_ble_eq_true rfl) ⟨by decide, by decide⟩ ⟨Nat.le_refl _, Nat.le_refl _⟩ (fun mu2 h2 => ?_)
      obtain ⟨⟨ol3, h4⟩, h5⟩ := h2
      rw [show qstep (qit v (lim + (c - 1))) = qit v (lim + (c - 1) + 1) from rfl, show lim + (c - 1) + 1 = lim + c by omega] at h4
      have hT2 : SX mu2 (x + 177) (qit v lim) ol := SX_mv hT (fun q a b => h5 q (by omega))
      have hf2 : zfr mu0 mu2 (x + 177) 38 := fun q hq => by rw [h5 q (by omega), hf q hq]
      refine zg_aload_n (i := 0) dX2_findPeriod_69 rfl rfl ?_
      refine zg_getR dX2_findPeriod_70 flX2_37 (by decide) (by assumption) (by assumption) (by assumption) ?_
      refine zg_aload_n (i := 0) dX2_findPeriod_73 rfl rfl ?_
      refine zg_getR dX2_findPeriod_74 flX2_34 (by decide) (by assumption) (by assumption) (by assumption) ?_
      refine zg_callVi (cx_conf hSu hSt h4 hT2) dX2_findPeriod_77 cvX1_hasConfigurationOf mlX2_170 rfl (by assumption) (by assumption) rfl (Nat.le_of_ble_eq_true rfl) ⟨by decide, by decide⟩ ⟨Nat.le_refl _, Nat.le_refl _⟩ (fun r mu3 h6 => ?_)
      obtain ⟨rfl, h6⟩ := h6
      rcases h6 with ⟨rfl, h6⟩ | ⟨rfl, h6⟩
      · first | with_reducible refine zg_ifN_eq (tgt := 85) dX2_findPeriod_80 (by decide) (by omega) (fun c2 => ?_) (fun c2 => ?_) | refine zg_if_eq (tgt := 85) dX2_findPeriod_80 (by decide) (fun c2 => ?_) (fun c2 => ?_)
        · exact absurd c2 (by decide)
        · refine zg_iload_n (i := 2) dX2_findPeriod_83 rfl rfl ?_
          exact zg_iret dX2_findPeriod_84 rfl (hx _ _ hf2 (Or.inr ⟨hq, Or.inl ⟨c, h1, by omega, h6, hno, rfl⟩⟩))
      · first | with_reducible refine zg_ifN_eq (tgt := 85) dX2_findPeriod_80 (by decide) (by omega) (fun c2 => ?_) (fun c2 => ?_) | refine zg_if_eq (tgt := 85) dX2_findPeriod_80 (by decide) (fun c2 => ?_) (fun c2 => ?_)
        · refine zg_iinc1 (L2 := [_, _, _]) dX2_findPeriod_85 (by decide) rfl rfl ?_
          refine zg_goto (tgt := 57) dX2_findPeriod_88 (by decide) ?_
          refine ih (c + 1) _ ol3 (by omega) (by omega) hT2 (by rw [Nat.add_sub_cancel]; exact h4) hf2 (fun l a b => ?_)
          rcases Nat.lt_or_ge l c with h7 | h7
          · exact hno l a h7
          · rw [show l = c by omega]; exact h6
        · exact absurd rfl c2
set_option maxRecDepth 20000 in
theorem lx_fp13 {S : zS} {x : Nat} {pm : Nat → Nat} (hS : XS S x pm) {v : Nat → Int32} {lim : Nat} (hlim : lim ≤ 200) (mu0 : zU) (Ph : Option zV → zS → zU → Prop) (hx : ∀ mu r, zfr mu0 mu (x + 177) 38 → FD v lim r → Ph (some (.inl r)) S mu) :
    ∀ (t n : Nat) (mu : zU) (ol : List Nat), n + t = lim → SX mu (x + 177) (qit v n) ol → zfr mu0 mu (x + 177) 38 → zG RX2 "findPeriod" cX2_findPeriod 3 (some .int) (zroom 5 0 0) 0 0 Ph 13 [some (.inr (x + 1)), some (.inl (nI lim)), some (.inl (nI n))] [] S (mu) 0 0 := by
  have hN0 : x < S.1 := hS.lt (i := 0) (by decide)
  have hNt : x + 177 < S.1 := hS.lt (by decide)
  have hNu : x + 196 < S.1 := hS.lt (by decide)
  have xk0 := hS.1.2.1
  obtain ⟨-, -, -, -, -, -, xr9, xr10⟩ := hS.2.1
  obtain ⟨-, hSt, hSu⟩ := hS.2.2.1
  have tk0 := hSt.2.1
  have uk0 := hSu.2.1
  intro t
  induction t with
  | zero =>
    intro n mu ol hn hT hf
    obtain rfl : n = lim := by omega
    have hq := qhalt_len hT.1
    refine zg_iload_n (i := 2) dX2_findPeriod_13 rfl rfl ?_
    refine zg_iload_n (i := 1) dX2_findPeriod_14 rfl rfl ?_
    first | with_reducible refine zg_icmpN_ge (tgt := 31) dX2_findPeriod_15 (by decide) (by omega) (by omega) (fun c1 => ?_) (fun c1 => ?_) | refine zg_icmp_ge (tgt := 31) dX2_findPeriod_15 (by decide) (fun c1 => ?_) (fun c1 => ?_)
    · refine zg_aload_n (i := 0) dX2_findPeriod_31 rfl rfl ?_
      refine zg_getR dX2_findPeriod_32 flX2_34 (by decide) (by assumption) (by assumption) (by assumption) ?_
      refine zg_callVi (cx_isHalted hSt hT) dX2_findPeriod_35 cvX1_isHalted mlX2_98 rfl (by assumption) (by assumption) rfl (Nat.le_of_ble_eq_true rfl) ⟨by decide, by decide⟩ ⟨Nat.le_refl _, Nat.le_refl _⟩ (fun r mu2 h2 => ?_)
      obtain ⟨rfl, rfl⟩ := h2
      by_cases hh : qhb (qit v n) ol.length = true
      · rw [if_pos hh]
        first | with_reducible refine zg_ifN_eq (tgt := 44) dX2_findPeriod_38 (by decide) (by omega) (fun c2 => ?_) (fun c2 => ?_) | refine zg_if_eq (tgt := 44) dX2_findPeriod_38 (by decide) (fun c2 => ?_) (fun c2 => ?_)
        · exact absurd c2 (by decide)
        · refine zg_bipush (v := -9) dX2_findPeriod_41 (by decide) ?_
          exact zg_iret dX2_findPeriod_43 rfl (hx _ _ hf (Or.inl ⟨by rw [hq, hh], rfl⟩))
      · rw [if_neg hh]
        first | with_reducible refine zg_ifN_eq (tgt := 44) dX2_findPeriod_38 (by decide) (by omega) (fun c2 => ?_) (fun c2 => ?_) | refine zg_if_eq (tgt := 44) dX2_findPeriod_38 (by decide) (fun c2 => ?_) (fun c2 => ?_)
        · refine zg_aload_n (i := 0) dX2_findPeriod_44 rfl rfl ?_
          refine zg_getR dX2_findPeriod_45 flX2_37 (by decide) (by assumption) (by assumption) (by assumption) ?_
          refine zg_aload_n (i := 0) dX2_findPeriod_48 rfl rfl ?_
          refine zg_getR dX2_findPeriod_49 flX2_34 (by decide) (by assumption) (by assumption) (by assumption) ?_
          refine zg_callVv (cx_copyS hSu hSt (Or.inr (by omega)) hT) dX2_findPeriod_52 cvX1_copyFrom mlX2_91 rfl (by assumption) (by assumption) rfl (Nat.le_of_ble_eq_true rfl) ⟨by decide, by decide⟩ ⟨Nat.le_refl _, Nat.le_refl _⟩ (fun mu3 h3 => ?_)
          obtain ⟨h4, h5⟩ := h3
          refine zg_iconst (v := nI 1) dX2_findPeriod_55 (by decide) ?_
          refine zg_istore_n (i := 2) (L2 := [_, _, _]) dX2_findPeriod_56 rfl (by decide) rfl ?_
          exact lx_fp57 hS hlim (by rw [hq]; simpa using hh) mu0 _ hx n 1 mu3 ol (by omega) (by omega) (SX_mv hT (fun q a b => h5 q (by omega))) h4 (fun q hq => by rw [h5 q (by omega), hf q hq]) (fun l a b => absurd b (by omega))
        · exact absurd rfl c2
    · omega
  | succ t ih =>
    intro n mu ol hn hT hf
    refine zg_iload_n (i := 2) dX2_findPeriod_13 rfl rfl ?_
    refine zg_iload_n (i := 1) dX2_findPeriod_14 rfl rfl ?_
    first | with_reducible refine zg_icmpN_ge (tgt := 31) dX2_findPeriod_15 (by decide) (by omega) (by omega) (fun c1 => ?_) (fun c1 => ?_) | refine zg_icmp_ge (tgt := 31) dX2_findPeriod_15 (by decide) (fun c1 => ?_) (fun c1 => ?_)
    · omega
    · refine zg_aload_n (i := 0) dX2_findPeriod_18 rfl rfl ?_
      refine zg_getR dX2_findPeriod_19 flX2_34 (by decide) (by assumption) (by assumption) (by assumption) ?_
      refine zg_callVv (cx_performTick hSt hT) dX2_findPeriod_22 cvX1_performTick mlX2_102 rfl (by assumption) (by assumption) rfl (Nat.le_of_ble_eq_true rfl) ⟨by decide, by decide⟩ ⟨Nat.le_refl _, Nat.le_refl _⟩ (fun mu2 h2 => ?_)
      obtain ⟨⟨ol3, h4⟩, h5⟩ := h2
      refine zg_iinc1 (L2 := [_, _, _]) dX2_findPeriod_25 (by decide) rfl rfl ?_
      refine zg_goto (tgt := 13) dX2_findPeriod_28 (by decide) ?_
      exact ih (n + 1) _ ol3 (by omega) h4 (fun q hq => by rw [h5 q (by omega), hf q hq])
set_option maxRecDepth 20000 in
theorem cx_findPeriod {S : zS} {x : Nat} {pm : Nat → Nat} (hS : XS S x pm) {mu : zU} {v : Nat → Int32} {ol : List Nat} (hX : SX mu (x + 3) v ol) {lim : Nat} (hlim : lim ≤ 200) : zM yX2_findPeriod cX2_findPeriod 3 (some .int) 5 0 0 [.inr (x + 1), .inl (nI lim)] S mu (zPi S (fun r mu2 => FD v lim r ∧ zfr mu mu2 (x + 177) 38)) := by
  have hN0 : x < S.1 := hS.lt (i := 0) (by decide)
  have hNt : x + 177 < S.1 := hS.lt (by decide)
  have xk0 := hS.1.2.1
  obtain ⟨-, -, xr4, -, -, -, xr9, xr10⟩ := hS.2.1
  obtain ⟨hSs, hSt, hSu⟩ := hS.2.2.1
  have tk0 := hSt.2.1
  refine zM.ofG (by decide +kernel) (Nat.le_of_ble_eq_true rfl) ?_
  refine zg_aload_n (i := 0) dX2_findPeriod_0 rfl rfl ?_
  refine zg_getR dX2_findPeriod_1 flX2_34 (by decide) (by assumption) (by assumption) (by assumption) ?_
  refine zg_aload_n (i := 0) dX2_findPeriod_4 rfl rfl ?_
  refine zg_getR dX2_findPeriod_5 flX2_20 (by decide) (by assumption) (by assumption) (by assumption) ?_
  refine zg_callVv (cx_copyS hSt hSs (Or.inr (by omega)) hX) dX2_findPeriod_8 cvX1_copyFrom mlX2_91 rfl (by assumption) (by assumption) rfl (Nat.le_of_ble_eq_true rfl) ⟨by decide, by decide⟩ ⟨Nat.le_refl _, Nat.le_refl _⟩ (fun mu2 h2 => ?_)
  obtain ⟨h4, h5⟩ := h2
  refine zg_iconst (v := nI 0) dX2_findPeriod_11 (by decide) ?_
  refine zg_istore_n (i := 2) (L2 := [_, _, _]) dX2_findPeriod_12 rfl (by decide) rfl ?_
  exact lx_fp13 hS hlim mu _ (fun mu3 r a b => ⟨_, rfl, rfl, b, a⟩) lim 0 mu2 ol (by omega) h4 (fun q hq => h5 q (by omega))
set_option maxRecDepth 20000 in
theorem lx_fe44 {S : zS} {x : Nat} {pm : Nat → Nat} (hS : XS S x pm) {v : Nat → Int32} {lim w : Nat} (hlim : lim ≤ 200) (hw : w ≤ 200) (mu0 : zU) (Ph : Option zV → zS → zU → Prop) (hx : ∀ mu r, zfr mu0 mu (x + 177) 38 → FE v lim w r → Ph (some (.inl r)) S mu) :
    ∀ (t i : Nat) (mu : zU) (ol ol2 : List Nat), i + t = lim + 1 → SX mu (x + 177) (qit v i) ol → SX mu (x + 196) (qit v (i + w)) ol2 → zfr mu0 mu (x + 177) 38 → (∀ i', i' < i → ¬ QE (qit v (i' + w)) (qit v i')) → zG RX2 "findCycleEntry" cX2_findCycleEntry 4 (some .int) (zroom 5 0 0) 0 0 Ph 44 [some (.inr (x + 1)), some (.inl (nI lim)), some (.inl (nI w)), some (.inl (nI i))] [] S (mu) 0 0 := by
  have hN0 : x < S.1 := hS.lt (i := 0) (by decide)
  have hNt : x + 177 < S.1 := hS.lt (by decide)
  have hNu : x + 196 < S.1 := hS.lt (by decide)
  have xk0 := hS.1.2.1
  obtain ⟨-, -, -, -, -, -, xr9, xr10⟩ := hS.2.1
  obtain ⟨-, hSt, hSu⟩ := hS.2.2.1
  have tk0 := hSt.2.1
  have uk0 := hSu.2.1
  intro t
  induction t with
  | zero =>
    intro i mu ol ol2 hi hT hU hf hno
    refine zg_iload_n (i := 3) dX2_findCycleEntry_44 rfl rfl ?_
    refine zg_iload_n (i := 2) dX2_findCycleEntry_45 rfl rfl ?_
    first | with_reducible refine zg_iaddN dX2_findCycleEntry_46 ?_ | refine zg_iadd dX2_findCycleEntry_46 ?_
    refine zg_iload_n (i := 1) dX2_findCycleEntry_47 rfl rfl ?_
    first | with_reducible refine zg_icmpN_gt (tgt := 87) dX2_findCycleEntry_48 (by decide) (by omega) (by omega) (fun c1 => ?_) (fun c1 => ?_) | refine zg_icmp_gt (tgt := 87) dX2_findCycleEntry_48 (by decide) (fun c1 => ?_) (fun c1 => ?_)
    · refine zg_bipush (v := -9) dX2_findCycleEntry_87 (by decide) ?_
      exact zg_iret dX2_findCycleEntry_89 rfl (hx _ _ hf (Or.inr ⟨fun i' a => hno i' (by omega), rfl⟩))
    · omega
  | succ t ih =>
    intro i mu ol ol2 hi hT hU hf hno
    refine zg_iload_n (i := 3) dX2_findCycleEntry_44 rfl rfl ?_
    refine zg_iload_n (i := 2) dX2_findCycleEntry_45 rfl rfl ?_
    first | with_reducible refine zg_iaddN dX2_findCycleEntry_46 ?_ | refine zg_iadd dX2_findCycleEntry_46 ?_
    refine zg_iload_n (i := 1) dX2_findCycleEntry_47 rfl rfl ?_
    first | with_reducible refine zg_icmpN_gt (tgt := 87) dX2_findCycleEntry_48 (by decide) (by omega) (by omega) (fun c1 => ?_) (fun c1 => ?_) | refine zg_icmp_gt (tgt := 87) dX2_findCycleEntry_48 (by decide) (fun c1 => ?_) (fun c1 => ?_)
    · refine zg_bipush (v := -9) dX2_findCycleEntry_87 (by decide) ?_
      exact zg_iret dX2_findCycleEntry_89 rfl (hx _ _ hf (Or.inr ⟨fun i' a => hno i' (by omega), rfl⟩))
    · refine zg_aload_n (i := 0) dX2_findCycleEntry_51 rfl rfl ?_
      refine zg_getR dX2_findCycleEntry_52 flX2_37 (by decide) (by assumption) (by assumption) (by assumption) ?_
      refine zg_aload_n (i := 0) dX2_findCycleEntry_55 rfl rfl ?_
      refine zg_getR dX2_findCycleEntry_56 flX2_34 (by decide) (by assumption) (by assumption) (by assumption) ?_
      refine zg_callVi (cx_conf hSu hSt hU hT) dX2_findCycleEntry_59 cvX1_hasConfigurationOf mlX2_170 rfl (by assumption) (by assumption) rfl (Nat.le_of_ble_eq_true rfl) ⟨by decide, by decide⟩ ⟨Nat.le_refl _, Nat.le_refl _⟩ (fun r mu3 h6 => ?_)
      obtain ⟨rfl, h6⟩ := h6
      rcases h6 with ⟨rfl, h6⟩ | ⟨rfl, h6⟩
      · first | with_reducible refine zg_ifN_eq (tgt := 67) dX2_findCycleEntry_62 (by decide) (by omega) (fun c2 => ?_) (fun c2 => ?_) | refine zg_if_eq (tgt := 67) dX2_findCycleEntry_62 (by decide) (fun c2 => ?_) (fun c2 => ?_)
        · exact absurd c2 (by decide)
        · refine zg_iload_n (i := 3) dX2_findCycleEntry_65 rfl rfl ?_
          exact zg_iret dX2_findCycleEntry_66 rfl (hx _ _ hf (Or.inl ⟨i, by omega, h6, hno, rfl⟩))
      · first | with_reducible refine zg_ifN_eq (tgt := 67) dX2_findCycleEntry_62 (by decide) (by omega) (fun c2 => ?_) (fun c2 => ?_) | refine zg_if_eq (tgt := 67) dX2_findCycleEntry_62 (by decide) (fun c2 => ?_) (fun c2 => ?_)
        · refine zg_aload_n (i := 0) dX2_findCycleEntry_67 rfl rfl ?_
          refine zg_getR dX2_findCycleEntry_68 flX2_34 (by decide) (by assumption) (by assumption) (by assumption) ?_
          refine zg_callVv (cx_performTick hSt hT) dX2_findCycleEntry_71 cvX1_performTick mlX2_102 rfl (by assumption) (by assumption) rfl (Nat.le_of_ble_eq_true rfl) ⟨by decide, by decide⟩ ⟨Nat.le_refl _, Nat.le_refl _⟩ (fun mu4 h7 => ?_)
          obtain ⟨⟨ol3, h8⟩, h9⟩ := h7
          refine zg_aload_n (i := 0) dX2_findCycleEntry_74 rfl rfl ?_
          refine zg_getR dX2_findCycleEntry_75 flX2_37 (by decide) (by assumption) (by assumption) (by assumption) ?_
          refine zg_callVv (cx_performTick hSu (SX_mv hU (fun q a b => h9 q (by omega)))) dX2_findCycleEntry_78 cvX1_performTick mlX2_102 rfl (by assumption) (by assumption) rfl (Nat.le_of_ble_eq_true rfl) ⟨by decide, by decide⟩ ⟨Nat.le_refl _, Nat.le_refl _⟩ (fun mu5 h10 => ?_)
          obtain ⟨⟨ol4, h11⟩, h12⟩ := h10
          rw [show qstep (qit v (i + w)) = qit v (i + w + 1) from rfl, show i + w + 1 = i + 1 + w by omega] at h11
          refine zg_iinc1 (L2 := [_, _, _, _]) dX2_findCycleEntry_81 (by decide) rfl rfl ?_
          refine zg_goto (tgt := 44) dX2_findCycleEntry_84 (by decide) ?_
          refine ih (i + 1) _ ol3 ol4 (by omega) (SX_mv h8 (fun q a b => h12 q (by omega))) h11 (fun q hq => by rw [h12 q (by omega), h9 q (by omega), hf q hq]) (fun i' a => ?_)
          rcases Nat.lt_or_ge i' i with h13 | h13
          · exact hno i' h13
          · rw [show i' = i by omega]; exact h6
        · exact absurd rfl c2
set_option maxRecDepth 20000 in
theorem lx_fe24 {S : zS} {x : Nat} {pm : Nat → Nat} (hS : XS S x pm) {v : Nat → Int32} {lim w : Nat} (hlim : lim ≤ 200) (hw : w ≤ 200) (mu0 : zU) (Ph : Option zV → zS → zU → Prop) (hx : ∀ mu r, zfr mu0 mu (x + 177) 38 → FE v lim w r → Ph (some (.inl r)) S mu) {ol : List Nat} :
    ∀ (t n : Nat) (mu : zU) (ol2 : List Nat), n + t = w → SX mu (x + 177) v ol → SX mu (x + 196) (qit v n) ol2 → zfr mu0 mu (x + 177) 38 → zG RX2 "findCycleEntry" cX2_findCycleEntry 4 (some .int) (zroom 5 0 0) 0 0 Ph 24 [some (.inr (x + 1)), some (.inl (nI lim)), some (.inl (nI w)), some (.inl (nI n))] [] S (mu) 0 0 := by
  have hN0 : x < S.1 := hS.lt (i := 0) (by decide)
  have hNu : x + 196 < S.1 := hS.lt (by decide)
  have xk0 := hS.1.2.1
  obtain ⟨-, -, -, -, -, -, xr9, xr10⟩ := hS.2.1
  obtain ⟨-, hSt, hSu⟩ := hS.2.2.1
  have uk0 := hSu.2.1
  intro t
  induction t with
  | zero =>
    intro n mu ol2 hn hT hU hf
    obtain rfl : n = w := by omega
    refine zg_iload_n (i := 3) dX2_findCycleEntry_24 rfl rfl ?_
    refine zg_iload_n (i := 2) dX2_findCycleEntry_25 rfl rfl ?_
    first | with_reducible refine zg_icmpN_ge (tgt := 42) dX2_findCycleEntry_26 (by decide) (by omega) (by omega) (fun c1 => ?_) (fun c1 => ?_) | refine zg_icmp_ge (tgt := 42) dX2_findCycleEntry_26 (by decide) (fun c1 => ?_) (fun c1 => ?_)
    · refine zg_iconst (v := nI 0) dX2_findCycleEntry_42 (by decide) ?_
      refine zg_istore_n (i := 3) (L2 := [_, _, _, _]) dX2_findCycleEntry_43 rfl (by decide) rfl ?_
      exact lx_fe44 hS hlim hw mu0 _ hx (lim + 1) 0 mu ol ol2 (by omega) hT (by rw [Nat.zero_add]; exact hU) hf (fun i' a => absurd a (by omega))
    · omega
  | succ t ih =>
    intro n mu ol2 hn hT hU hf
    refine zg_iload_n (i := 3) dX2_findCycleEntry_24 rfl rfl ?_
    refine zg_iload_n (i := 2) dX2_findCycleEntry_25 rfl rfl ?_
    first | with_reducible refine zg_icmpN_ge (tgt := 42) dX2_findCycleEntry_26 (by decide) (by omega) (by omega) (fun c1 => ?_) (fun c1 => ?_) | refine zg_icmp_ge (tgt := 42) dX2_findCycleEntry_26 (by decide) (fun c1 => ?_) (fun c1 => ?_)
    · omega
    · refine zg_aload_n (i := 0) dX2_findCycleEntry_29 rfl rfl ?_
      refine zg_getR dX2_findCycleEntry_30 flX2_37 (by decide) (by assumption) (by assumption) (by assumption) ?_
      refine zg_callVv (cx_performTick hSu hU) dX2_findCycleEntry_33 cvX1_performTick mlX2_102 rfl (by assumption) (by assumption) rfl (Nat.le_of_ble_eq_true rfl) ⟨by decide, by decide⟩ ⟨Nat.le_refl _, Nat.le_refl _⟩ (fun mu2 h2 => ?_)
      obtain ⟨⟨ol3, h4⟩, h5⟩ := h2
      refine zg_iinc1 (L2 := [_, _, _, _]) dX2_findCycleEntry_36 (by decide) rfl rfl ?_
      refine zg_goto (tgt := 24) dX2_findCycleEntry_39 (by decide) ?_
      exact ih (n + 1) _ ol3 (by omega) (SX_mv hT (fun q a b => h5 q (by omega))) h4 (fun q hq => by rw [h5 q (by omega), hf q hq])
set_option maxRecDepth 20000 in
theorem cx_findCycleEntry {S : zS} {x : Nat} {pm : Nat → Nat} (hS : XS S x pm) {mu : zU} {v : Nat → Int32} {ol : List Nat} (hX : SX mu (x + 3) v ol) {lim w : Nat} (hlim : lim ≤ 200) (hw : w ≤ 200) : zM yX2_findCycleEntry cX2_findCycleEntry 4 (some .int) 5 0 0 [.inr (x + 1), .inl (nI lim), .inl (nI w)] S mu (zPi S (fun r mu2 => FE v lim w r ∧ zfr mu mu2 (x + 177) 38)) := by
  have hN0 : x < S.1 := hS.lt (i := 0) (by decide)
  have hNt : x + 177 < S.1 := hS.lt (by decide)
  have hNu : x + 196 < S.1 := hS.lt (by decide)
  have xk0 := hS.1.2.1
  obtain ⟨-, -, xr4, -, -, -, xr9, xr10⟩ := hS.2.1
  obtain ⟨hSs, hSt, hSu⟩ := hS.2.2.1
  have tk0 := hSt.2.1
  have uk0 := hSu.2.1
  refine zM.ofG (by decide +kernel) (Nat.le_of_ble_eq_true rfl) ?_
  refine zg_aload_n (i := 0) dX2_findCycleEntry_0 rfl rfl ?_
  refine zg_getR dX2_findCycleEntry_1 flX2_34 (by decide) (by assumption) (by assumption) (by assumption) ?_
  refine zg_aload_n (i := 0) dX2_findCycleEntry_4 rfl rfl ?_
  refine zg_getR dX2_findCycleEntry_5 flX2_20 (by decide) (by assumption) (by assumption) (by assumption) ?_
  refine zg_callVv (cx_copyS hSt hSs (Or.inr (by omega)) hX) dX2_findCycleEntry_8 cvX1_copyFrom mlX2_91 rfl (by assumption) (by assumption) rfl (Nat.le_of_ble_eq_true rfl) ⟨by decide, by decide⟩ ⟨Nat.le_refl _, Nat.le_refl _⟩ (fun mu2 h2 => ?_)
  obtain ⟨h4, h5⟩ := h2
  refine zg_aload_n (i := 0) dX2_findCycleEntry_11 rfl rfl ?_
  refine zg_getR dX2_findCycleEntry_12 flX2_37 (by decide) (by assumption) (by assumption) (by assumption) ?_
  refine zg_aload_n (i := 0) dX2_findCycleEntry_15 rfl rfl ?_
  refine zg_getR dX2_findCycleEntry_16 flX2_20 (by decide) (by assumption) (by assumption) (by assumption) ?_
  refine zg_callVv (cx_copyS hSu hSs (Or.inr (by omega)) (SX_mv hX (fun q a b => h5 q (by omega)))) dX2_findCycleEntry_19 cvX1_copyFrom mlX2_91 rfl (by assumption) (by assumption) rfl (Nat.le_of_ble_eq_true rfl) ⟨by decide, by decide⟩ ⟨Nat.le_refl _, Nat.le_refl _⟩ (fun mu3 h6 => ?_)
  obtain ⟨h7, h8⟩ := h6
  refine zg_iconst (v := nI 0) dX2_findCycleEntry_22 (by decide) ?_
  refine zg_istore_n (i := 3) (L2 := [_, _, _, _]) dX2_findCycleEntry_23 rfl (by decide) rfl ?_
  exact lx_fe24 hS hlim hw mu _ (fun mu4 r a b => ⟨_, rfl, rfl, b, a⟩) w 0 mu3 ol (by omega) (SX_mv h4 (fun q a b => h8 q (by omega))) h7 (fun q hq => by rw [h8 q (by omega), h5 q (by omega)])
