/-! THE CLASS: cycleStart, cycleLength -/
theorem FD_cs {v : Nat → Int32} {lim : Nat} {r : Int32} (h : FD v lim r) : r = -9 ∨ ∃ l, 1 ≤ l ∧ l ≤ lim ∧ r = nI l := by
  rcases h with ⟨-, h⟩ | ⟨-, ⟨l, h1, h2, -, -, h3⟩ | ⟨-, h⟩⟩
  · exact Or.inl h
  · exact Or.inr ⟨l, h1, h2, h3⟩
  · exact Or.inl h
def CS (v : Nat → Int32) (lim : Nat) (r : Int32) : Prop := (FD v lim (-9) ∧ r = -9) ∨ ∃ l, (1 ≤ l ∧ l ≤ lim) ∧ FD v lim (nI l) ∧ FE v lim l r
def CL (v : Nat → Int32) (lim : Nat) (r : Int32) : Prop := (FD v lim (-9) ∧ r = -9) ∨ ∃ l e, (1 ≤ l ∧ l ≤ lim) ∧ FD v lim (nI l) ∧ FE v lim l e ∧ ((e = -9 ∧ r = -9) ∨ (e ≠ -9 ∧ r = nI l))
set_option maxRecDepth 20000 in
theorem cx_cycleStart {S : zS} {x : Nat} {pm : Nat → Nat} (hS : XS S x pm) {mu : zU} {tl uc : Nat} {v tx bp kp : Nat → Int32} {us sn : Nat → Nat → Int32} (hX : XR mu x pm v tl tx bp uc us kp sn) (e : Int32) : zM yX2_cycleStart cX2_cycleStart 3 (some .int) 6 0 0 [.inr (x + 1), .inl e] S mu (zPi S (fun r mu2 => LM e r (fun lim => CS v lim r) ∧ XR mu2 x pm v tl tx bp uc us kp sn ∧ zfr mu mu2 x 215)) := by
  have hN0 : x < S.1 := hS.lt (i := 0) (by decide)
  have xk0 := hS.1.2.1
  obtain ⟨⟨ol, hSX⟩, -⟩ := id hX
  refine zM.ofG (by decide +kernel) (Nat.le_of_ble_eq_true rfl) ?_
  refine zg_iload_n (i := 1) dX2_cycleStart_0 rfl rfl ?_
  refine zg_callSi (cx_isTickLimit S mu e) dX2_cycleStart_1 ctX2_isTickLimit mlX2_95 rfl rfl (Nat.le_of_ble_eq_true rfl) ⟨by decide, by decide⟩ ⟨Nat.le_refl _, Nat.le_refl _⟩ (fun r mu2 h2 => ?_)
  obtain ⟨rfl, rfl⟩ := h2
  by_cases hc : nI 1 ≤ e ∧ e ≤ nI 200
  · rw [if_pos hc]
    obtain ⟨lim, hl1, hl2, rfl⟩ := lim_ix hc
    have hcl : (nI lim).toNatClampNeg = lim := nI_clamp (by omega)
    first | with_reducible refine zg_ifN_ne (tgt := 9) dX2_cycleStart_4 (by decide) (by omega) (fun c1 => ?_) (fun c1 => ?_) | refine zg_if_ne (tgt := 9) dX2_cycleStart_4 (by decide) (fun c1 => ?_) (fun c1 => ?_)
    · refine zg_aload_n (i := 0) dX2_cycleStart_9 rfl rfl ?_
      refine zg_iload_n (i := 1) dX2_cycleStart_10 rfl rfl ?_
      refine zg_callVi (cx_findPeriod hS hSX hl2) dX2_cycleStart_11 cvX2_findPeriod mlX2_105 rfl (by assumption) (by assumption) rfl (Nat.le_of_ble_eq_true rfl) ⟨by decide, by decide⟩ ⟨Nat.le_refl _, Nat.le_refl _⟩ (fun r mu3 h3 => ?_)
      obtain ⟨h4, h5⟩ := h3
      have hX3 := XR_tr hS hX (fun q hq => h5 q (by omega))
      refine zg_istore_n (i := 2) (L2 := [_, _, _]) dX2_cycleStart_14 rfl (by decide) rfl ?_
      refine zg_iload_n (i := 2) dX2_cycleStart_15 rfl rfl ?_
      refine zg_bipush (v := -9) dX2_cycleStart_16 (by decide) ?_
      rcases FD_cs h4 with rfl | ⟨l, hl3, hl4, rfl⟩
      · refine zg_icmp_ne (tgt := 26) dX2_cycleStart_18 (by decide) (fun c2 => ?_) (fun c2 => ?_)
        · exact absurd rfl c2
        · refine zg_bipush (v := -9) dX2_cycleStart_21 (by decide) ?_
          refine zg_goto (tgt := 32) dX2_cycleStart_23 (by decide) ?_
          exact zg_iret dX2_cycleStart_32 rfl ⟨_, rfl, rfl, Or.inr ⟨hc, by rw [hcl]; exact Or.inl ⟨h4, rfl⟩⟩, hX3, fun q hq => h5 q (by omega)⟩
      · refine zg_icmp_ne (tgt := 26) dX2_cycleStart_18 (by decide) (fun c2 => ?_) (fun c2 => ?_)
        · refine zg_aload_n (i := 0) dX2_cycleStart_26 rfl rfl ?_
          refine zg_iload_n (i := 1) dX2_cycleStart_27 rfl rfl ?_
          refine zg_iload_n (i := 2) dX2_cycleStart_28 rfl rfl ?_
          refine zg_callVi (cx_findCycleEntry hS (SX_mv hSX (fun q a b => h5 q (by omega))) hl2 (show l ≤ 200 by omega)) dX2_cycleStart_29 cvX2_findCycleEntry mlX2_109 rfl (by assumption) (by assumption) rfl (Nat.le_of_ble_eq_true rfl) ⟨by decide, by decide⟩ ⟨Nat.le_refl _, Nat.le_refl _⟩ (fun r mu4 h6 => ?_)
          obtain ⟨h7, h8⟩ := h6
          exact zg_iret dX2_cycleStart_32 rfl ⟨_, rfl, rfl, Or.inr ⟨hc, by rw [hcl]; exact Or.inr ⟨l, ⟨hl3, hl4⟩, h4, h7⟩⟩, XR_tr hS hX3 (fun q hq => h8 q (by omega)), fun q hq => by rw [h8 q (by omega), h5 q (by omega)]⟩
        · exact absurd c2 (nI_m9 (by omega))
    · exact absurd c1 (by decide)
  · rw [if_neg hc]
    first | with_reducible refine zg_ifN_ne (tgt := 9) dX2_cycleStart_4 (by decide) (by omega) (fun c1 => ?_) (fun c1 => ?_) | refine zg_if_ne (tgt := 9) dX2_cycleStart_4 (by decide) (fun c1 => ?_) (fun c1 => ?_)
    · exact absurd rfl c1
    · refine zg_iconst (v := -1) dX2_cycleStart_7 (by decide) ?_
      exact zg_iret dX2_cycleStart_8 rfl ⟨_, rfl, rfl, ⟨Or.inl ⟨hc, rfl⟩, hX, zfr.rf _ _ _⟩⟩
set_option maxRecDepth 20000 in
theorem cx_cycleLength {S : zS} {x : Nat} {pm : Nat → Nat} (hS : XS S x pm) {mu : zU} {tl uc : Nat} {v tx bp kp : Nat → Int32} {us sn : Nat → Nat → Int32} (hX : XR mu x pm v tl tx bp uc us kp sn) (e : Int32) : zM yX2_cycleLength cX2_cycleLength 3 (some .int) 6 0 0 [.inr (x + 1), .inl e] S mu (zPi S (fun r mu2 => LM e r (fun lim => CL v lim r) ∧ XR mu2 x pm v tl tx bp uc us kp sn ∧ zfr mu mu2 x 215)) := by
  have hN0 : x < S.1 := hS.lt (i := 0) (by decide)
  have xk0 := hS.1.2.1
  obtain ⟨⟨ol, hSX⟩, -⟩ := id hX
  refine zM.ofG (by decide +kernel) (Nat.le_of_ble_eq_true rfl) ?_
  refine zg_iload_n (i := 1) dX2_cycleLength_0 rfl rfl ?_
  refine zg_callSi (cx_isTickLimit S mu e) dX2_cycleLength_1 ctX2_isTickLimit mlX2_95 rfl rfl (Nat.le_of_ble_eq_true rfl) ⟨by decide, by decide⟩ ⟨Nat.le_refl _, Nat.le_refl _⟩ (fun r mu2 h2 => ?_)
  obtain ⟨rfl, rfl⟩ := h2
  by_cases hc : nI 1 ≤ e ∧ e ≤ nI 200
  · rw [if_pos hc]
    obtain ⟨lim, hl1, hl2, rfl⟩ := lim_ix hc
    have hcl : (nI lim).toNatClampNeg = lim := nI_clamp (by omega)
    first | with_reducible refine zg_ifN_ne (tgt := 9) dX2_cycleLength_4 (by decide) (by omega) (fun c1 => ?_) (fun c1 => ?_) | refine zg_if_ne (tgt := 9) dX2_cycleLength_4 (by decide) (fun c1 => ?_) (fun c1 => ?_)
    · refine zg_aload_n (i := 0) dX2_cycleLength_9 rfl rfl ?_
      refine zg_iload_n (i := 1) dX2_cycleLength_10 rfl rfl ?_
      refine zg_callVi (cx_findPeriod hS hSX hl2) dX2_cycleLength_11 cvX2_findPeriod mlX2_105 rfl (by assumption) (by assumption) rfl (Nat.le_of_ble_eq_true rfl) ⟨by decide, by decide⟩ ⟨Nat.le_refl _, Nat.le_refl _⟩ (fun r mu3 h3 => ?_)
      obtain ⟨h4, h5⟩ := h3
      have hX3 := XR_tr hS hX (fun q hq => h5 q (by omega))
      refine zg_istore_n (i := 2) (L2 := [_, _, _]) dX2_cycleLength_14 rfl (by decide) rfl ?_
      refine zg_iload_n (i := 2) dX2_cycleLength_15 rfl rfl ?_
      refine zg_bipush (v := -9) dX2_cycleLength_16 (by decide) ?_
      rcases FD_cs h4 with rfl | ⟨l, hl3, hl4, rfl⟩
      · refine zg_icmp_eq (tgt := 32) dX2_cycleLength_18 (by decide) (fun c2 => ?_) (fun c2 => ?_)
        · refine zg_bipush (v := -9) dX2_cycleLength_32 (by decide) ?_
          exact zg_iret dX2_cycleLength_34 rfl ⟨_, rfl, rfl, Or.inr ⟨hc, by rw [hcl]; exact Or.inl ⟨h4, rfl⟩⟩, hX3, fun q hq => h5 q (by omega)⟩
        · exact absurd rfl c2
      · refine zg_icmp_eq (tgt := 32) dX2_cycleLength_18 (by decide) (fun c2 => ?_) (fun c2 => ?_)
        · exact absurd c2 (nI_m9 (by omega))
        · refine zg_aload_n (i := 0) dX2_cycleLength_21 rfl rfl ?_
          refine zg_iload_n (i := 1) dX2_cycleLength_22 rfl rfl ?_
          refine zg_iload_n (i := 2) dX2_cycleLength_23 rfl rfl ?_
          refine zg_callVi (cx_findCycleEntry hS (SX_mv hSX (fun q a b => h5 q (by omega))) hl2 (show l ≤ 200 by omega)) dX2_cycleLength_24 cvX2_findCycleEntry mlX2_109 rfl (by assumption) (by assumption) rfl (Nat.le_of_ble_eq_true rfl) ⟨by decide, by decide⟩ ⟨Nat.le_refl _, Nat.le_refl _⟩ (fun r mu4 h6 => ?_)
          obtain ⟨h7, h8⟩ := h6
          have hX4 := XR_tr hS hX3 (fun q hq => h8 q (by omega))
          refine zg_bipush (v := -9) dX2_cycleLength_27 (by decide) ?_
          refine zg_icmp_ne (tgt := 35) dX2_cycleLength_29 (by decide) (fun c3 => ?_) (fun c3 => ?_)
          · refine zg_iload_n (i := 2) dX2_cycleLength_35 rfl rfl ?_
            exact zg_iret dX2_cycleLength_36 rfl ⟨_, rfl, rfl, Or.inr ⟨hc, by rw [hcl]; exact Or.inr ⟨l, _, ⟨hl3, hl4⟩, h4, h7, Or.inr ⟨c3, rfl⟩⟩⟩, hX4, fun q hq => by rw [h8 q (by omega), h5 q (by omega)]⟩
          · refine zg_bipush (v := -9) dX2_cycleLength_32 (by decide) ?_
            exact zg_iret dX2_cycleLength_34 rfl ⟨_, rfl, rfl, Or.inr ⟨hc, by rw [hcl]; exact Or.inr ⟨l, _, ⟨hl3, hl4⟩, h4, h7, Or.inl ⟨c3, rfl⟩⟩⟩, hX4, fun q hq => by rw [h8 q (by omega), h5 q (by omega)]⟩
    · exact absurd c1 (by decide)
  · rw [if_neg hc]
    first | with_reducible refine zg_ifN_ne (tgt := 9) dX2_cycleLength_4 (by decide) (by omega) (fun c1 => ?_) (fun c1 => ?_) | refine zg_if_ne (tgt := 9) dX2_cycleLength_4 (by decide) (fun c1 => ?_) (fun c1 => ?_)
    · exact absurd rfl c1
    · refine zg_iconst (v := -1) dX2_cycleLength_7 (by decide) ?_
      exact zg_iret dX2_cycleLength_8 rfl ⟨_, rfl, rfl, ⟨Or.inl ⟨hc, rfl⟩, hX, zfr.rf _ _ _⟩⟩
