/-! THE CLASS: load -/
theorem VI_in0 {v w : Nat → Int32} {ol : List Nat} (h : VI v ol) (hw : ∀ j, 145 ≤ j → (j < 250 ∨ 267 ≤ j) → w j = v j) (hz : ∀ j, 250 ≤ j → j < 267 → w j = nI 0) : VI w ol := by
  obtain ⟨⟨h1, h2, h3⟩, h4, h5, h6, h7, h8, -, k, k1, k2, k3⟩ := h
  refine ⟨⟨(hw _ (by omega) (by omega)).trans h1, h2, h3⟩, fun i q hq => ?_, h5, fun i a b => (hw _ (by omega) (by omega)).trans (h6 i a b), fun q hq => PX1_out (h7 q hq) (fun j a b => hw j (by omega) (by omega)), fun q j a b c => (hw _ (by omega) (by omega)).trans (h8 q j a b c), ⟨0, by omega, hz _ (by omega) (by omega), fun j a b => hz _ (by omega) (by omega)⟩, k, k1, (hw _ (by omega) (by omega)).trans k2, fun j a b => (hw _ (by omega) (by omega)).trans (k3 j a b)⟩
  have hi := (List.getElem?_eq_some_iff.mp hq).1
  exact ⟨(hw _ (by omega) (by omega)).trans (h4 i q hq).1, (h4 i q hq).2⟩
theorem XR_tx0 {mu : zU} {x tl uc : Nat} {pm : Nat → Nat} {v tx bp kp : Nat → Int32} {us sn : Nat → Nat → Int32} (h : XR mu x pm v tl tx bp uc us kp sn) : XR (zup mu x 1 (nI 0)) x pm v 0 tx bp uc us kp sn := by
  obtain ⟨⟨ol, v1⟩, ⟨t1, t2, t3⟩, ⟨b1, b2⟩, ⟨u1, u2, u3⟩, s1⟩ := h
  refine ⟨⟨ol, SX_mv v1 (fun q a b => by rw [zup_n (by omega)])⟩, ⟨by rw [zup_s, upd_s], by omega, fun j hj => absurd hj (by omega)⟩, ⟨fun j hj => ?_, ?_⟩, ⟨?_, u2, fun i hi => ?_⟩, fun q hq => ⟨?_, (s1 q hq).2.1, fun e => ?_⟩⟩
  · rw [zup_n (by omega)]; exact b1 j hj
  · rw [zup_s, upd_n (by omega)]; exact b2
  · rw [zup_s, upd_n (by omega)]; exact u1
  · obtain ⟨ol2, h2⟩ := u3 i hi
    exact ⟨ol2, SX_mv h2 (fun q a b => by rw [zup_n (by omega)])⟩
  · rw [zup_n (by omega)]; exact (s1 q hq).1
  · obtain ⟨ol2, h2⟩ := (s1 q hq).2.2 e
    exact ⟨ol2, SX_mv h2 (fun q a b => by rw [zup_n (by omega)])⟩
theorem SX_ld {mu : zU} {x tl : Nat} {v tx : Nat → Int32} {ol : List Nat} (h : SX mu (x + 3) v ol) (hok : ∀ k, k < tl → qok tx k) : SX (zup (zup (zrow mu (x + 3 + 1) (qpr tx (mu (x + 3 + 1)) tl)) x 1 (nI 0)) (x + 3) 6 (nI 0)) (x + 3) (cpi (qpr tx v tl) (fun _ => nI 0) 250 17) ol := by
  obtain ⟨h0, g1, g2, g3, g4, g5, g6, g7, g8, g9, g10, g11⟩ := h
  have hl4 := h0.1.2.2
  have hn20 : zn v 267 ≤ 20 := by
    obtain ⟨n2, w1, w2, -⟩ := h0.2.2.2.2.2.2.2
    rw [zn_of w2 (by omega)]; exact w1
  have hw : ∀ j, 72 ≤ j → (j < 250 ∨ 267 ≤ j) → cpi (qpr tx v tl) (fun _ => nI 0) 250 17 j = v j := fun j a b => by rw [cpi_out (by omega), qpr_ge a tl hok]
  have hz : ∀ j, 250 ≤ j → j < 267 → cpi (qpr tx v tl) (fun _ => nI 0) 250 17 j = nI 0 := fun j a b => by rw [cpi_in (by omega) (by omega)]
  refine ⟨VI_in0 h0 (fun j a b => hw j (by omega) b) hz, fun j hj => ?_, fun j hj => ?_, ?_, fun j hj => ?_, ?_, fun j hj => ?_, ?_, fun j hj => ?_, ?_, ?_, fun i hi => ?_⟩
  · rw [zup_n (by omega), zup_n (by omega), zrow_s, cpi_out (by omega)]; exact qpr_lt hj tl
  · rw [zup_n (by omega), zup_n (by omega), zrow_n (by omega), hw _ (by omega) (by omega)]; exact g2 j hj
  · rw [zup_s, upd_n (by omega), zup_n (by omega), zrow_n (by omega), hw _ (by omega) (by omega)]; exact g3
  · rw [zup_n (by omega), zup_n (by omega), zrow_n (by omega), hw _ (by omega) (by omega)]; exact g4 j hj
  · rw [zup_s, upd_s, hz _ (by omega) (by omega)]
  · rw [zn_of (hz 250 (by omega) (by omega)) (by omega)] at hj
    omega
  · rw [zup_s, upd_n (by omega), zup_n (by omega), zrow_n (by omega), hw _ (by omega) (by omega)]; exact g7
  · have hzn : zn (cpi (qpr tx v tl) (fun _ => nI 0) 250 17) 267 = zn v 267 := by rw [zn, zn, hw _ (by omega) (by omega)]
    rw [hzn] at hj
    rw [zup_n (by omega), zup_n (by omega), zrow_n (by omega), hw _ (by omega) (by omega)]; exact g8 j hj
  · rw [zup_s, upd_n (by omega), zup_n (by omega), zrow_n (by omega), hw _ (by omega) (by omega)]; exact g9
  · rw [zup_s, upd_n (by omega), zup_n (by omega), zrow_n (by omega), hw _ (by omega) (by omega)]; exact g10
  · exact PX_out (g11 i hi) (fun q a c => by rw [zup_n (by omega), zup_n (by omega), zrow_n (by omega)]) (fun j a c => hw j (by omega) (by omega))
set_option maxRecDepth 20000 in
theorem cx_load {S : zS} {x : Nat} {pm : Nat → Nat} (hS : XS S x pm) {mu : zU} {tl uc : Nat} {v tx bp kp : Nat → Int32} {us sn : Nat → Nat → Int32} (hX : XR mu x pm v tl tx bp uc us kp sn) : zM yX2_load cX2_load 2 (some .int) 4 0 0 [.inr (x + 1)] S mu (zTi S (fun r T mu2 => XP S T x mu mu2 (fun pm2 => (∃ e, EP tx tl e ∧ e ≠ -9 ∧ r = -10 - e ∧ XR mu2 x pm2 v tl tx bp uc us kp sn) ∨ (EP tx tl (-9) ∧ r = nI (qmny tx tl) ∧ XR mu2 x pm2 (qload tx tl v) 0 tx bp (ucN uc) (usN uc us v) kp sn)))) := by
  have hN0 : x < S.1 := hS.lt (i := 0) (by decide)
  have xk0 := hS.1.2.1
  obtain ⟨t1, t2, t3⟩ := hX.2.1
  refine zM.ofG (by decide +kernel) (Nat.le_of_ble_eq_true rfl) ?_
  refine zg_aload_n (i := 0) dX2_load_0 rfl rfl ?_
  refine zg_callVi (cx_errorPosition hS mu t1 t2 t3) dX2_load_1 cvX2_errorPosition mlX2_44 rfl (by assumption) (by assumption) rfl (Nat.le_of_ble_eq_true rfl) ⟨by decide, by decide⟩ ⟨Nat.le_refl _, Nat.le_refl _⟩ (fun r mu2 h2 => ?_)
  obtain ⟨rfl, he⟩ := h2
  refine zg_istore_n (i := 1) (L2 := [_, _]) dX2_load_4 rfl (by decide) rfl ?_
  refine zg_iload_n (i := 1) dX2_load_5 rfl rfl ?_
  refine zg_bipush (v := -9) dX2_load_6 (by decide) ?_
  refine zg_icmp_eq (tgt := 16) dX2_load_8 (by decide) (fun c => ?_) (fun c => ?_)
  · subst c
    have hok : ∀ k, k < tl → qok tx k := by
      rcases he with ⟨i, a1, a2, a3, a4⟩ | ⟨a1, -⟩
      · exact absurd a4.symm (nI_m9 (by omega))
      · exact a1
    refine zg_aload_n (i := 0) dX2_load_16 rfl rfl ?_
    refine zg_callTv (cx_keepForUndo hS hX) dX2_load_17 cvX2_keepForUndo mlX2_48 rfl (by assumption) (by assumption) rfl (Nat.le_of_ble_eq_true rfl) ⟨by decide, by decide⟩ ⟨Nat.le_refl _, Nat.le_refl _⟩ (fun T mu3 h3 => ?_)
    obtain ⟨hT, pm2, hS2, hX2, hf⟩ := h3
    obtain ⟨⟨ol2, hSX2⟩, ⟨v1, v2, v3⟩, -⟩ := id hX2
    have tN0 : x < T.1 := hS2.lt (i := 0) (by decide)
    have tNs : x + 3 < T.1 := hS2.lt (by decide)
    have tk0 := hS2.1.2.1
    have tr4 := hS2.2.1.2.2.1
    have tsk0 := hS2.2.2.1.1.2.1
    refine zg_aload_n (i := 0) dX2_load_20 rfl rfl ?_
    refine zg_callVv (cx_readProgram hS2 mu3 v1 v2 v3 hok) dX2_load_21 cvX2_readProgram mlX2_51 rfl (by assumption) (by assumption) rfl (Nat.le_of_ble_eq_true rfl) ⟨by decide, by decide⟩ ⟨Nat.le_refl _, Nat.le_refl _⟩ (fun mu4 h4 => ?_)
    subst h4
    refine zg_aload_n (i := 0) dX2_load_24 rfl rfl ?_
    refine zg_iconst (v := nI 0) dX2_load_25 (by decide) ?_
    refine zg_putI dX2_load_26 flX2_40 (by decide) (by assumption) (by assumption) ?_
    refine zg_aload_n (i := 0) dX2_load_29 rfl rfl ?_
    refine zg_getR dX2_load_30 flX2_20 (by decide) (by assumption) (by assumption) (by assumption) ?_
    refine zg_iconst (v := nI 0) dX2_load_33 (by decide) ?_
    refine zg_putI dX2_load_34 flX2_54 (by decide) (by assumption) (by assumption) ?_
    refine zg_aload_n (i := 0) dX2_load_37 rfl rfl ?_
    refine zg_getR dX2_load_38 flX2_20 (by decide) (by assumption) (by assumption) (by assumption) ?_
    refine zg_callVv (cx_beginRun hS2.2.2.1.1 (SX_ld hSX2 hok)) dX2_load_41 cvX1_beginRun mlX2_57 rfl (by assumption) (by assumption) rfl (Nat.le_of_ble_eq_true rfl) ⟨by decide, by decide⟩ ⟨Nat.le_refl _, Nat.le_refl _⟩ (fun mu5 h5 => ?_)
    obtain ⟨h6, h7⟩ := h5
    rw [qload_eq] at h6
    refine zg_aload_n (i := 0) dX2_load_44 rfl rfl ?_
    refine zg_getR dX2_load_45 flX2_20 (by decide) (by assumption) (by assumption) (by assumption) ?_
    refine zg_callVi (cx_count hS2.2.2.1.1 mu5) dX2_load_48 cvX1_countFilledCells mlX2_60 rfl (by assumption) (by assumption) rfl (Nat.le_of_ble_eq_true rfl) ⟨by decide, by decide⟩ ⟨Nat.le_refl _, Nat.le_refl _⟩ (fun r mu6 h8 => ?_)
    obtain ⟨rfl, rfl⟩ := h8
    have hcnt : qfill (mu6 (x + 3 + 2)) 72 = qmny tx tl := by
      rw [← (qpr_fill (v := v) tl hok).2.2]
      refine qfill_cg 72 (fun j hj => ?_)
      rw [h6.2.2.1 j hj, ← qload_eq, qbegin, if_pos (by omega), show 72 + j - 72 = j by omega, cpi_out (by omega)]
    rw [hcnt]
    have hM : ∀ q, (q < x + 3 ∨ x + 22 ≤ q) → mu6 q = zup mu3 x 1 (nI 0) q := fun q hq => by
      rw [h7 q (by omega), zup_n (by omega)]
      by_cases hqx : q = x
      · rw [hqx, zup_s, zup_s, zrow_n (by omega)]
      · rw [zup_n hqx, zup_n hqx, zrow_n (by omega)]
    exact zg_iret dX2_load_51 rfl ⟨_, rfl, hT.1, hT, fun q hq => by rw [hM q (by omega), zup_n (by omega), hf q hq], pm2, hS2, Or.inr ⟨he, rfl, XR_now hS2 (XR_tx0 hX2) (fun q a b => hM q a) h6⟩⟩
  · refine zg_bipush (v := -10) dX2_load_11 (by decide) ?_
    refine zg_iload_n (i := 1) dX2_load_13 rfl rfl ?_
    first | with_reducible refine zg_isubN dX2_load_14 (by omega) ?_ | refine zg_isub dX2_load_14 ?_
    exact zg_iret dX2_load_15 rfl ⟨_, rfl, rfl, XT.rf S x, zfr.rf _ _ _, pm, hS, Or.inl ⟨_, he, c, rfl, hX⟩⟩
