/-! THE CLASS: step, movable, stacks of stacks -/
theorem upd_same {f : Nat → Int32} {i : Nat} {x : Int32} (h : f i = x) : upd f i x = f := by
  funext j
  by_cases hj : j = i
  · rw [hj, upd_s, h]
  · rw [upd_n hj]
set_option maxRecDepth 20000 in
theorem cx_step {S : zS} {k : Nat} (hS : PS S k) {mu : zU} {v : Nat → Int32} {o : Nat} (hX : PX mu k v o) : zM yX0_step cX0_step 1 none 0 0 0 [.inr (k + 1)] S mu (zPv S (fun mu2 => PX mu2 k (qmove v o) o ∧ zfr mu mu2 k 3)) := by
  obtain ⟨hN2, k0, k1, k2, r5, r7⟩ := hS
  have hN0 : k < S.1 := by omega
  obtain ⟨x, y, dr, ss, sl, ns, s0, s1, s2, hP, hR⟩ := id hX
  obtain ⟨z5, a1, a2, a3⟩ := hP.ns
  obtain ⟨eM, hM⟩ := hP.move
  have g0 : v o = nI x := hP.1
  have g1 : v (o + 1) = nI y := hP.2.1
  have f0 : mu k 0 = nI x := hR.1.trans g0
  have f1 : mu k 1 = nI y := hR.2.1.trans g1
  have f2 : mu k 2 = nI dr := hR.2.2.1.trans hP.2.2.1
  obtain ⟨b1, b2, b3, -⟩ := hP.2.2.2.2.2.2.2.2.2.1
  have hcol : ∀ X : Nat, (x + qdx dr) % 12 = X → (y + qdy dr) % 6 = y → PX (zup mu k 0 (nI X)) k (qmove v o) o ∧ zfr mu (zup mu k 0 (nI X)) k 3 := by
    intro X h1 h2
    refine ⟨⟨_, _, _, _, _, _, _, _, _, hM, ?_⟩, zfr_up (by omega) (by omega)⟩
    rw [eM, h1, h2, upd_same (f := upd v o (nI X)) (by rw [upd_n (by omega)]; exact g1)]
    exact PR_fld (d := 0) hR (by omega) (by omega) (by omega)
  have hrow : ∀ Y : Nat, (x + qdx dr) % 12 = x → (y + qdy dr) % 6 = Y → PX (zup mu k 1 (nI Y)) k (qmove v o) o ∧ zfr mu (zup mu k 1 (nI Y)) k 3 := by
    intro Y h1 h2
    refine ⟨⟨_, _, _, _, _, _, _, _, _, hM, ?_⟩, zfr_up (by omega) (by omega)⟩
    rw [eM, h1, h2, upd_same g0]
    exact PR_fld (d := 1) hR (by omega) (by omega) (by omega)
  refine zM.ofG (by decide +kernel) (Nat.le_of_ble_eq_true rfl) ?_
  refine zg_aload_n (i := 0) dX0_step_0 rfl rfl ?_
  first | with_reducible refine zg_getIR dX0_step_1 flX0_28 (by decide) (by assumption) (by assumption) (by omega) ?_ | refine zg_getI dX0_step_1 flX0_28 (by decide) (by assumption) (by assumption) ?_
  refine zg_val f2 ?_
  rcases (show dr = 0 ∨ dr = 1 ∨ dr = 2 ∨ dr = 3 by omega) with rfl | rfl | rfl | rfl
  · have q1 : qdx 0 = 1 := by decide
    have q2 : qdy 0 = 0 := by decide
    refine zg_tableIn (off := 28) (tgt := 32) dX0_step_4 (by decide) (by decide) rfl (by decide) ?_
    refine zg_aload_n (i := 0) dX0_step_32 rfl rfl ?_
    refine zg_aload_n (i := 0) dX0_step_33 rfl rfl ?_
    first | with_reducible refine zg_getIR dX0_step_34 flX0_22 (by decide) (by assumption) (by assumption) (by omega) ?_ | refine zg_getI dX0_step_34 flX0_22 (by decide) (by assumption) (by assumption) ?_
    refine zg_val f0 ?_
    refine zg_bipush (v := nI 11) dX0_step_37 (by decide) ?_
    first | with_reducible refine zg_icmpN_ge (tgt := 51) dX0_step_39 (by decide) (by omega) (by omega) (fun c => ?_) (fun c => ?_) | refine zg_icmp_ge (tgt := 51) dX0_step_39 (by decide) (fun c => ?_) (fun c => ?_)
    · refine zg_iconst (v := nI 0) dX0_step_51 (by decide) ?_
      refine zg_putI dX0_step_52 flX0_22 (by decide) (by assumption) (by assumption) ?_
      refine zg_goto (tgt := 129) dX0_step_55 (by decide) ?_
      exact zg_vret dX0_step_129 rfl ⟨rfl, rfl, (hcol 0 (by omega) (by omega))⟩
    · refine zg_aload_n (i := 0) dX0_step_42 rfl rfl ?_
      first | with_reducible refine zg_getIR dX0_step_43 flX0_22 (by decide) (by assumption) (by assumption) (by omega) ?_ | refine zg_getI dX0_step_43 flX0_22 (by decide) (by assumption) (by assumption) ?_
      refine zg_val f0 ?_
      refine zg_iconst (v := nI 1) dX0_step_46 (by decide) ?_
      first | with_reducible refine zg_iaddN dX0_step_47 ?_ | refine zg_iadd dX0_step_47 ?_
      refine zg_goto (tgt := 52) dX0_step_48 (by decide) ?_
      refine zg_putI dX0_step_52 flX0_22 (by decide) (by assumption) (by assumption) ?_
      refine zg_goto (tgt := 129) dX0_step_55 (by decide) ?_
      exact zg_vret dX0_step_129 rfl ⟨rfl, rfl, (hcol (x + 1) (by omega) (by omega))⟩
  · have q1 : qdx 1 = 0 := by decide
    have q2 : qdy 1 = 1 := by decide
    refine zg_tableIn (off := 54) (tgt := 58) dX0_step_4 (by decide) (by decide) rfl (by decide) ?_
    refine zg_aload_n (i := 0) dX0_step_58 rfl rfl ?_
    refine zg_aload_n (i := 0) dX0_step_59 rfl rfl ?_
    first | with_reducible refine zg_getIR dX0_step_60 flX0_25 (by decide) (by assumption) (by assumption) (by omega) ?_ | refine zg_getI dX0_step_60 flX0_25 (by decide) (by assumption) (by assumption) ?_
    refine zg_val f1 ?_
    refine zg_iconst (v := nI 5) dX0_step_63 (by decide) ?_
    first | with_reducible refine zg_icmpN_ge (tgt := 76) dX0_step_64 (by decide) (by omega) (by omega) (fun c => ?_) (fun c => ?_) | refine zg_icmp_ge (tgt := 76) dX0_step_64 (by decide) (fun c => ?_) (fun c => ?_)
    · refine zg_iconst (v := nI 0) dX0_step_76 (by decide) ?_
      refine zg_putI dX0_step_77 flX0_25 (by decide) (by assumption) (by assumption) ?_
      refine zg_goto (tgt := 129) dX0_step_80 (by decide) ?_
      exact zg_vret dX0_step_129 rfl ⟨rfl, rfl, (hrow 0 (by omega) (by omega))⟩
    · refine zg_aload_n (i := 0) dX0_step_67 rfl rfl ?_
      first | with_reducible refine zg_getIR dX0_step_68 flX0_25 (by decide) (by assumption) (by assumption) (by omega) ?_ | refine zg_getI dX0_step_68 flX0_25 (by decide) (by assumption) (by assumption) ?_
      refine zg_val f1 ?_
      refine zg_iconst (v := nI 1) dX0_step_71 (by decide) ?_
      first | with_reducible refine zg_iaddN dX0_step_72 ?_ | refine zg_iadd dX0_step_72 ?_
      refine zg_goto (tgt := 77) dX0_step_73 (by decide) ?_
      refine zg_putI dX0_step_77 flX0_25 (by decide) (by assumption) (by assumption) ?_
      refine zg_goto (tgt := 129) dX0_step_80 (by decide) ?_
      exact zg_vret dX0_step_129 rfl ⟨rfl, rfl, (hrow (y + 1) (by omega) (by omega))⟩
  · have q1 : qdx 2 = 11 := by decide
    have q2 : qdy 2 = 0 := by decide
    refine zg_tableIn (off := 79) (tgt := 83) dX0_step_4 (by decide) (by decide) rfl (by decide) ?_
    refine zg_aload_n (i := 0) dX0_step_83 rfl rfl ?_
    refine zg_aload_n (i := 0) dX0_step_84 rfl rfl ?_
    first | with_reducible refine zg_getIR dX0_step_85 flX0_22 (by decide) (by assumption) (by assumption) (by omega) ?_ | refine zg_getI dX0_step_85 flX0_22 (by decide) (by assumption) (by assumption) ?_
    refine zg_val f0 ?_
    first | with_reducible refine zg_ifN_le (tgt := 100) dX0_step_88 (by decide) (by omega) (fun c => ?_) (fun c => ?_) | refine zg_if_le (tgt := 100) dX0_step_88 (by decide) (fun c => ?_) (fun c => ?_)
    · refine zg_bipush (v := nI 11) dX0_step_100 (by decide) ?_
      refine zg_putI dX0_step_102 flX0_22 (by decide) (by assumption) (by assumption) ?_
      refine zg_goto (tgt := 129) dX0_step_105 (by decide) ?_
      exact zg_vret dX0_step_129 rfl ⟨rfl, rfl, (hcol 11 (by omega) (by omega))⟩
    · refine zg_aload_n (i := 0) dX0_step_91 rfl rfl ?_
      first | with_reducible refine zg_getIR dX0_step_92 flX0_22 (by decide) (by assumption) (by assumption) (by omega) ?_ | refine zg_getI dX0_step_92 flX0_22 (by decide) (by assumption) (by assumption) ?_
      refine zg_val f0 ?_
      refine zg_iconst (v := nI 1) dX0_step_95 (by decide) ?_
      first | with_reducible refine zg_isubN dX0_step_96 (by omega) ?_ | refine zg_isub dX0_step_96 ?_
      refine zg_goto (tgt := 102) dX0_step_97 (by decide) ?_
      refine zg_putI dX0_step_102 flX0_22 (by decide) (by assumption) (by assumption) ?_
      refine zg_goto (tgt := 129) dX0_step_105 (by decide) ?_
      exact zg_vret dX0_step_129 rfl ⟨rfl, rfl, (hcol (x - 1) (by omega) (by omega))⟩
  · have q1 : qdx 3 = 0 := by decide
    have q2 : qdy 3 = 5 := by decide
    refine zg_tableOut (tgt := 108) dX0_step_4 (by decide) (by decide) ?_
    refine zg_aload_n (i := 0) dX0_step_108 rfl rfl ?_
    refine zg_aload_n (i := 0) dX0_step_109 rfl rfl ?_
    first | with_reducible refine zg_getIR dX0_step_110 flX0_25 (by decide) (by assumption) (by assumption) (by omega) ?_ | refine zg_getI dX0_step_110 flX0_25 (by decide) (by assumption) (by assumption) ?_
    refine zg_val f1 ?_
    first | with_reducible refine zg_ifN_le (tgt := 125) dX0_step_113 (by decide) (by omega) (fun c => ?_) (fun c => ?_) | refine zg_if_le (tgt := 125) dX0_step_113 (by decide) (fun c => ?_) (fun c => ?_)
    · refine zg_iconst (v := nI 5) dX0_step_125 (by decide) ?_
      refine zg_putI dX0_step_126 flX0_25 (by decide) (by assumption) (by assumption) ?_
      exact zg_vret dX0_step_129 rfl ⟨rfl, rfl, (hrow 5 (by omega) (by omega))⟩
    · refine zg_aload_n (i := 0) dX0_step_116 rfl rfl ?_
      first | with_reducible refine zg_getIR dX0_step_117 flX0_25 (by decide) (by assumption) (by assumption) (by omega) ?_ | refine zg_getI dX0_step_117 flX0_25 (by decide) (by assumption) (by assumption) ?_
      refine zg_val f1 ?_
      refine zg_iconst (v := nI 1) dX0_step_120 (by decide) ?_
      first | with_reducible refine zg_isubN dX0_step_121 (by omega) ?_ | refine zg_isub dX0_step_121 ?_
      refine zg_goto (tgt := 126) dX0_step_122 (by decide) ?_
      refine zg_putI dX0_step_126 flX0_25 (by decide) (by assumption) (by assumption) ?_
      exact zg_vret dX0_step_129 rfl ⟨rfl, rfl, (hrow (y - 1) (by omega) (by omega))⟩
set_option maxRecDepth 20000 in
theorem cx_movable {S : zS} {k : Nat} (hS : PS S k) {mu : zU} {ns sc : Nat} (h1 : 1 ≤ ns) (h3 : ns ≤ 3) (f8 : mu k 8 = nI ns) (fsz : mu (k + 2) (ns - 1) = nI sc) (hsc : sc ≤ 16) (n : Int32) : zM yX0_movable cX0_movable 3 (some .int) 0 0 0 [.inr (k + 1), .inl n] S mu (zPi S (fun r mu2 => mu2 = mu ∧ r = nI (qclamp n sc))) := by
  obtain ⟨hN2, k0, k1, k2, r5, r7⟩ := hS
  have hN0 : k < S.1 := by omega
  refine zM.ofG (by decide +kernel) (Nat.le_of_ble_eq_true rfl) ?_
  refine zg_aload_n (i := 0) dX0_movable_0 rfl rfl ?_
  refine zg_getR dX0_movable_1 flX0_15 (by decide) (by assumption) (by assumption) (by assumption) ?_
  refine zg_aload_n (i := 0) dX0_movable_4 rfl rfl ?_
  first | with_reducible refine zg_getIR dX0_movable_5 flX0_18 (by decide) (by assumption) (by assumption) (by omega) ?_ | refine zg_getI dX0_movable_5 flX0_18 (by decide) (by assumption) (by assumption) ?_
  refine zg_val f8 ?_
  refine zg_iconst (v := nI 1) dX0_movable_8 (by decide) ?_
  first | with_reducible refine zg_isubN dX0_movable_9 (by omega) ?_ | refine zg_isub dX0_movable_9 ?_
  first | with_reducible refine zg_ialdR dX0_movable_10 (by assumption) (by assumption) rfl (by omega) (by decide) ?_ | refine zg_iald dX0_movable_10 (by assumption) (by assumption) rfl (by omega) (by decide) ?_
  refine zg_val fsz ?_
  refine zg_istore_n (i := 2) (L2 := [_, _, _]) dX0_movable_11 rfl (by decide) rfl ?_
  refine zg_iload_n (i := 1) dX0_movable_12 rfl rfl ?_
  refine zg_if_ge (tgt := 18) dX0_movable_13 (by decide) (fun c => ?_) (fun c => ?_)
  · refine zg_iload_n (i := 1) dX0_movable_18 rfl rfl ?_
    refine zg_iload_n (i := 2) dX0_movable_19 rfl rfl ?_
    refine zg_icmp_le (tgt := 27) dX0_movable_20 (by decide) (fun c2 => ?_) (fun c2 => ?_)
    · refine zg_iload_n (i := 1) dX0_movable_27 rfl rfl ?_
      exact zg_iret dX0_movable_28 rfl ⟨_, rfl, rfl, ⟨rfl, (qclamp_in c c2).symm⟩⟩
    · refine zg_iload_n (i := 2) dX0_movable_23 rfl rfl ?_
      refine zg_goto (tgt := 28) dX0_movable_24 (by decide) ?_
      exact zg_iret dX0_movable_28 rfl ⟨_, rfl, rfl, ⟨rfl, by rw [qclamp, if_neg (Int32.not_lt.mpr c), if_pos (Int32.not_le.mp c2)]⟩⟩
  · refine zg_iconst (v := nI 0) dX0_movable_16 (by decide) ?_
    exact zg_iret dX0_movable_17 rfl ⟨_, rfl, rfl, ⟨rfl, by rw [qclamp, if_pos (Int32.not_le.mp c)]⟩⟩
set_option maxRecDepth 20000 in
theorem cx_openStack {S : zS} {k : Nat} (hS : PS S k) {mu : zU} {v : Nat → Int32} {o : Nat} (hX : PX mu k v o) (n : Int32) : zM yX0_openStack cX0_openStack 3 none 1 0 0 [.inr (k + 1), .inl n] S mu (zPv S (fun mu2 => PX mu2 k (qopen1 v o n) o ∧ zfr mu mu2 k 3)) := by
  obtain ⟨hN2, k0, k1, k2, r5, r7⟩ := id hS
  have hN0 : k < S.1 := by omega
  have hN1 : k + 1 < S.1 := by omega
  obtain ⟨x, y, dr, ss, sl, ns, s0, s1, s2, hP, hR⟩ := id hX
  obtain ⟨hc, hq, hh, hcl⟩ := hP.cur
  obtain ⟨z5, a1, a2, a3⟩ := hP.ns
  obtain ⟨-, -, -, -, -, f8, f6, fs, fv⟩ := id hR
  have f8 : mu k 8 = nI ns := f8.trans hP.2.2.2.2.2.1
  have fsz : mu (k + 2) (ns - 1) = nI (PIsc ns s0 s1 s2) := by rw [fs _ (by omega), show o + 6 + (ns - 1) = o + 5 + ns by omega]; exact hc
  refine zM.ofG (by decide +kernel) (Nat.le_of_ble_eq_true rfl) ?_
  rw [qopen1, z5]
  refine zg_aload_n (i := 0) dX0_openStack_0 rfl rfl ?_
  first | with_reducible refine zg_getIR dX0_openStack_1 flX0_18 (by decide) (by assumption) (by assumption) (by omega) ?_ | refine zg_getI dX0_openStack_1 flX0_18 (by decide) (by assumption) (by assumption) ?_
  refine zg_val f8 ?_
  refine zg_iconst (v := nI 3) dX0_openStack_4 (by decide) ?_
  first | with_reducible refine zg_icmpN_lt (tgt := 9) dX0_openStack_5 (by decide) (by omega) (by omega) (fun c => ?_) (fun c => ?_) | refine zg_icmp_lt (tgt := 9) dX0_openStack_5 (by decide) (fun c => ?_) (fun c => ?_)
  · have hn3 : ns ≠ 3 := by omega
    have hk := qclamp_le n (n := PIsc ns s0 s1 s2) (by omega)
    rw [if_neg hn3, hq, zn_of hc (by omega)]
    obtain ⟨eO, hO⟩ := hP.opn hn3 hk
    refine zg_aload_n (i := 0) dX0_openStack_9 rfl rfl ?_
    refine zg_iload_n (i := 1) dX0_openStack_10 rfl rfl ?_
    refine zg_callVi (cx_movable hS a1 a2 f8 fsz (by omega) n) dX0_openStack_11 cvX0_movable mlX0_82 rfl (by assumption) (by assumption) rfl (Nat.le_of_ble_eq_true rfl) ⟨by decide, by decide⟩ ⟨Nat.le_refl _, Nat.le_refl _⟩ (fun r mu2 h2 => ?_)
    obtain ⟨rfl, rfl⟩ := h2
    generalize qclamp n (PIsc ns s0 s1 s2) = kk at *
    refine zg_istore_n (i := 2) (L2 := [_, _, _]) dX0_openStack_14 rfl (by decide) rfl ?_
    refine zg_aload_n (i := 0) dX0_openStack_15 rfl rfl ?_
    refine zg_getR dX0_openStack_16 flX0_15 (by decide) (by assumption) (by assumption) (by assumption) ?_
    refine zg_aload_n (i := 0) dX0_openStack_19 rfl rfl ?_
    first | with_reducible refine zg_getIR dX0_openStack_20 flX0_18 (by decide) (by assumption) (by assumption) (by omega) ?_ | refine zg_getI dX0_openStack_20 flX0_18 (by decide) (by assumption) (by assumption) ?_
    refine zg_val f8 ?_
    refine zg_iconst (v := nI 1) dX0_openStack_23 (by decide) ?_
    first | with_reducible refine zg_isubN dX0_openStack_24 (by omega) ?_ | refine zg_isub dX0_openStack_24 ?_
    refine zg_dup2 dX0_openStack_25 ?_
    first | with_reducible refine zg_ialdR dX0_openStack_26 (by assumption) (by assumption) rfl (by omega) (by decide) ?_ | refine zg_iald dX0_openStack_26 (by assumption) (by assumption) rfl (by omega) (by decide) ?_
    refine zg_val fsz ?_
    refine zg_iload_n (i := 2) dX0_openStack_27 rfl rfl ?_
    first | with_reducible refine zg_isubN dX0_openStack_28 (by omega) ?_ | refine zg_isub dX0_openStack_28 ?_
    first | with_reducible refine zg_iastR dX0_openStack_29 (by assumption) (by assumption) rfl (by omega) (by decide) ?_ | refine zg_iast dX0_openStack_29 (by assumption) (by assumption) rfl (by omega) (by decide) ?_
    refine zg_aload_n (i := 0) dX0_openStack_30 rfl rfl ?_
    refine zg_getR dX0_openStack_31 flX0_15 (by decide) (by assumption) (by assumption) (by assumption) ?_
    refine zg_aload_n (i := 0) dX0_openStack_34 rfl rfl ?_
    first | with_reducible refine zg_getIR dX0_openStack_35 flX0_18 (by decide) (by assumption) (by assumption) (by omega) ?_ | refine zg_getI dX0_openStack_35 flX0_18 (by decide) (by assumption) (by assumption) ?_
    refine zg_val (y := nI ns) (by rw [zup_n (by omega)]; exact f8) ?_
    refine zg_iload_n (i := 2) dX0_openStack_38 rfl rfl ?_
    first | with_reducible refine zg_iastR dX0_openStack_39 (by assumption) (by assumption) rfl (by omega) (by decide) ?_ | refine zg_iast dX0_openStack_39 (by assumption) (by assumption) rfl (by omega) (by decide) ?_
    refine zg_aload_n (i := 0) dX0_openStack_40 rfl rfl ?_
    refine zg_dup dX0_openStack_41 ?_
    first | with_reducible refine zg_getIR dX0_openStack_42 flX0_18 (by decide) (by assumption) (by assumption) (by omega) ?_ | refine zg_getI dX0_openStack_42 flX0_18 (by decide) (by assumption) (by assumption) ?_
    refine zg_val (y := nI ns) (by rw [zup_n (by omega), zup_n (by omega)]; exact f8) ?_
    refine zg_iconst (v := nI 1) dX0_openStack_45 (by decide) ?_
    first | with_reducible refine zg_iaddN dX0_openStack_46 ?_ | refine zg_iadd dX0_openStack_46 ?_
    refine zg_putI dX0_openStack_47 flX0_18 (by decide) (by assumption) (by assumption) ?_
    refine zg_vret dX0_openStack_50 rfl ⟨rfl, rfl, ?_⟩
    refine ⟨⟨_, _, _, _, _, _, _, _, _, hO, ?_⟩, (zfr_up (by omega) (by omega)).trans ((zfr_up (by omega) (by omega)).trans (zfr_up (by omega) (by omega)))⟩
    rw [eO, show (if ns = 1 then s0 - kk else s0) + (if ns = 1 then kk else s1 - kk) + (if ns = 1 then 0 else kk) = s0 + s1 + s2 by
      obtain ⟨-, -, -, -, -, -, -, -, b9, b10⟩ := hP.2.2.2.2.2.2.2.2.2.1
      rcases (show ns = 1 ∨ ns = 2 by omega) with rfl | rfl
      · simp [PIsc] at hk ⊢
        have := b9 rfl
        have := b10 (by omega)
        omega
      · simp [PIsc] at hk ⊢
        have := b10 (by omega)
        omega]
    refine PR_stk hR (fun i hi => by rw [zup_s, upd_n (by omega), zup_n (by omega), zup_n (by omega)]) (fun i hi => by rw [upd_n (by omega), upd_n (by omega), upd_n (by omega)]) (by rw [zup_s, upd_s, upd_s]) (by rw [zup_s, upd_n (by omega), zup_n (by omega), zup_n (by omega)]; exact f6) (fun j hj => ?_) (fun j hj => ?_)
    · rw [zup_n (by omega), zup_s, zup_s, upd_n (show o + 6 + j ≠ o + 5 by omega)]
      by_cases hj1 : j = ns
      · rw [hj1, upd_s, upd_s]
      · rw [upd_n hj1, upd_n (show o + 6 + j ≠ o + 6 + ns by omega)]
        by_cases hj2 : j = ns - 1
        · rw [hj2, upd_s, show o + 6 + (ns - 1) = o + 5 + ns by omega, upd_s]
        · rw [upd_n hj2, upd_n (by omega)]; exact fs j (by omega)
    · rw [zup_n (by omega), zup_n (by omega), zup_n (by omega), upd_n (by omega), upd_n (by omega), upd_n (by omega)]; exact fv j hj
  · rw [if_pos (by omega)]
    exact zg_vret dX0_openStack_8 rfl ⟨rfl, rfl, ⟨hX, zfr.rf _ _ _⟩⟩
set_option maxRecDepth 20000 in
theorem cx_closeStack {S : zS} {k : Nat} (hS : PS S k) {mu : zU} {v : Nat → Int32} {o : Nat} (hX : PX mu k v o) : zM yX0_closeStack cX0_closeStack 4 none 1 0 0 [.inr (k + 1)] S mu (zPv S (fun mu2 => PX mu2 k (qclose v o) o ∧ zfr mu mu2 k 3)) := by
  obtain ⟨hN2, k0, k1, k2, r5, r7⟩ := id hS
  have hN0 : k < S.1 := by omega
  have hN1 : k + 1 < S.1 := by omega
  obtain ⟨x, y, dr, ss, sl, ns, s0, s1, s2, hP, hR⟩ := id hX
  obtain ⟨z5, a1, a2, a3⟩ := hP.ns
  have f8 : mu k 8 = nI ns := hR.2.2.2.2.2.1.trans hP.2.2.2.2.2.1
  refine zM.ofG (by decide +kernel) (Nat.le_of_ble_eq_true rfl) ?_
  rw [qclose, z5]
  refine zg_aload_n (i := 0) dX0_closeStack_0 rfl rfl ?_
  first | with_reducible refine zg_getIR dX0_closeStack_1 flX0_18 (by decide) (by assumption) (by assumption) (by omega) ?_ | refine zg_getI dX0_closeStack_1 flX0_18 (by decide) (by assumption) (by assumption) ?_
  refine zg_val f8 ?_
  refine zg_iconst (v := nI 1) dX0_closeStack_4 (by decide) ?_
  first | with_reducible refine zg_icmpN_gt (tgt := 14) dX0_closeStack_5 (by decide) (by omega) (by omega) (fun c => ?_) (fun c => ?_) | refine zg_icmp_gt (tgt := 14) dX0_closeStack_5 (by decide) (fun c => ?_) (fun c => ?_)
  · rw [if_neg (by omega)]
    refine zg_aload_n (i := 0) dX0_closeStack_14 rfl rfl ?_
    refine zg_aload_n (i := 0) dX0_closeStack_15 rfl rfl ?_
    refine zg_callVi (cx_pop hS hX) dX0_closeStack_16 cvX0_pop mlX0_50 rfl (by assumption) (by assumption) rfl (Nat.le_of_ble_eq_true rfl) ⟨by decide, by decide⟩ ⟨Nat.le_refl _, Nat.le_refl _⟩ (fun r mu2 h2 => ?_)
    obtain ⟨rfl, hX2, hf2⟩ := h2
    have hns2 : zn (qpop v o) (o + 5) = ns := by
      obtain ⟨t0, t1, t2, hQ, -⟩ := hP.pop1
      exact hQ.ns.1
    generalize qpop v o = w at *
    generalize qpopR v o = n at *
    obtain ⟨x', y', dr', ss', sl', ns', t0, t1, t2, hQ, hT⟩ := hX2
    obtain ⟨z5', b1, b2, b3⟩ := hQ.ns
    obtain rfl : ns' = ns := z5'.symm.trans hns2
    obtain ⟨hc, hq, hh, hcl⟩ := hQ.cur
    obtain ⟨-, -, -, -, -, f8', f6, fs, fv⟩ := id hT
    have f8' : mu2 k 8 = nI ns' := f8'.trans hQ.2.2.2.2.2.1
    have fsz : mu2 (k + 2) (ns' - 1) = nI (PIsc ns' t0 t1 t2) := by rw [fs _ (by omega), show o + 6 + (ns' - 1) = o + 5 + ns' by omega]; exact hc
    have fsp : mu2 (k + 2) (ns' - 1 - 1) = nI (if ns' = 2 then t0 else t1) := by
      rw [fs _ (by omega)]
      rcases (show ns' = 2 ∨ ns' = 3 by omega) with rfl | rfl
      · exact hQ.2.2.2.2.2.2.1
      · exact hQ.2.2.2.2.2.2.2.1
    have hk := qclamp_le n (n := PIsc ns' t0 t1 t2) (by omega)
    obtain ⟨eC, hC⟩ := hQ.cls (by omega) hk
    rw [qclose1, hq, zn_of hc (by omega)]
    refine zg_callVi (cx_movable hS b1 b2 f8' fsz (by omega) n) dX0_closeStack_19 cvX0_movable mlX0_82 rfl (by assumption) (by assumption) rfl (Nat.le_of_ble_eq_true rfl) ⟨by decide, by decide⟩ ⟨Nat.le_refl _, Nat.le_refl _⟩ (fun r mu3 h2 => ?_)
    obtain ⟨rfl, rfl⟩ := h2
    generalize qclamp n (PIsc ns' t0 t1 t2) = kk at *
    refine zg_istore_n (i := 1) (L2 := [_, _, _, _]) dX0_closeStack_22 rfl (by decide) rfl ?_
    refine zg_aload_n (i := 0) dX0_closeStack_23 rfl rfl ?_
    first | with_reducible refine zg_getIR dX0_closeStack_24 flX0_18 (by decide) (by assumption) (by assumption) (by omega) ?_ | refine zg_getI dX0_closeStack_24 flX0_18 (by decide) (by assumption) (by assumption) ?_
    refine zg_val f8' ?_
    refine zg_iconst (v := nI 1) dX0_closeStack_27 (by decide) ?_
    first | with_reducible refine zg_isubN dX0_closeStack_28 (by omega) ?_ | refine zg_isub dX0_closeStack_28 ?_
    refine zg_istore_n (i := 2) (L2 := [_, _, _, _]) dX0_closeStack_29 rfl (by decide) rfl ?_
    refine zg_aload_n (i := 0) dX0_closeStack_30 rfl rfl ?_
    first | with_reducible refine zg_getIR dX0_closeStack_31 flX0_37 (by decide) (by assumption) (by assumption) (by omega) ?_ | refine zg_getI dX0_closeStack_31 flX0_37 (by decide) (by assumption) (by assumption) ?_
    refine zg_val f6 ?_
    refine zg_aload_n (i := 0) dX0_closeStack_34 rfl rfl ?_
    refine zg_getR dX0_closeStack_35 flX0_15 (by decide) (by assumption) (by assumption) (by assumption) ?_
    refine zg_iload_n (i := 2) dX0_closeStack_38 rfl rfl ?_
    first | with_reducible refine zg_ialdR dX0_closeStack_39 (by assumption) (by assumption) rfl (by omega) (by decide) ?_ | refine zg_iald dX0_closeStack_39 (by assumption) (by assumption) rfl (by omega) (by decide) ?_
    refine zg_val fsz ?_
    first | with_reducible refine zg_isubN dX0_closeStack_40 (by omega) ?_ | refine zg_isub dX0_closeStack_40 ?_
    refine zg_istore_n (i := 3) (L2 := [_, _, _, _]) dX0_closeStack_41 rfl (by decide) rfl ?_
    refine zg_aload_n (i := 0) dX0_closeStack_42 rfl rfl ?_
    refine zg_getR dX0_closeStack_43 flX0_9 (by decide) (by assumption) (by assumption) (by assumption) ?_
    refine zg_aload_n (i := 0) dX0_closeStack_46 rfl rfl ?_
    first | with_reducible refine zg_getIR dX0_closeStack_47 flX0_37 (by decide) (by assumption) (by assumption) (by omega) ?_ | refine zg_getI dX0_closeStack_47 flX0_37 (by decide) (by assumption) (by assumption) ?_
    refine zg_val f6 ?_
    refine zg_iload_n (i := 1) dX0_closeStack_50 rfl rfl ?_
    first | with_reducible refine zg_isubN dX0_closeStack_51 (by omega) ?_ | refine zg_isub dX0_closeStack_51 ?_
    refine zg_aload_n (i := 0) dX0_closeStack_52 rfl rfl ?_
    refine zg_getR dX0_closeStack_53 flX0_9 (by decide) (by assumption) (by assumption) (by assumption) ?_
    refine zg_iload_n (i := 3) dX0_closeStack_56 rfl rfl ?_
    refine zg_iload_n (i := 1) dX0_closeStack_57 rfl rfl ?_
    refine zg_copy dX0_closeStack_58 mlX0_40 (by assumption) (by assumption) (by assumption) (by assumption) rfl rfl rfl (by omega) (by omega) (by decide) (by decide) ⟨by decide, by decide⟩ ?_
    refine zg_aload_n (i := 0) dX0_closeStack_61 rfl rfl ?_
    refine zg_iload_n (i := 3) dX0_closeStack_62 rfl rfl ?_
    refine zg_iload_n (i := 1) dX0_closeStack_63 rfl rfl ?_
    first | with_reducible refine zg_iaddN dX0_closeStack_64 ?_ | refine zg_iadd dX0_closeStack_64 ?_
    refine zg_putI dX0_closeStack_65 flX0_37 (by decide) (by assumption) (by assumption) ?_
    refine zg_aload_n (i := 0) dX0_closeStack_68 rfl rfl ?_
    refine zg_getR dX0_closeStack_69 flX0_15 (by decide) (by assumption) (by assumption) (by assumption) ?_
    refine zg_iload_n (i := 2) dX0_closeStack_72 rfl rfl ?_
    refine zg_iconst (v := nI 1) dX0_closeStack_73 (by decide) ?_
    first | with_reducible refine zg_isubN dX0_closeStack_74 (by omega) ?_ | refine zg_isub dX0_closeStack_74 ?_
    refine zg_mu (mu2 := zup (zrow mu3 (k + 1) (va_cpy (mu3 (k + 1)) (mu3 (k + 1)) (t0 + t1 + t2 - kk) (t0 + t1 + t2 - PIsc ns' t0 t1 t2) kk)) k 6 (nI (t0 + t1 + t2 - PIsc ns' t0 t1 t2 + kk))) rfl ?_
    refine zg_dup2 dX0_closeStack_75 ?_
    first | with_reducible refine zg_ialdR dX0_closeStack_76 (by assumption) (by assumption) rfl (by omega) (by decide) ?_ | refine zg_iald dX0_closeStack_76 (by assumption) (by assumption) rfl (by omega) (by decide) ?_
    refine zg_val (y := nI (if ns' = 2 then t0 else t1)) (by rw [zup_n (by omega), zrow_n (by omega)]; exact fsp) ?_
    refine zg_iload_n (i := 1) dX0_closeStack_77 rfl rfl ?_
    first | with_reducible refine zg_iaddN dX0_closeStack_78 ?_ | refine zg_iadd dX0_closeStack_78 ?_
    first | with_reducible refine zg_iastR dX0_closeStack_79 (by assumption) (by assumption) rfl (by omega) (by decide) ?_ | refine zg_iast dX0_closeStack_79 (by assumption) (by assumption) rfl (by omega) (by decide) ?_
    refine zg_aload_n (i := 0) dX0_closeStack_80 rfl rfl ?_
    refine zg_dup dX0_closeStack_81 ?_
    first | with_reducible refine zg_getIR dX0_closeStack_82 flX0_18 (by decide) (by assumption) (by assumption) (by omega) ?_ | refine zg_getI dX0_closeStack_82 flX0_18 (by decide) (by assumption) (by assumption) ?_
    refine zg_val (y := nI ns') (by rw [zup_n (by omega), zup_s, upd_n (by omega), zrow_n (by omega)]; exact f8') ?_
    refine zg_iconst (v := nI 1) dX0_closeStack_85 (by decide) ?_
    first | with_reducible refine zg_isubN dX0_closeStack_86 (by omega) ?_ | refine zg_isub dX0_closeStack_86 ?_
    refine zg_putI dX0_closeStack_87 flX0_18 (by decide) (by assumption) (by assumption) ?_
    refine zg_vret dX0_closeStack_90 rfl ⟨rfl, rfl, ?_⟩
    refine ⟨⟨_, _, _, _, _, _, _, _, _, hC, ?_⟩, hf2.trans (fun q hq2 => by rw [zup_n (by omega), zup_n (by omega), zup_n (by omega), zrow_n (by omega)])⟩
    have hsum : (if ns' = 2 then t0 + kk else t0) + (if ns' = 2 then 0 else t1 + kk) + 0 = t0 + t1 + t2 - PIsc ns' t0 t1 t2 + kk := by
      obtain ⟨-, -, -, -, -, -, -, -, b9, b10⟩ := hQ.2.2.2.2.2.2.2.2.2.1
      rcases (show ns' = 2 ∨ ns' = 3 by omega) with rfl | rfl
      · simp [PIsc] at hk ⊢
        have := b10 (by omega)
        omega
      · simp [PIsc] at hk ⊢
        omega
    rw [eC, hsum]
    have hsh : ∀ i, i < o + 9 → qshift w (o + 9 + (t0 + t1 + t2)) kk (PIsc ns' t0 t1 t2 - kk) i = w i := by
      intro i hi2
      rw [qshift, if_neg (by omega), if_neg (by omega)]
    refine PR_stk hT (fun i hi => by rw [zup_s, upd_n (by omega), zup_n (by omega), zup_s, upd_n (by omega), zrow_n (by omega)]) (fun i hi => by rw [upd_n (by omega), upd_n (by omega), upd_n (by omega), hsh _ (by omega)]) (by rw [zup_s, upd_s, upd_s]) (by rw [zup_s, upd_n (by omega), zup_n (by omega), zup_s, upd_s]) (fun j hj => ?_) (fun j hj => ?_)
    · rw [zup_n (by omega), zup_s, upd_n (show o + 6 + j ≠ o + 5 by omega)]
      by_cases hj1 : j = ns' - 1 - 1
      · rw [hj1, upd_s, show o + 6 + (ns' - 1 - 1) = o + 4 + ns' by omega, upd_s]
      · rw [upd_n hj1, zup_n (by omega), zrow_n (by omega), upd_n (by omega), upd_n (by omega), hsh _ (by omega)]; exact fs j (by omega)
    · rw [zup_n (by omega), zup_n (by omega), zup_n (by omega), zrow_s, upd_n (by omega), upd_n (by omega), upd_n (by omega), va_cpy, qshift]
      by_cases hj1 : t0 + t1 + t2 - PIsc ns' t0 t1 t2 ≤ j
      · rw [if_pos (by omega), if_pos (by omega), fv _ (by omega)]
        congr 1
        omega
      · rw [if_neg (by omega), if_neg (by omega), if_neg (by omega)]; exact fv j (by omega)
  · rw [if_pos (by omega)]
    refine zg_aload_n (i := 0) dX0_closeStack_8 rfl rfl ?_
    refine zg_iconst (v := nI 2) dX0_closeStack_9 (by decide) ?_
    refine zg_callVv (cx_turn hS hX (n := 2) (by omega)) dX0_closeStack_10 cvX0_turn mlX0_76 rfl (by assumption) (by assumption) rfl (Nat.le_of_ble_eq_true rfl) ⟨by decide, by decide⟩ ⟨Nat.le_refl _, Nat.le_refl _⟩ (fun mu2 h2 => ?_)
    exact zg_vret dX0_closeStack_13 rfl ⟨rfl, rfl, h2⟩
