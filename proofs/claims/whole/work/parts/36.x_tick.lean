/-! THE CLASS: takeTurn, performTick, isHalted -/
set_option maxRecDepth 20000 in
theorem lx_turn148 {S : zS} {b : Nat} (hS : SS S b) {mu : zU} {w : Nat → Int32} {ol : List Nat} {pp : Nat} {l1 l3 : Option zV} (hX : SX mu b w ol) (hpp : pp < ol.length) (Ph : Option zV → zS → zU → Prop) (hx : ∀ mu2, SX mu2 b (qend w (150 + 25 * pp)) ol → zfr mu mu2 b 19 → Ph none S mu2) :
    zG RX1 "takeTurn" cX1_takeTurn 4 none (zroom 3 0 0) 0 0 Ph 148 [some (.inr (b + 1)), l1, some (.inr (b + 7 + 3 * pp + 1)), l3] [] S (mu) 0 0 := by
  have hl4 := hX.1.1.2.2
  obtain ⟨hN, k0, k1, k2, k3, k4, k5, k6, r0, r1, r2, r3, r5, r7, hp⟩ := id hS
  obtain ⟨-, hPS⟩ := hp pp (by omega)
  have kp0 := hPS.2.1
  have kpN : b + 7 + 3 * pp < S.1 := by omega
  have hP0 := hX.2.2.2.2.2.2.2.2.2.2.2 pp hpp
  have f3 : mu (b + 7 + 3 * pp) 3 = w (150 + 25 * pp + 3) := by
    obtain ⟨x, y, dr, ss, sl, ns, s0, s1, s2, hP, hR⟩ := id hP0
    exact hR.2.2.2.1
  refine zg_aload_n (i := 2) dX1_takeTurn_148 rfl rfl ?_
  first | with_reducible refine zg_getIR dX1_takeTurn_149 flX1_67 (by decide) (by assumption) (by assumption) (by omega) ?_ | refine zg_getI dX1_takeTurn_149 flX1_67 (by decide) (by assumption) (by assumption) ?_
  refine zg_val f3 ?_
  refine zg_if_ne (tgt := 159) dX1_takeTurn_152 (by decide) (fun c => ?_) (fun c => ?_)
  · refine zg_vret dX1_takeTurn_159 rfl (hx mu ?_ (zfr.rf _ _ _))
    rw [qend, if_neg c]; exact hX
  · refine zg_aload_n (i := 2) dX1_takeTurn_155 rfl rfl ?_
    refine zg_callVv (cx_step hPS hP0) dX1_takeTurn_156 cvX0_step mlX1_102 rfl (by assumption) (by assumption) rfl (Nat.le_of_ble_eq_true rfl) ⟨by decide, by decide⟩ ⟨Nat.le_refl _, Nat.le_refl _⟩ (fun mu2 h2 => ?_)
    have hPO := PO_move hP0.px1
    refine zg_vret dX1_takeTurn_159 rfl (hx mu2 ?_ (zfr_sub h2.2 (by omega) (by omega)))
    rw [qend, if_pos c]
    exact SX_ptr hX hpp h2.2 (fun j hj => hPO.1 j (by omega)) h2.1
set_option maxRecDepth 20000 in
theorem cx_takeTurn {S : zS} {b : Nat} (hS : SS S b) {mu : zU} {v : Nat → Int32} {ol : List Nat} {pl pp : Nat} (hX : SX mu b v ol) (hi : ol[pl]? = some pp) : zM yX1_takeTurn cX1_takeTurn 4 none 3 0 0 [.inr (b + 1), .inl (nI pl)] S mu (zPv S (fun mu2 => SX mu2 b (qtake v pp) (olTake v ol pl pp) ∧ zfr mu mu2 b 19)) := by
  have hl4 := hX.1.1.2.2
  obtain ⟨hN, k0, k1, k2, k3, k4, k5, k6, r0, r1, r2, r3, r5, r7, hp⟩ := id hS
  have hN0 : b < S.1 := by omega
  have hN2 : b + 2 < S.1 := by omega
  have hN3 : b + 3 < S.1 := by omega
  have hN4 : b + 4 < S.1 := by omega
  have hil := (List.getElem?_eq_some_iff.mp hi).1
  have hpp := (hX.1.2.1 pl pp hi).2
  obtain ⟨rp, hPS⟩ := hp pp (by omega)
  have kp0 := hPS.2.1
  have kpN : b + 7 + 3 * pp < S.1 := by omega
  have hP0 := hX.2.2.2.2.2.2.2.2.2.2.2 pp hpp
  have ford : mu (b + 4) pl = nI pp := (hX.2.2.2.2.1 pl hil).trans (hX.1.2.1 pl pp hi).1
  obtain ⟨x, y, dr, ss, sl, ns, s0, s1, s2, hP, hR⟩ := id hP0
  obtain ⟨z5, a1, a2, a3⟩ := hP.ns
  obtain ⟨e0, e1, e2, e3, e4, e5, e6, e7, e8, ⟨b1, b2, b3, b4, b5, -⟩, -⟩ := id hP
  have f0 : mu (b + 7 + 3 * pp) 0 = nI x := hR.1.trans e0
  have f1 : mu (b + 7 + 3 * pp) 1 = nI y := hR.2.1.trans e1
  have f3 : mu (b + 7 + 3 * pp) 3 = nI ss := hR.2.2.2.1.trans e3
  have f4 : mu (b + 7 + 3 * pp) 4 = nI sl := hR.2.2.2.2.1.trans e4
  have z0 : zn v (150 + 25 * pp) = x := zn_of e0 (by omega)
  have z1 : zn v (151 + 25 * pp) = y := by rw [show 151 + 25 * pp = 150 + 25 * pp + 1 by omega]; exact zn_of e1 (by omega)
  refine zM.ofG (by decide +kernel) (Nat.le_of_ble_eq_true rfl) ?_
  rw [qtake, olTake, qcode, show 153 + 25 * pp = 150 + 25 * pp + 3 by omega, show 154 + 25 * pp = 150 + 25 * pp + 4 by omega, e3, e4, z0, z1]
  refine zg_aload_n (i := 0) dX1_takeTurn_0 rfl rfl ?_
  refine zg_getR dX1_takeTurn_1 flX1_20 (by decide) (by assumption) (by assumption) (by assumption) ?_
  refine zg_aload_n (i := 0) dX1_takeTurn_4 rfl rfl ?_
  refine zg_getR dX1_takeTurn_5 flX1_24 (by decide) (by assumption) (by assumption) (by assumption) ?_
  refine zg_iload_n (i := 1) dX1_takeTurn_8 rfl rfl ?_
  first | with_reducible refine zg_ialdR dX1_takeTurn_9 (by assumption) (by assumption) rfl (by omega) (by decide) ?_ | refine zg_iald dX1_takeTurn_9 (by assumption) (by assumption) rfl (by omega) (by decide) ?_
  refine zg_val ford ?_
  first | refine zg_pald dX1_takeTurn_10 (by assumption) (by assumption) rfl (by omega) (by decide) (by assumption) ?_ | refine zg_sald dX1_takeTurn_10 (by assumption) (by assumption) rfl (by omega) (by decide) (by assumption) ?_
  refine zg_astore_n (i := 2) (L2 := [_, _, _, _]) dX1_takeTurn_11 rfl (by decide) rfl ?_
  refine zg_aload_n (i := 2) dX1_takeTurn_12 rfl rfl ?_
  first | with_reducible refine zg_getIR dX1_takeTurn_13 flX1_67 (by decide) (by assumption) (by assumption) (by omega) ?_ | refine zg_getI dX1_takeTurn_13 flX1_67 (by decide) (by assumption) (by assumption) ?_
  refine zg_val f3 ?_
  first | with_reducible refine zg_ifN_eq (tgt := 20) dX1_takeTurn_16 (by decide) (by omega) (fun c => ?_) (fun c => ?_) | refine zg_if_eq (tgt := 20) dX1_takeTurn_16 (by decide) (fun c => ?_) (fun c => ?_)
  · have hA : ¬ nI ss ≠ (0 : Int32) := by rw [c]; exact fun z => z rfl
    rw [if_neg hA, if_neg hA]
    refine zg_aload_n (i := 2) dX1_takeTurn_20 rfl rfl ?_
    first | with_reducible refine zg_getIR dX1_takeTurn_21 flX1_74 (by decide) (by assumption) (by assumption) (by omega) ?_ | refine zg_getI dX1_takeTurn_21 flX1_74 (by decide) (by assumption) (by assumption) ?_
    refine zg_val f4 ?_
    first | with_reducible refine zg_ifN_le (tgt := 38) dX1_takeTurn_24 (by decide) (by omega) (fun c2 => ?_) (fun c2 => ?_) | refine zg_if_le (tgt := 38) dX1_takeTurn_24 (by decide) (fun c2 => ?_) (fun c2 => ?_)
    · have hsl0 : sl = 0 := by omega
      have hB : ¬ (0 : Int32) < nI sl := by rw [← n0, nI_ltI (by omega) (by omega)]; omega
      rw [if_neg hB, if_neg hB]
      refine zg_aload_n (i := 0) dX1_takeTurn_38 rfl rfl ?_
      refine zg_getR dX1_takeTurn_39 flX1_15 (by decide) (by assumption) (by assumption) (by assumption) ?_
      refine zg_aload_n (i := 2) dX1_takeTurn_42 rfl rfl ?_
      refine zg_callVi (cx_cell hPS f0 f1) dX1_takeTurn_43 cvX0_cell mlX1_77 rfl (by assumption) (by assumption) rfl (Nat.le_of_ble_eq_true rfl) ⟨by decide, by decide⟩ ⟨Nat.le_refl _, Nat.le_refl _⟩ (fun r mu2 h2 => ?_)
      obtain ⟨rfl, rfl⟩ := h2
      first | with_reducible refine zg_ialdR dX1_takeTurn_46 (by assumption) (by assumption) rfl (by omega) (by decide) ?_ | refine zg_iald dX1_takeTurn_46 (by assumption) (by assumption) rfl (by omega) (by decide) ?_
      refine zg_val (y := v (72 + 12 * y + x)) (by rw [hX.2.2.1 _ (by omega), ← Nat.add_assoc]) ?_
      generalize v (72 + 12 * y + x) = cd
      refine zg_istore_n (i := 3) (L2 := [_, _, _, _]) dX1_takeTurn_47 rfl (by decide) rfl ?_
      refine zg_iload_n (i := 3) dX1_takeTurn_48 rfl rfl ?_
      by_cases c103 : cd = nI 103
      · subst c103
        refine zg_lookup (off := 51) (tgt := 100) dX1_takeTurn_49 (by decide) (by decide) (by decide) ?_
        rw [olNext, if_neg (fun z => absurd z.1 (by decide)), qx_103]
        refine zg_aload_n (i := 0) dX1_takeTurn_100 rfl rfl ?_
        refine zg_aload_n (i := 2) dX1_takeTurn_101 rfl rfl ?_
        refine zg_callVv (cx_fetchCell hS hX hpp) dX1_takeTurn_102 cvX1_fetchCell mlX1_81 rfl (by assumption) (by assumption) rfl (Nat.le_of_ble_eq_true rfl) ⟨by decide, by decide⟩ ⟨Nat.le_refl _, Nat.le_refl _⟩ (fun mu3 h3 => ?_)
        refine zg_goto (tgt := 148) dX1_takeTurn_105 (by decide) ?_
        exact lx_turn148 hS h3.1 hpp _ (fun mu4 q1 q2 => ⟨rfl, rfl, q1, h3.2.trans q2⟩)
      by_cases c112 : cd = nI 112
      · subst c112
        refine zg_lookup (off := 59) (tgt := 108) dX1_takeTurn_49 (by decide) (by decide) (by decide) ?_
        rw [olNext, if_neg (fun z => absurd z.1 (by decide)), qx_112]
        refine zg_aload_n (i := 0) dX1_takeTurn_108 rfl rfl ?_
        refine zg_aload_n (i := 2) dX1_takeTurn_109 rfl rfl ?_
        refine zg_callVv (cx_storeCell hS hX hpp) dX1_takeTurn_110 cvX1_storeCell mlX1_84 rfl (by assumption) (by assumption) rfl (Nat.le_of_ble_eq_true rfl) ⟨by decide, by decide⟩ ⟨Nat.le_refl _, Nat.le_refl _⟩ (fun mu3 h3 => ?_)
        refine zg_goto (tgt := 148) dX1_takeTurn_113 (by decide) ?_
        exact lx_turn148 hS h3.1 hpp _ (fun mu4 q1 q2 => ⟨rfl, rfl, q1, h3.2.trans q2⟩)
      by_cases c46 : cd = nI 46
      · subst c46
        refine zg_lookup (off := 67) (tgt := 116) dX1_takeTurn_49 (by decide) (by decide) (by decide) ?_
        rw [olNext, if_neg (fun z => absurd z.1 (by decide)), qx_46]
        refine zg_aload_n (i := 0) dX1_takeTurn_116 rfl rfl ?_
        refine zg_aload_n (i := 2) dX1_takeTurn_117 rfl rfl ?_
        refine zg_callVi (cx_pop hPS hP0) dX1_takeTurn_118 cvX0_pop mlX1_87 rfl (by assumption) (by assumption) rfl (Nat.le_of_ble_eq_true rfl) ⟨by decide, by decide⟩ ⟨Nat.le_refl _, Nat.le_refl _⟩ (fun r mu3 h3 => ?_)
        obtain ⟨rfl, hX3, hf3⟩ := h3
        have hPO := PO_pop hP0.px1
        have hSX3 := SX_ptr hX hpp hf3 (fun j hj => hPO.1 j (by omega)) hX3
        refine zg_callVv (cx_addOutput hS hSX3 _) dX1_takeTurn_121 cvX1_addOutput mlX1_90 rfl (by assumption) (by assumption) rfl (Nat.le_of_ble_eq_true rfl) ⟨by decide, by decide⟩ ⟨Nat.le_refl _, Nat.le_refl _⟩ (fun mu4 h4 => ?_)
        refine zg_goto (tgt := 148) dX1_takeTurn_124 (by decide) ?_
        exact lx_turn148 hS h4.1 hpp _ (fun mu5 q1 q2 => ⟨rfl, rfl, q1, (zfr_sub hf3 (by omega) (by omega)).trans (h4.2.trans q2)⟩)
      by_cases c126 : cd = nI 126
      · subst c126
        refine zg_lookup (off := 78) (tgt := 127) dX1_takeTurn_49 (by decide) (by decide) (by decide) ?_
        rw [olNext, if_neg (fun z => absurd z.1 (by decide)), qx_126]
        refine zg_aload_n (i := 0) dX1_takeTurn_127 rfl rfl ?_
        refine zg_aload_n (i := 2) dX1_takeTurn_128 rfl rfl ?_
        refine zg_callVv (cx_takeInput hS hX hpp) dX1_takeTurn_129 cvX1_takeInput mlX1_93 rfl (by assumption) (by assumption) rfl (Nat.le_of_ble_eq_true rfl) ⟨by decide, by decide⟩ ⟨Nat.le_refl _, Nat.le_refl _⟩ (fun mu3 h3 => ?_)
        refine zg_goto (tgt := 148) dX1_takeTurn_132 (by decide) ?_
        exact lx_turn148 hS h3.1 hpp _ (fun mu4 q1 q2 => ⟨rfl, rfl, q1, h3.2.trans q2⟩)
      by_cases c116 : cd = nI 116
      · subst c116
        refine zg_lookup (off := 86) (tgt := 135) dX1_takeTurn_49 (by decide) (by decide) (by decide) ?_
        rw [qx_116]
        refine zg_aload_n (i := 0) dX1_takeTurn_135 rfl rfl ?_
        refine zg_iload_n (i := 1) dX1_takeTurn_136 rfl rfl ?_
        refine zg_callVv (cx_split hS hX hi (by rw [e3, c]) (by rw [e4, hsl0])) dX1_takeTurn_137 cvX1_split mlX1_96 rfl (by assumption) (by assumption) rfl (Nat.le_of_ble_eq_true rfl) ⟨by decide, by decide⟩ ⟨Nat.le_refl _, Nat.le_refl _⟩ (fun mu3 h3 => ?_)
        refine zg_goto (tgt := 148) dX1_takeTurn_140 (by decide) ?_
        have hol : olNext v ol pl (nI 116) = if ol.length ≠ 4 then ol.insertIdx (pl + 1) ol.length else ol := by
          rw [olNext]
          by_cases hl : ol.length ≠ 4
          · rw [if_pos ⟨rfl, hl⟩, if_pos hl]
          · rw [if_neg (fun z => hl z.2), if_neg hl]
        rw [← hol] at h3
        have hm := olNext_mem (v := v) (c := nI 116) hil (List.mem_of_getElem? hi)
        generalize olNext v ol pl (nI 116) = ol3 at *
        obtain ⟨i3, hi3⟩ := List.getElem?_of_mem hm
        exact lx_turn148 hS h3.1 (h3.1.1.2.1 i3 pp hi3).2 _ (fun mu4 q1 q2 => ⟨rfl, rfl, q1, h3.2.trans q2⟩)
      refine zg_lookup (off := 94) (tgt := 143) dX1_takeTurn_49 (by decide) (zoff_def _ _ _ (fun q hq => ?_)) (by decide) ?_
      · simp only [List.mem_cons, List.not_mem_nil, or_false] at hq
        rcases hq with rfl | rfl | rfl | rfl | rfl
        · exact ne_toInt (a := 46) (by omega) c46
        · exact ne_toInt (a := 103) (by omega) c103
        · exact ne_toInt (a := 112) (by omega) c112
        · exact ne_toInt (a := 116) (by omega) c116
        · exact ne_toInt (a := 126) (by omega) c126
      rw [olNext, if_neg (fun z => c116 z.1), qx_perf v pp ⟨c103, c112, c46, c126, c116⟩]
      refine zg_aload_n (i := 2) dX1_takeTurn_143 rfl rfl ?_
      refine zg_iload_n (i := 3) dX1_takeTurn_144 rfl rfl ?_
      refine zg_callVv (cx_perform hPS hP0 (by rw [e3, c]; rfl) cd) dX1_takeTurn_145 cvX0_perform mlX1_99 rfl (by assumption) (by assumption) rfl (Nat.le_of_ble_eq_true rfl) ⟨by decide, by decide⟩ ⟨Nat.le_refl _, Nat.le_refl _⟩ (fun mu3 h3 => ?_)
      have hPO := PO_perf hP0.px1 cd
      exact lx_turn148 hS (SX_ptr hX hpp h3.2 (fun j hj => hPO.1 j (by omega)) h3.1) hpp _ (fun mu4 q1 q2 => ⟨rfl, rfl, q1, (zfr_sub h3.2 (by omega) (by omega)).trans q2⟩)
    · have hB : (0 : Int32) < nI sl := by rw [← n0, nI_ltI (by omega) (by omega)]; omega
      rw [if_pos hB, if_pos hB]
      refine zg_aload_n (i := 2) dX1_takeTurn_27 rfl rfl ?_
      refine zg_dup dX1_takeTurn_28 ?_
      first | with_reducible refine zg_getIR dX1_takeTurn_29 flX1_74 (by decide) (by assumption) (by assumption) (by omega) ?_ | refine zg_getI dX1_takeTurn_29 flX1_74 (by decide) (by assumption) (by assumption) ?_
      refine zg_val f4 ?_
      refine zg_iconst (v := nI 1) dX1_takeTurn_32 (by decide) ?_
      first | with_reducible refine zg_isubN dX1_takeTurn_33 (by omega) ?_ | refine zg_isub dX1_takeTurn_33 ?_
      refine zg_putI dX1_takeTurn_34 flX1_74 (by decide) (by assumption) (by assumption) ?_
      refine zg_vret dX1_takeTurn_37 rfl ⟨rfl, rfl, ?_⟩
      rw [← n1, pk_sub (by omega)]
      refine ⟨SX_ptr hX hpp (zfr_up (by omega) (by omega)) (fun j hj => upd_n (by omega)) ⟨_, _, _, _, _, _, _, _, _, hP.slp (by omega), PR_fld hR (by omega) (by omega) (by omega)⟩, zfr_up (by omega) (by omega)⟩
  · have hA : nI ss ≠ (0 : Int32) := by rw [← n0, Ne, nI_eq (by omega) (by omega)]; exact c
    rw [if_pos hA, if_pos hA]
    exact zg_vret dX1_takeTurn_19 rfl ⟨rfl, rfl, ⟨hX, zfr.rf _ _ _⟩⟩
theorem drop_ins {l : List Nat} {i x : Nat} (h : i ≤ l.length) : (l.insertIdx i x).drop i = x :: l.drop i := by
  apply List.ext_getElem?
  intro j
  rw [List.getElem?_drop, List.getElem?_insertIdx]
  cases j with
  | zero => simp [h]
  | succ j =>
    rw [if_neg (by omega), if_neg (by omega), List.getElem?_cons_succ, List.getElem?_drop]
    congr 1
theorem drop_olTake {v : Nat → Int32} {ol : List Nat} {i pp n0' : Nat} (hi : i < ol.length) (hn : n0' ≤ ol.length) : ((olTake v ol i pp).drop (i + 1)).filter (fun q => decide (q < n0')) = (ol.drop (i + 1)).filter (fun q => decide (q < n0')) := by
  unfold olTake olNext
  split
  · rfl
  split
  · rfl
  split
  · rw [drop_ins (by omega), List.filter_cons_of_neg (by simp; omega)]
  · rfl
theorem len_olTake {v : Nat → Int32} {ol : List Nat} {i pp : Nat} (hi : i < ol.length) : ol.length ≤ (olTake v ol i pp).length := by
  unfold olTake olNext
  split
  · omega
  split
  · omega
  split
  · rw [List.length_insertIdx, if_pos (by omega)]; omega
  · omega
set_option maxRecDepth 20000 in
theorem lx_tick7 {S : zS} {b : Nat} (hS : SS S b) {mu0 : zU} {v : Nat → Int32} {ol0 : List Nat} (hV0 : VI v ol0) (Ph : Option zV → zS → zU → Prop)
    (hx : ∀ mu ol, SX mu b (qtakes v ol0.length) ol → zfr mu0 mu b 19 → ∀ l2, zG RX1 "performTick" cX1_performTick 3 none (zroom 4 0 0) 0 0 Ph 41 [some (.inr (b + 1)), some (.inl (nI ol0.length)), l2] [] S (mu) 0 0) :
    ∀ (t q n : Nat) (mu : zU) (ol : List Nat), q + t = 4 → SX mu b (qtakes v n) ol → ol0.length ≤ ol.length → (ol.drop q).filter (fun z => decide (z < ol0.length)) = ol0.drop n → n ≤ ol0.length → zfr mu0 mu b 19 → zG RX1 "performTick" cX1_performTick 3 none (zroom 4 0 0) 0 0 Ph 7 [some (.inr (b + 1)), some (.inl (nI ol0.length)), some (.inl (nI q))] [] S (mu) 0 0 := by
  obtain ⟨hN, k0, k1, k2, k3, k4, k5, k6, r0, r1, r2, r3, r5, r7, hp⟩ := id hS
  have hN0 : b < S.1 := by omega
  have hN4 : b + 4 < S.1 := by omega
  have hl04 := hV0.1.2.2
  intro t
  induction t with
  | zero =>
    intro q n mu ol ht hX hl hd hn hf
    have hl4 := hX.1.1.2.2
    refine zg_iload_n (i := 2) dX1_performTick_7 rfl rfl ?_
    refine zg_iconst (v := nI 4) dX1_performTick_8 (by decide) ?_
    first | with_reducible refine zg_icmpN_ge (tgt := 41) dX1_performTick_9 (by decide) (by omega) (by omega) (fun c => ?_) (fun c => ?_) | refine zg_icmp_ge (tgt := 41) dX1_performTick_9 (by decide) (fun c => ?_) (fun c => ?_)
    · rw [List.drop_eq_nil_of_le (by omega), List.filter_nil] at hd
      have hne : n = ol0.length := by
        have := congrArg List.length hd
        rw [List.length_drop, List.length_nil] at this
        omega
      rw [hne] at hX
      exact hx mu ol hX hf _
    · omega
  | succ t ih =>
    intro q n mu ol ht hX hl hd hn hf
    have hl4 := hX.1.1.2.2
    have f4 : mu b 4 = nI ol.length := hX.2.2.2.1.trans hX.1.1.1
    refine zg_iload_n (i := 2) dX1_performTick_7 rfl rfl ?_
    refine zg_iconst (v := nI 4) dX1_performTick_8 (by decide) ?_
    first | with_reducible refine zg_icmpN_ge (tgt := 41) dX1_performTick_9 (by decide) (by omega) (by omega) (fun c => ?_) (fun c => ?_) | refine zg_icmp_ge (tgt := 41) dX1_performTick_9 (by decide) (fun c => ?_) (fun c => ?_)
    · omega
    · refine zg_iload_n (i := 2) dX1_performTick_12 rfl rfl ?_
      refine zg_aload_n (i := 0) dX1_performTick_13 rfl rfl ?_
      first | with_reducible refine zg_getIR dX1_performTick_14 flX1_34 (by decide) (by assumption) (by assumption) (by omega) ?_ | refine zg_getI dX1_performTick_14 flX1_34 (by decide) (by assumption) (by assumption) ?_
      refine zg_val f4 ?_
      first | with_reducible refine zg_icmpN_ge (tgt := 35) dX1_performTick_17 (by decide) (by omega) (by omega) (fun c1 => ?_) (fun c1 => ?_) | refine zg_icmp_ge (tgt := 35) dX1_performTick_17 (by decide) (fun c1 => ?_) (fun c1 => ?_)
      · rw [List.drop_eq_nil_of_le (by omega)] at hd
        refine zg_iinc1 (L2 := [_, _, _]) dX1_performTick_35 (by decide) rfl rfl ?_
        refine zg_goto (tgt := 7) dX1_performTick_38 (by decide) ?_
        exact ih (q + 1) n mu ol (by omega) hX hl (by rw [List.drop_eq_nil_of_le (by omega)]; exact hd) hn hf
      · have hql : q < ol.length := by omega
        have hqe := List.getElem?_eq_getElem hql
        have hor := hX.1.2.1 q _ hqe
        have hdr : ol.drop q = ol[q] :: ol.drop (q + 1) := List.drop_eq_getElem_cons hql
        refine zg_aload_n (i := 0) dX1_performTick_20 rfl rfl ?_
        refine zg_getR dX1_performTick_21 flX1_24 (by decide) (by assumption) (by assumption) (by assumption) ?_
        refine zg_iload_n (i := 2) dX1_performTick_24 rfl rfl ?_
        first | with_reducible refine zg_ialdR dX1_performTick_25 (by assumption) (by assumption) rfl (by omega) (by decide) ?_ | refine zg_iald dX1_performTick_25 (by assumption) (by assumption) rfl (by omega) (by decide) ?_
        refine zg_val (y := nI ol[q]) ((hX.2.2.2.2.1 q hql).trans hor.1) ?_
        refine zg_iload_n (i := 1) dX1_performTick_26 rfl rfl ?_
        first | with_reducible refine zg_icmpN_ge (tgt := 35) dX1_performTick_27 (by decide) (by omega) (by omega) (fun c2 => ?_) (fun c2 => ?_) | refine zg_icmp_ge (tgt := 35) dX1_performTick_27 (by decide) (fun c2 => ?_) (fun c2 => ?_)
        · rw [hdr, List.filter_cons_of_neg (by simp; omega)] at hd
          refine zg_iinc1 (L2 := [_, _, _]) dX1_performTick_35 (by decide) rfl rfl ?_
          refine zg_goto (tgt := 7) dX1_performTick_38 (by decide) ?_
          exact ih (q + 1) n mu ol (by omega) hX hl hd hn hf
        · rw [hdr, List.filter_cons_of_pos (by simp; omega)] at hd
          have hnl : n < ol0.length := by
            rcases Nat.lt_or_ge n ol0.length with h1 | h1
            · exact h1
            · rw [List.drop_eq_nil_of_le h1] at hd; cases hd
          rw [List.drop_eq_getElem_cons hnl] at hd
          injection hd with hd1 hd2
          have hor0 := hV0.2.1 n _ (List.getElem?_eq_getElem hnl)
          refine zg_aload_n (i := 0) dX1_performTick_30 rfl rfl ?_
          refine zg_iload_n (i := 2) dX1_performTick_31 rfl rfl ?_
          refine zg_callVv (cx_takeTurn hS hX hqe) dX1_performTick_32 cvX1_takeTurn mlX1_70 rfl (by assumption) (by assumption) rfl (Nat.le_of_ble_eq_true rfl) ⟨by decide, by decide⟩ ⟨Nat.le_refl _, Nat.le_refl _⟩ (fun mu2 h2 => ?_)
          have hstep : qtake (qtakes v n) ol[q] = qtakes v (n + 1) := by rw [qtakes, zn_of hor0.1 (by omega), hd1]
          rw [hstep] at h2
          have hlen := len_olTake (v := qtakes v n) (pp := ol[q]) hql
          have hdo := drop_olTake (v := qtakes v n) (pp := ol[q]) hql hl
          rw [hd2] at hdo
          generalize olTake (qtakes v n) ol q ol[q] = ol3 at *
          refine zg_iinc1 (L2 := [_, _, _]) dX1_performTick_35 (by decide) rfl rfl ?_
          refine zg_goto (tgt := 7) dX1_performTick_38 (by decide) ?_
          exact ih (q + 1) (n + 1) mu2 ol3 (by omega) h2.1 (by omega) hdo (by omega) (hf.trans h2.2)
theorem SX_tick {mu : zU} {b : Nat} {v : Nat → Int32} {ol : List Nat} (h : SX mu b v ol) (x : Int32) : SX (zup mu b 10 x) b (upd v 144 x) ol := by
  obtain ⟨h0, g1, g2, g3, g4, g5, g6, g7, g8, g9, g10, g11⟩ := id h
  have hl4 := h0.1.2.2
  have e250 : zn (upd v 144 x) 250 = zn v 250 := by rw [zn, zn, upd_n (by omega)]
  have e267 : zn (upd v 144 x) 267 = zn v 267 := by rw [zn, zn, upd_n (by omega)]
  refine SX_rest h (VI_grid h0 (by omega) x) (fun q a c => zup_n (by omega)) (fun i a c => upd_n (by omega)) (fun i hi => ?_) (fun i hi => ?_) ?_ (fun i hi => ?_) ?_ (fun i hi => ?_) ?_ (fun i hi => ?_) ?_ ?_
  · rw [zup_n (by omega), upd_n (by omega)]; exact g1 i hi
  · rw [zup_n (by omega), upd_n (by omega)]; exact g2 i hi
  · rw [zup_s, upd_n (by omega), upd_n (by omega)]; exact g3
  · rw [zup_n (by omega), upd_n (by omega)]; exact g4 i hi
  · rw [zup_s, upd_n (by omega), upd_n (by omega)]; exact g5
  · rw [e250] at hi; rw [zup_n (by omega), upd_n (by omega)]; exact g6 i hi
  · rw [zup_s, upd_n (by omega), upd_n (by omega)]; exact g7
  · rw [e267] at hi; rw [zup_n (by omega), upd_n (by omega)]; exact g8 i hi
  · rw [zup_s, upd_n (by omega), upd_n (by omega)]; exact g9
  · rw [zup_s, upd_s, upd_s]
set_option maxRecDepth 20000 in
theorem cx_performTick {S : zS} {b : Nat} (hS : SS S b) {mu : zU} {v : Nat → Int32} {ol : List Nat} (hX : SX mu b v ol) : zM yX1_performTick cX1_performTick 3 none 4 0 0 [.inr (b + 1)] S mu (zPv S (fun mu2 => (∃ ol2, SX mu2 b (qstep v) ol2) ∧ zfr mu mu2 b 19)) := by
  obtain ⟨hN, k0, -⟩ := id hS
  have hN0 : b < S.1 := by omega
  have hl4 := hX.1.1.2.2
  have f4 : mu b 4 = nI ol.length := hX.2.2.2.1.trans hX.1.1.1
  refine zM.ofG (by decide +kernel) (Nat.le_of_ble_eq_true rfl) ?_
  refine zg_aload_n (i := 0) dX1_performTick_0 rfl rfl ?_
  first | with_reducible refine zg_getIR dX1_performTick_1 flX1_34 (by decide) (by assumption) (by assumption) (by omega) ?_ | refine zg_getI dX1_performTick_1 flX1_34 (by decide) (by assumption) (by assumption) ?_
  refine zg_val f4 ?_
  refine zg_istore_n (i := 1) (L2 := [_, _, _]) dX1_performTick_4 rfl (by decide) rfl ?_
  refine zg_iconst (v := nI 0) dX1_performTick_5 (by decide) ?_
  refine zg_istore_n (i := 2) (L2 := [_, _, _]) dX1_performTick_6 rfl (by decide) rfl ?_
  refine lx_tick7 hS (mu0 := mu) (v := v) (ol0 := ol) hX.1 _ ?_ 4 0 0 mu ol (by omega) hX (Nat.le_refl _) ?_ (by omega) (zfr.rf _ _ _)
  · intro mu3 ol3 hX3 hf3 l2
    refine zg_aload_n (i := 0) dX1_performTick_41 rfl rfl ?_
    refine zg_dup dX1_performTick_42 ?_
    first | with_reducible refine zg_getIR dX1_performTick_43 flX1_57 (by decide) (by assumption) (by assumption) (by omega) ?_ | refine zg_getI dX1_performTick_43 flX1_57 (by decide) (by assumption) (by assumption) ?_
    refine zg_val (y := qtakes v ol.length 144) hX3.2.2.2.2.2.2.2.2.2.2.1 ?_
    refine zg_iconst (v := nI 1) dX1_performTick_46 (by decide) ?_
    first | with_reducible refine zg_iaddN dX1_performTick_47 ?_ | refine zg_iadd dX1_performTick_47 ?_
    refine zg_putI dX1_performTick_48 flX1_57 (by decide) (by assumption) (by assumption) ?_
    refine zg_vret dX1_performTick_51 rfl ⟨rfl, rfl, ?_⟩
    refine ⟨⟨ol3, ?_⟩, hf3.trans (zfr_up (by omega) (by omega))⟩
    rw [qstep, zn_of hX.1.1.1 (by omega), ← n1]
    exact SX_tick hX3 _
  · rw [List.drop_zero, List.filter_eq_self]
    intro z hz
    obtain ⟨j, hj⟩ := List.getElem?_of_mem hz
    simpa using (hX.1.2.1 j z hj).2
theorem qhb_all {v : Nat → Int32} : ∀ {n : Nat}, qhb v n = true ↔ ∀ i, i < n → v (153 + 25 * i) ≠ 0
  | 0 => by simp [qhb]
  | n + 1 => by
    rw [qhb, Bool.and_eq_true, qhb_all (n := n), decide_eq_true_iff]
    constructor
    · rintro ⟨h1, h2⟩ i hi
      rcases Nat.lt_or_ge i n with h3 | h3
      · exact h1 i h3
      · rw [show i = n by omega]; exact h2
    · intro h
      exact ⟨fun i hi => h i (by omega), h n (by omega)⟩
set_option maxRecDepth 20000 in
theorem lx_halt2 {S : zS} {b : Nat} (hS : SS S b) {mu : zU} {v : Nat → Int32} {ol : List Nat} (hX : SX mu b v ol) (Ph : Option zV → zS → zU → Prop) (hx : Ph (some (.inl (if qhb v ol.length then nI 1 else nI 0))) S mu) :
    ∀ (t i : Nat), i + t = ol.length → qhb v i = true → zG RX1 "isHalted" cX1_isHalted 2 (some .boolean) (zroom 0 0 0) 0 0 Ph 2 [some (.inr (b + 1)), some (.inl (nI i))] [] S (mu) 0 0 := by
  obtain ⟨hN, k0, k1, k2, k3, k4, k5, k6, r0, r1, r2, r3, r5, r7, hp⟩ := id hS
  have hN0 : b < S.1 := by omega
  have hN3 : b + 3 < S.1 := by omega
  have hl4 := hX.1.1.2.2
  have f4 : mu b 4 = nI ol.length := hX.2.2.2.1.trans hX.1.1.1
  intro t
  induction t with
  | zero =>
    intro i hi hq
    refine zg_iload_n (i := 1) dX1_isHalted_2 rfl rfl ?_
    refine zg_aload_n (i := 0) dX1_isHalted_3 rfl rfl ?_
    first | with_reducible refine zg_getIR dX1_isHalted_4 flX1_34 (by decide) (by assumption) (by assumption) (by omega) ?_ | refine zg_getI dX1_isHalted_4 flX1_34 (by decide) (by assumption) (by assumption) ?_
    refine zg_val f4 ?_
    first | with_reducible refine zg_icmpN_ge (tgt := 30) dX1_isHalted_7 (by decide) (by omega) (by omega) (fun c => ?_) (fun c => ?_) | refine zg_icmp_ge (tgt := 30) dX1_isHalted_7 (by decide) (fun c => ?_) (fun c => ?_)
    · refine zg_iconst (v := nI 1) dX1_isHalted_30 (by decide) ?_
      rw [show i = ol.length by omega] at hq
      rw [if_pos hq] at hx
      exact zg_zret dX1_isHalted_31 rfl (Or.inr rfl) hx
    · omega
  | succ t ih =>
    intro i hi hq
    refine zg_iload_n (i := 1) dX1_isHalted_2 rfl rfl ?_
    refine zg_aload_n (i := 0) dX1_isHalted_3 rfl rfl ?_
    first | with_reducible refine zg_getIR dX1_isHalted_4 flX1_34 (by decide) (by assumption) (by assumption) (by omega) ?_ | refine zg_getI dX1_isHalted_4 flX1_34 (by decide) (by assumption) (by assumption) ?_
    refine zg_val f4 ?_
    first | with_reducible refine zg_icmpN_ge (tgt := 30) dX1_isHalted_7 (by decide) (by omega) (by omega) (fun c => ?_) (fun c => ?_) | refine zg_icmp_ge (tgt := 30) dX1_isHalted_7 (by decide) (fun c => ?_) (fun c => ?_)
    · omega
    · obtain ⟨rp, hPS⟩ := hp i (by omega)
      have kp0 := hPS.2.1
      have kpN : b + 7 + 3 * i < S.1 := by omega
      obtain ⟨x, y, dr, ss, sl, ns, s0, s1, s2, hP, hR⟩ := hX.2.2.2.2.2.2.2.2.2.2.2 i (by omega)
      refine zg_aload_n (i := 0) dX1_isHalted_10 rfl rfl ?_
      refine zg_getR dX1_isHalted_11 flX1_20 (by decide) (by assumption) (by assumption) (by assumption) ?_
      refine zg_iload_n (i := 1) dX1_isHalted_14 rfl rfl ?_
      first | refine zg_pald dX1_isHalted_15 (by assumption) (by assumption) rfl (by omega) (by decide) (by assumption) ?_ | refine zg_sald dX1_isHalted_15 (by assumption) (by assumption) rfl (by omega) (by decide) (by assumption) ?_
      first | with_reducible refine zg_getIR dX1_isHalted_16 flX1_67 (by decide) (by assumption) (by assumption) (by omega) ?_ | refine zg_getI dX1_isHalted_16 flX1_67 (by decide) (by assumption) (by assumption) ?_
      refine zg_val (y := v (153 + 25 * i)) (by rw [hR.2.2.2.1]; congr 1; omega) ?_
      refine zg_if_ne (tgt := 24) dX1_isHalted_19 (by decide) (fun c2 => ?_) (fun c2 => ?_)
      · refine zg_iinc1 (L2 := [_, _]) dX1_isHalted_24 (by decide) rfl rfl ?_
        refine zg_goto (tgt := 2) dX1_isHalted_27 (by decide) ?_
        exact ih (i + 1) (by omega) (by rw [qhb, hq]; simp [c2])
      · refine zg_iconst (v := nI 0) dX1_isHalted_22 (by decide) ?_
        rw [if_neg (by rw [qhb_all]; exact fun z => z i (by omega) c2)] at hx
        exact zg_zret dX1_isHalted_23 rfl (Or.inl rfl) hx
set_option maxRecDepth 20000 in
theorem cx_isHalted {S : zS} {b : Nat} (hS : SS S b) {mu : zU} {v : Nat → Int32} {ol : List Nat} (hX : SX mu b v ol) : zM yX1_isHalted cX1_isHalted 2 (some .boolean) 0 0 0 [.inr (b + 1)] S mu (zPi S (fun r mu2 => mu2 = mu ∧ r = if qhb v ol.length then nI 1 else nI 0)) := by
  refine zM.ofG (by decide +kernel) (Nat.le_of_ble_eq_true rfl) ?_
  refine zg_iconst (v := nI 0) dX1_isHalted_0 (by decide) ?_
  refine zg_istore_n (i := 1) (L2 := [_, _]) dX1_isHalted_1 rfl (by decide) rfl ?_
  exact lx_halt2 hS hX _ ⟨_, rfl, rfl, rfl, rfl⟩ ol.length 0 (by omega) rfl
