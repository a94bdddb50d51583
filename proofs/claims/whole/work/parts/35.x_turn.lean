/-! THE CLASS: split, takeTurn, performTick, isHalted -/
theorem PX_shift {mu : zU} {k o b : Nat} {v : Nat → Int32} (h : PX mu k v o) : PX mu k (qcopy v o b) b := by
  obtain ⟨x, y, dr, ss, sl, ns, s0, s1, s2, hP, a0, a1, a2, a3, a4, a5, a6, a7, a8⟩ := h
  obtain ⟨z5, b1, b2, b3⟩ := hP.ns
  have hw : ∀ i, i < 25 → qcopy v o b (b + i) = v (o + i) := fun i hi => by rw [qcopy, if_pos (by omega), show b + i - b + o = o + i by omega]
  refine ⟨x, y, dr, ss, sl, ns, s0, s1, s2, PI_copy hP, a0.trans (hw 0 (by omega)).symm, a1.trans (hw 1 (by omega)).symm, a2.trans (hw 2 (by omega)).symm, a3.trans (hw 3 (by omega)).symm, a4.trans (hw 4 (by omega)).symm, a5.trans (hw 5 (by omega)).symm, a6, fun j hj => ?_, fun j hj => ?_⟩
  · have := hw (6 + j) (by omega)
    rw [← Nat.add_assoc, ← Nat.add_assoc] at this
    exact (a7 j hj).trans this.symm
  · have := hw (9 + j) (by omega)
    rw [← Nat.add_assoc, ← Nat.add_assoc] at this
    exact (a8 j hj).trans this.symm
def qshr (f : Nat → Int32) (cn t : Nat) : Nat → Int32 := fun j => if t < j ∧ j ≤ cn then f (j - 1) else f j
theorem qshr_0 (f : Nat → Int32) (cn : Nat) : qshr f cn cn = f := by
  funext j
  rw [qshr, if_neg (by omega)]
theorem qshr_1 (f : Nat → Int32) {cn t : Nat} (h : t + 1 ≤ cn) : upd (qshr f cn (t + 1)) (t + 1) (f t) = qshr f cn t := by
  funext j
  by_cases hj : j = t + 1
  · subst hj
    rw [upd_s, qshr, if_pos (by omega), Nat.add_sub_cancel]
  · rw [upd_n hj]
    unfold qshr
    by_cases h2 : t + 1 < j ∧ j ≤ cn
    · rw [if_pos h2, if_pos (by omega)]
    · rw [if_neg h2, if_neg (by omega)]
set_option maxRecDepth 20000 in
theorem lx_split51 {S : zS} {b : Nat} (hS : SS S b) (mu : zU) (f : Nat → Int32) {cn pl : Nat} {l3 : Option zV} (hc4 : cn < 4) (Ph : Option zV → zS → zU → Prop)
    (hx : zG RX1 "split" cX1_split 5 none (zroom 2 0 0) 0 0 Ph 81 [some (.inr (b + 1)), some (.inl (nI pl)), some (.inl (nI cn)), l3, some (.inl (nI (pl + 1)))] [] S (zrow mu (b + 4) (qshr f cn (pl + 1))) 0 0) :
    ∀ (d t : Nat), pl + 1 + d = t → t ≤ cn → zG RX1 "split" cX1_split 5 none (zroom 2 0 0) 0 0 Ph 51 [some (.inr (b + 1)), some (.inl (nI pl)), some (.inl (nI cn)), l3, some (.inl (nI t))] [] S (zrow mu (b + 4) (qshr f cn t)) 0 0 := by
  obtain ⟨hN, k0, k1, k2, k3, k4, k5, k6, r0, r1, r2, r3, r5, r7, hp⟩ := id hS
  have hN0 : b < S.1 := by omega
  have hN4 : b + 4 < S.1 := by omega
  intro d
  induction d with
  | zero =>
    intro t ht htc
    obtain rfl : pl + 1 = t := by omega
    refine zg_iload dX1_split_51 rfl ?_
    refine zg_iload_n (i := 1) dX1_split_53 rfl rfl ?_
    refine zg_iconst (v := nI 1) dX1_split_54 (by decide) ?_
    first | with_reducible refine zg_iaddN dX1_split_55 ?_ | refine zg_iadd dX1_split_55 ?_
    first | with_reducible refine zg_icmpN_le (tgt := 81) dX1_split_56 (by decide) (by omega) (by omega) (fun c2 => ?_) (fun c2 => ?_) | refine zg_icmp_le (tgt := 81) dX1_split_56 (by decide) (fun c2 => ?_) (fun c2 => ?_)
    · exact hx
    · omega
  | succ d ih =>
    intro t ht htc
    refine zg_iload dX1_split_51 rfl ?_
    refine zg_iload_n (i := 1) dX1_split_53 rfl rfl ?_
    refine zg_iconst (v := nI 1) dX1_split_54 (by decide) ?_
    first | with_reducible refine zg_iaddN dX1_split_55 ?_ | refine zg_iadd dX1_split_55 ?_
    first | with_reducible refine zg_icmpN_le (tgt := 81) dX1_split_56 (by decide) (by omega) (by omega) (fun c2 => ?_) (fun c2 => ?_) | refine zg_icmp_le (tgt := 81) dX1_split_56 (by decide) (fun c2 => ?_) (fun c2 => ?_)
    · omega
    · obtain ⟨t', rfl⟩ : ∃ t', t = t' + 1 := ⟨t - 1, by omega⟩
      refine zg_aload_n (i := 0) dX1_split_59 rfl rfl ?_
      refine zg_getR dX1_split_60 flX1_24 (by decide) (by assumption) (by assumption) (by assumption) ?_
      refine zg_iload dX1_split_63 rfl ?_
      refine zg_aload_n (i := 0) dX1_split_65 rfl rfl ?_
      refine zg_getR dX1_split_66 flX1_24 (by decide) (by assumption) (by assumption) (by assumption) ?_
      refine zg_iload dX1_split_69 rfl ?_
      refine zg_iconst (v := nI 1) dX1_split_71 (by decide) ?_
      first | with_reducible refine zg_isubN dX1_split_72 (by omega) ?_ | refine zg_isub dX1_split_72 ?_
      first | with_reducible refine zg_ialdR dX1_split_73 (by assumption) (by assumption) rfl (by omega) (by decide) ?_ | refine zg_iald dX1_split_73 (by assumption) (by assumption) rfl (by omega) (by decide) ?_
      refine zg_val (y := f t') (by rw [Nat.add_sub_cancel, qshr, if_neg (by omega)]) ?_
      first | with_reducible refine zg_iastR dX1_split_74 (by assumption) (by assumption) rfl (by omega) (by decide) ?_ | refine zg_iast dX1_split_74 (by assumption) (by assumption) rfl (by omega) (by decide) ?_
      rw [qshr_1 f htc]
      refine zg_iincm (L2 := [_, _, _, _, _]) dX1_split_75 (by decide) rfl (by omega) rfl ?_
      refine zg_goto (tgt := 51) dX1_split_78 (by decide) ?_
      exact ih t' (by omega) (by omega)
set_option maxRecDepth 20000 in
theorem cx_split {S : zS} {b : Nat} (hS : SS S b) {mu : zU} {v : Nat → Int32} {ol : List Nat} {pl pp : Nat} (hX : SX mu b v ol) (hi : ol[pl]? = some pp) (h3 : v (150 + 25 * pp + 3) = nI 0) (h4s : v (150 + 25 * pp + 4) = nI 0) : zM yX1_split cX1_split 5 none 2 0 0 [.inr (b + 1), .inl (nI pl)] S mu (zPv S (fun mu2 => SX mu2 b (qsplit v pp) (if ol.length ≠ 4 then ol.insertIdx (pl + 1) ol.length else ol) ∧ zfr mu mu2 b 19)) := by
  obtain ⟨hN, k0, k1, k2, k3, k4, k5, k6, r0, r1, r2, r3, r5, r7, hp⟩ := id hS
  have hN0 : b < S.1 := by omega
  have hN3 : b + 3 < S.1 := by omega
  have hN4 : b + 4 < S.1 := by omega
  obtain ⟨h0, g1, g2, g3, g4, g5, g6, g7, g8, g9, g10, g11⟩ := id hX
  obtain ⟨⟨h145, hl1, hl4⟩, v4, v5, v6, v7, -⟩ := id h0
  have hil := (List.getElem?_eq_some_iff.mp hi).1
  have hpl := qplace_at h0 hi ol.length hil (Nat.le_refl _)
  have hpp := (v4 pl pp hi).2
  have f4 : mu b 4 = nI ol.length := g3.trans h145
  have ford : mu (b + 4) pl = nI pp := (g4 pl hil).trans (v4 pl pp hi).1
  refine zM.ofG (by decide +kernel) (Nat.le_of_ble_eq_true rfl) ?_
  rw [qsplit, zn_of h145 (by omega)]
  refine zg_aload_n (i := 0) dX1_split_0 rfl rfl ?_
  first | with_reducible refine zg_getIR dX1_split_1 flX1_34 (by decide) (by assumption) (by assumption) (by omega) ?_ | refine zg_getI dX1_split_1 flX1_34 (by decide) (by assumption) (by assumption) ?_
  refine zg_val f4 ?_
  refine zg_iconst (v := nI 4) dX1_split_4 (by decide) ?_
  first | with_reducible refine zg_icmpN_lt (tgt := 9) dX1_split_5 (by decide) (by omega) (by omega) (fun c => ?_) (fun c => ?_) | refine zg_icmp_lt (tgt := 9) dX1_split_5 (by decide) (fun c => ?_) (fun c => ?_)
  · have hl3 : ol.length ≠ 4 := by omega
    rw [if_neg hl3, if_pos hl3]
    obtain ⟨rp, hPSc⟩ := hp ol.length (by omega)
    obtain ⟨rq, hPSp⟩ := hp pp (by omega)
    have kc0 := hPSc.2.1
    have kcN : b + 7 + 3 * ol.length < S.1 := by omega
    refine zg_aload_n (i := 0) dX1_split_9 rfl rfl ?_
    first | with_reducible refine zg_getIR dX1_split_10 flX1_34 (by decide) (by assumption) (by assumption) (by omega) ?_ | refine zg_getI dX1_split_10 flX1_34 (by decide) (by assumption) (by assumption) ?_
    refine zg_val f4 ?_
    refine zg_istore_n (i := 2) (L2 := [_, _, _, _, _]) dX1_split_13 rfl (by decide) rfl ?_
    refine zg_aload_n (i := 0) dX1_split_14 rfl rfl ?_
    refine zg_getR dX1_split_15 flX1_20 (by decide) (by assumption) (by assumption) (by assumption) ?_
    refine zg_iload_n (i := 2) dX1_split_18 rfl rfl ?_
    first | refine zg_pald dX1_split_19 (by assumption) (by assumption) rfl (by omega) (by decide) (by assumption) ?_ | refine zg_sald dX1_split_19 (by assumption) (by assumption) rfl (by omega) (by decide) (by assumption) ?_
    refine zg_astore_n (i := 3) (L2 := [_, _, _, _, _]) dX1_split_20 rfl (by decide) rfl ?_
    refine zg_aload_n (i := 3) dX1_split_21 rfl rfl ?_
    refine zg_aload_n (i := 0) dX1_split_22 rfl rfl ?_
    refine zg_getR dX1_split_23 flX1_20 (by decide) (by assumption) (by assumption) (by assumption) ?_
    refine zg_aload_n (i := 0) dX1_split_26 rfl rfl ?_
    refine zg_getR dX1_split_27 flX1_24 (by decide) (by assumption) (by assumption) (by assumption) ?_
    refine zg_iload_n (i := 1) dX1_split_30 rfl rfl ?_
    first | with_reducible refine zg_ialdR dX1_split_31 (by assumption) (by assumption) rfl (by omega) (by decide) ?_ | refine zg_iald dX1_split_31 (by assumption) (by assumption) rfl (by omega) (by decide) ?_
    refine zg_val ford ?_
    first | refine zg_pald dX1_split_32 (by assumption) (by assumption) rfl (by omega) (by decide) (by assumption) ?_ | refine zg_sald dX1_split_32 (by assumption) (by assumption) rfl (by omega) (by decide) (by assumption) ?_
    refine zg_callVv (cx_copyP hPSc hPSp (by omega) mu) dX1_split_33 cvX0_copyFrom mlX1_44 rfl (by assumption) (by assumption) rfl (Nat.le_of_ble_eq_true rfl) ⟨by decide, by decide⟩ ⟨Nat.le_refl _, Nat.le_refl _⟩ (fun mu2 h2 => ?_)
    obtain ⟨hcp, hf2⟩ := h2
    have hP2 := PX_shift (b := 150 + 25 * ol.length) (hcp _ _ (g11 pp hpp))
    refine zg_aload_n (i := 3) dX1_split_36 rfl rfl ?_
    refine zg_iconst (v := nI 2) dX1_split_37 (by decide) ?_
    refine zg_callVv (cx_turn hPSc hP2 (n := 2) (by omega)) dX1_split_38 cvX0_turn mlX1_121 rfl (by assumption) (by assumption) rfl (Nat.le_of_ble_eq_true rfl) ⟨by decide, by decide⟩ ⟨Nat.le_refl _, Nat.le_refl _⟩ (fun mu3 h3x => ?_)
    refine zg_aload_n (i := 3) dX1_split_41 rfl rfl ?_
    refine zg_callVv (cx_step hPSc h3x.1) dX1_split_42 cvX0_step mlX1_102 rfl (by assumption) (by assumption) rfl (Nat.le_of_ble_eq_true rfl) ⟨by decide, by decide⟩ ⟨Nat.le_refl _, Nat.le_refl _⟩ (fun mu4 h4x => ?_)
    have hbe : qmove (qturn (qcopy v (150 + 25 * pp) (150 + 25 * ol.length)) (150 + 25 * ol.length) 2) (150 + 25 * ol.length) = qborn v (150 + 25 * pp) (150 + 25 * ol.length) := by
      have hw : ∀ i, i < 25 → qcopy v (150 + 25 * pp) (150 + 25 * ol.length) (150 + 25 * ol.length + i) = v (150 + 25 * pp + i) := fun i hi2 => by rw [qcopy, if_pos (by omega), show 150 + 25 * ol.length + i - (150 + 25 * ol.length) + (150 + 25 * pp) = 150 + 25 * pp + i by omega]
      rw [qborn, upd_same (f := qcopy v (150 + 25 * pp) (150 + 25 * ol.length)) (by rw [hw 3 (by omega)]; exact h3), upd_same (by rw [hw 4 (by omega)]; exact h4s)]
    rw [hbe] at h4x
    obtain ⟨hX4, hf4⟩ := h4x
    have hff := hf2.trans (h3x.2.trans hf4)
    have hb : ∀ j, (j < 150 + 25 * ol.length ∨ 150 + 25 * ol.length + 25 ≤ j) → qborn v (150 + 25 * pp) (150 + 25 * ol.length) j = v j := fun j hj => qborn_out hj
    have hVS := VI_split h0 hi hl3
    have hqs : qsplit2 v pp ol.length = upd (qins (qborn v (150 + 25 * pp) (150 + 25 * ol.length)) ol.length (pl + 1)) 145 (nI (ol.length + 1)) := by rw [qsplit2, hpl]
    rw [hqs] at hVS ⊢
    generalize qborn v (150 + 25 * pp) (150 + 25 * ol.length) = u at *
    refine zg_aload_n (i := 0) dX1_split_45 rfl rfl ?_
    first | with_reducible refine zg_getIR dX1_split_46 flX1_34 (by decide) (by assumption) (by assumption) (by omega) ?_ | refine zg_getI dX1_split_46 flX1_34 (by decide) (by assumption) (by assumption) ?_
    refine zg_val (y := nI ol.length) (by rw [hff _ (by omega)]; exact f4) ?_
    refine zg_istore (L2 := [_, _, _, _, _]) dX1_split_49 (by decide) rfl ?_
    refine zg_mu (mu2 := zrow mu4 (b + 4) (qshr (mu4 (b + 4)) ol.length ol.length)) (by rw [qshr_0, zrow_self]) ?_
    refine lx_split51 hS mu4 (mu4 (b + 4)) (by omega) _ ?_ (ol.length - (pl + 1)) ol.length (by omega) (Nat.le_refl _)
    refine zg_aload_n (i := 0) dX1_split_81 rfl rfl ?_
    refine zg_getR dX1_split_82 flX1_24 (by decide) (by assumption) (by assumption) (by assumption) ?_
    refine zg_iload_n (i := 1) dX1_split_85 rfl rfl ?_
    refine zg_iconst (v := nI 1) dX1_split_86 (by decide) ?_
    first | with_reducible refine zg_iaddN dX1_split_87 ?_ | refine zg_iadd dX1_split_87 ?_
    refine zg_iload_n (i := 2) dX1_split_88 rfl rfl ?_
    first | with_reducible refine zg_iastR dX1_split_89 (by assumption) (by assumption) rfl (by omega) (by decide) ?_ | refine zg_iast dX1_split_89 (by assumption) (by assumption) rfl (by omega) (by decide) ?_
    refine zg_aload_n (i := 0) dX1_split_90 rfl rfl ?_
    refine zg_dup dX1_split_91 ?_
    first | with_reducible refine zg_getIR dX1_split_92 flX1_34 (by decide) (by assumption) (by assumption) (by omega) ?_ | refine zg_getI dX1_split_92 flX1_34 (by decide) (by assumption) (by assumption) ?_
    refine zg_val (y := nI ol.length) (by rw [hff _ (by omega)]; exact f4) ?_
    refine zg_iconst (v := nI 1) dX1_split_95 (by decide) ?_
    first | with_reducible refine zg_iaddN dX1_split_96 ?_ | refine zg_iadd dX1_split_96 ?_
    refine zg_putI dX1_split_97 flX1_34 (by decide) (by assumption) (by assumption) ?_
    have e250 : zn (upd (qins u ol.length (pl + 1)) 145 (nI (ol.length + 1))) 250 = zn v 250 := by rw [zn, zn, upd_n (by omega), qins, if_neg (by omega), if_neg (by omega), hb _ (by omega)]
    have e267 : zn (upd (qins u ol.length (pl + 1)) 145 (nI (ol.length + 1))) 267 = zn v 267 := by rw [zn, zn, upd_n (by omega), qins, if_neg (by omega), if_neg (by omega), hb _ (by omega)]
    have hn16 : zn v 250 ≤ 16 := by
      obtain ⟨n2, q1, q2, -⟩ := h0.2.2.2.2.2.2.1
      rw [zn_of q2 (by omega)]; exact q1
    have hn20 : zn v 267 ≤ 20 := by
      obtain ⟨n2, q1, q2, -⟩ := h0.2.2.2.2.2.2.2
      rw [zn_of q2 (by omega)]; exact q1
    have hlen : (ol.insertIdx (pl + 1) ol.length).length = ol.length + 1 := by rw [List.length_insertIdx, if_pos (by omega)]
    have eo : ∀ j, (j < 145 ∨ 150 ≤ j) → upd (qins u ol.length (pl + 1)) 145 (nI (ol.length + 1)) j = u j := fun j hj => by rw [upd_n (by omega), qins, if_neg (by omega), if_neg (by omega)]
    refine zg_vret dX1_split_100 rfl ⟨rfl, rfl, ?_⟩
    refine ⟨⟨hVS, fun j hj => ?_, fun j hj => ?_, ?_, fun j hj => ?_, ?_, fun j hj => ?_, ?_, fun j hj => ?_, ?_, ?_, fun q hq => ?_⟩, fun q hq => ?_⟩
    · rw [zup_n (by omega), zrow_n (by omega), hff _ (by omega), eo _ (by omega), hb _ (by omega)]; exact g1 j hj
    · rw [zup_n (by omega), zrow_n (by omega), hff _ (by omega), eo _ (by omega), hb _ (by omega)]; exact g2 j hj
    · rw [zup_s, upd_s, upd_s]
    · rw [hlen] at hj
      rw [zup_n (by omega), zrow_s, upd_n (show 146 + j ≠ 145 by omega), qins, hff _ (by omega)]
      by_cases hj1 : j = pl + 1
      · rw [hj1, upd_s, if_neg (by omega), if_pos rfl]
      · rw [upd_n hj1, qshr]
        by_cases hj2 : pl + 1 < j
        · rw [if_pos (by omega), if_pos (by omega), g4 _ (by omega), hb _ (by omega)]
          congr 1
          omega
        · rw [if_neg (by omega), if_neg (by omega), if_neg (by omega), g4 _ (by omega), hb _ (by omega)]
    · rw [zup_s, upd_n (by omega), zrow_n (by omega), hff _ (by omega), eo _ (by omega), hb _ (by omega)]; exact g5
    · rw [e250] at hj
      rw [zup_n (by omega), zrow_n (by omega), hff _ (by omega), eo _ (by omega), hb _ (by omega)]; exact g6 j hj
    · rw [zup_s, upd_n (by omega), zrow_n (by omega), hff _ (by omega), eo _ (by omega), hb _ (by omega)]; exact g7
    · rw [e267] at hj
      rw [zup_n (by omega), zrow_n (by omega), hff _ (by omega), eo _ (by omega), hb _ (by omega)]; exact g8 j hj
    · rw [zup_s, upd_n (by omega), zrow_n (by omega), hff _ (by omega), eo _ (by omega), hb _ (by omega)]; exact g9
    · rw [zup_s, upd_n (by omega), zrow_n (by omega), hff _ (by omega), eo _ (by omega), hb _ (by omega)]; exact g10
    · rw [hlen] at hq
      by_cases hqc : q = ol.length
      · rw [hqc]
        exact PX_out hX4 (fun p2 a c2 => by rw [zup_n (by omega), zrow_n (by omega)]) (fun j a c2 => eo j (by omega))
      · exact PX_out (g11 q (by omega)) (fun p2 a c2 => by rw [zup_n (by omega), zrow_n (by omega), hff _ (by omega)]) (fun j a c2 => by rw [eo j (by omega), hb j (by omega)])
    · rw [zup_n (by omega), zrow_n (by omega), hff _ (by omega)]
  · rw [if_pos (by omega), if_neg (by omega)]
    exact zg_vret dX1_split_8 rfl ⟨rfl, rfl, ⟨hX, zfr.rf _ _ _⟩⟩
