/-! THE REFERENCE: takeTurn, step, isHalted, isAtBreakpoint -/
set_option maxRecDepth 20000 in
theorem cm_takeTurn {S : zS} {m : Nat} (hS : MS S m) (mu : zU) {v : Nat → Int32} {ol : List Nat} {pp i : Nat} (hV : VI v ol) (hi : ol[i]? = some pp) : zM yX3_takeTurn cX3_takeTurn 2 none 5 0 0 [.inr (m + 1), .inl (nI pp)] S (zrow mu (m + 1) v) (zPv S (fun mu2 => mu2 = zrow mu (m + 1) (qtake v pp))) := by
  obtain ⟨⟨hN, k0, k1, -⟩, r0, -⟩ := id hS
  have hN0 : m < S.1 := by omega
  have hN1 : m + 1 < S.1 := by omega
  have hpp := (hV.2.1 i pp hi).2
  have hl4 := hV.1.2.2
  obtain ⟨x, y, dr, ss, sl, ns, s0, s1, s2, hP⟩ := hV.2.2.2.2.1 pp hpp
  obtain ⟨e0, e1, e2, e3, e4, e5, e6, e7, e8, ⟨b1, b2, b3, b4, b5, -⟩, -⟩ := id hP
  have e0' : v (150 + 25 * pp + 0) = nI x := e0
  have z0 : zn v (150 + 25 * pp) = x := zn_of e0 (by omega)
  have z1 : zn v (151 + 25 * pp) = y := by rw [show 151 + 25 * pp = 150 + 25 * pp + 1 by omega]; exact zn_of e1 (by omega)
  refine zM.ofG (by decide +kernel) (Nat.le_of_ble_eq_true rfl) ?_
  rw [qtake, show 153 + 25 * pp = 150 + 25 * pp + 3 by omega, show 154 + 25 * pp = 150 + 25 * pp + 4 by omega, e3, e4, z0, z1]
  refine zg_aload_n (i := 0) dX3_takeTurn_0 rfl rfl ?_
  refine zg_iload_n (i := 1) dX3_takeTurn_1 rfl rfl ?_
  refine zg_iconst (v := nI 3) dX3_takeTurn_2 (by decide) ?_
  refine zg_callVi (cm_of hS mu v (p := pp) (w := 3) (by omega)) dX3_takeTurn_3 cvX3_of mlX3_69 rfl (by assumption) (by assumption) rfl (Nat.le_of_ble_eq_true rfl) ⟨by decide, by decide⟩ ⟨Nat.le_refl _, Nat.le_refl _⟩ (fun r mu2 h2 => ?_)
  obtain ⟨rfl, rfl⟩ := h2
  refine zg_val e3 ?_
  first | with_reducible refine zg_ifN_eq (tgt := 10) dX3_takeTurn_6 (by decide) (by omega) (fun c => ?_) (fun c => ?_) | refine zg_if_eq (tgt := 10) dX3_takeTurn_6 (by decide) (fun c => ?_) (fun c => ?_)
  · subst c
    rw [if_neg (fun z => z rfl)]
    refine zg_aload_n (i := 0) dX3_takeTurn_10 rfl rfl ?_
    refine zg_iload_n (i := 1) dX3_takeTurn_11 rfl rfl ?_
    refine zg_iconst (v := nI 4) dX3_takeTurn_12 (by decide) ?_
    refine zg_callVi (cm_of hS mu v (p := pp) (w := 4) (by omega)) dX3_takeTurn_13 cvX3_of mlX3_69 rfl (by assumption) (by assumption) rfl (Nat.le_of_ble_eq_true rfl) ⟨by decide, by decide⟩ ⟨Nat.le_refl _, Nat.le_refl _⟩ (fun r mu2 h2 => ?_)
    obtain ⟨rfl, rfl⟩ := h2
    refine zg_val e4 ?_
    first | with_reducible refine zg_ifN_le (tgt := 34) dX3_takeTurn_16 (by decide) (by omega) (fun c2 => ?_) (fun c2 => ?_) | refine zg_if_le (tgt := 34) dX3_takeTurn_16 (by decide) (fun c2 => ?_) (fun c2 => ?_)
    · rw [if_neg (by rw [← n0, nI_ltI (by omega) (by omega)]; omega)]
      refine zg_aload_n (i := 0) dX3_takeTurn_34 rfl rfl ?_
      refine zg_iload_n (i := 1) dX3_takeTurn_35 rfl rfl ?_
      refine zg_aload_n (i := 0) dX3_takeTurn_36 rfl rfl ?_
      refine zg_getR dX3_takeTurn_37 flX3_7 (by decide) (by assumption) (by assumption) (by assumption) ?_
      refine zg_bipush (v := nI 72) dX3_takeTurn_40 (by decide) ?_
      refine zg_bipush (v := nI 12) dX3_takeTurn_42 (by decide) ?_
      refine zg_aload_n (i := 0) dX3_takeTurn_44 rfl rfl ?_
      refine zg_iload_n (i := 1) dX3_takeTurn_45 rfl rfl ?_
      refine zg_iconst (v := nI 1) dX3_takeTurn_46 (by decide) ?_
      refine zg_callVi (cm_of hS mu v (p := pp) (w := 1) (by omega)) dX3_takeTurn_47 cvX3_of mlX3_69 rfl (by assumption) (by assumption) rfl (Nat.le_of_ble_eq_true rfl) ⟨by decide, by decide⟩ ⟨Nat.le_refl _, Nat.le_refl _⟩ (fun r mu2 h2 => ?_)
      obtain ⟨rfl, rfl⟩ := h2
      refine zg_val e1 ?_
      first | with_reducible refine zg_imulN dX3_takeTurn_50 ?_ | refine zg_imul dX3_takeTurn_50 ?_
      first | with_reducible refine zg_iaddN dX3_takeTurn_51 ?_ | refine zg_iadd dX3_takeTurn_51 ?_
      refine zg_aload_n (i := 0) dX3_takeTurn_52 rfl rfl ?_
      refine zg_iload_n (i := 1) dX3_takeTurn_53 rfl rfl ?_
      refine zg_iconst (v := nI 0) dX3_takeTurn_54 (by decide) ?_
      refine zg_callVi (cm_of hS mu v (p := pp) (w := 0) (by omega)) dX3_takeTurn_55 cvX3_of mlX3_69 rfl (by assumption) (by assumption) rfl (Nat.le_of_ble_eq_true rfl) ⟨by decide, by decide⟩ ⟨Nat.le_refl _, Nat.le_refl _⟩ (fun r mu2 h2 => ?_)
      obtain ⟨rfl, rfl⟩ := h2
      refine zg_val e0' ?_
      first | with_reducible refine zg_iaddN dX3_takeTurn_58 ?_ | refine zg_iadd dX3_takeTurn_58 ?_
      first | with_reducible refine zg_ialdR dX3_takeTurn_59 (by assumption) (by assumption) rfl (by omega) (by decide) ?_ | refine zg_iald dX3_takeTurn_59 (by assumption) (by assumption) rfl (by omega) (by decide) ?_
      refine zg_callVv (cm_execute hS mu hV hi _) dX3_takeTurn_60 cvX3_execute mlX3_138 rfl (by assumption) (by assumption) rfl (Nat.le_of_ble_eq_true rfl) ⟨by decide, by decide⟩ ⟨Nat.le_refl _, Nat.le_refl _⟩ (fun mu2 h2 => ?_)
      subst h2
      have hV2 := VI_exec hV hi (v (72 + 12 * y + x))
      have hm2 := olNext_mem (v := v) (c := v (72 + 12 * y + x)) (List.getElem?_eq_some_iff.mp hi).1 (List.mem_of_getElem? hi)
      generalize qexec v pp (v (72 + 12 * y + x)) = w at *
      generalize olNext v ol i (v (72 + 12 * y + x)) = ol2 at *
      obtain ⟨i2, hi2⟩ := List.getElem?_of_mem hm2
      obtain ⟨x', y', dr', ss', sl', ns', s0', s1', s2', hP2⟩ := hV2.2.2.2.2.1 pp (hV2.2.1 i2 pp hi2).2
      rw [qend]
      refine zg_aload_n (i := 0) dX3_takeTurn_63 rfl rfl ?_
      refine zg_iload_n (i := 1) dX3_takeTurn_64 rfl rfl ?_
      refine zg_iconst (v := nI 3) dX3_takeTurn_65 (by decide) ?_
      refine zg_callVi (cm_of hS mu w (p := pp) (w := 3) (by omega)) dX3_takeTurn_66 cvX3_of mlX3_69 rfl (by assumption) (by assumption) rfl (Nat.le_of_ble_eq_true rfl) ⟨by decide, by decide⟩ ⟨Nat.le_refl _, Nat.le_refl _⟩ (fun r mu2 h2 => ?_)
      obtain ⟨rfl, rfl⟩ := h2
      refine zg_if_ne (tgt := 77) dX3_takeTurn_69 (by decide) (fun cz => ?_) (fun cz => ?_)
      · rw [if_neg cz]
        exact zg_vret dX3_takeTurn_77 rfl ⟨rfl, rfl, rfl⟩
      · rw [if_pos cz]
        refine zg_aload_n (i := 0) dX3_takeTurn_72 rfl rfl ?_
        refine zg_iload_n (i := 1) dX3_takeTurn_73 rfl rfl ?_
        refine zg_callVv (cm_move hS mu (by omega) hP2) dX3_takeTurn_74 cvX3_move mlX3_100 rfl (by assumption) (by assumption) rfl (Nat.le_of_ble_eq_true rfl) ⟨by decide, by decide⟩ ⟨Nat.le_refl _, Nat.le_refl _⟩ (fun mu2 h2 => ?_)
        subst h2
        exact zg_vret dX3_takeTurn_77 rfl ⟨rfl, rfl, rfl⟩
    · rw [if_pos (by rw [← n0, nI_ltI (by omega) (by omega)]; omega)]
      refine zg_aload_n (i := 0) dX3_takeTurn_19 rfl rfl ?_
      refine zg_iload_n (i := 1) dX3_takeTurn_20 rfl rfl ?_
      refine zg_iconst (v := nI 4) dX3_takeTurn_21 (by decide) ?_
      refine zg_aload_n (i := 0) dX3_takeTurn_22 rfl rfl ?_
      refine zg_iload_n (i := 1) dX3_takeTurn_23 rfl rfl ?_
      refine zg_iconst (v := nI 4) dX3_takeTurn_24 (by decide) ?_
      refine zg_callVi (cm_of hS mu v (p := pp) (w := 4) (by omega)) dX3_takeTurn_25 cvX3_of mlX3_69 rfl (by assumption) (by assumption) rfl (Nat.le_of_ble_eq_true rfl) ⟨by decide, by decide⟩ ⟨Nat.le_refl _, Nat.le_refl _⟩ (fun r mu2 h2 => ?_)
      obtain ⟨rfl, rfl⟩ := h2
      refine zg_val e4 ?_
      refine zg_iconst (v := nI 1) dX3_takeTurn_28 (by decide) ?_
      first | with_reducible refine zg_isubN dX3_takeTurn_29 (by omega) ?_ | refine zg_isub dX3_takeTurn_29 ?_
      refine zg_callVv (cm_put hS mu v (p := pp) (w := 4) (by omega) _) dX3_takeTurn_30 cvX3_put mlX3_80 rfl (by assumption) (by assumption) rfl (Nat.le_of_ble_eq_true rfl) ⟨by decide, by decide⟩ ⟨Nat.le_refl _, Nat.le_refl _⟩ (fun mu2 h2 => ?_)
      subst h2
      refine zg_vret dX3_takeTurn_33 rfl ⟨rfl, rfl, ?_⟩
      show zrow _ _ _ = zrow _ _ _
      rw [← n1, pk_sub (by omega)]
  · rw [if_pos (by rw [← n0, Ne, nI_eq (by omega) (by omega)]; exact c)]
    exact zg_vret dX3_takeTurn_9 rfl ⟨rfl, rfl, rfl⟩
theorem zup_zrow_ne {mu : zU} {k k2 j : Nat} {f : Nat → Int32} {x : Int32} (h : k2 ≠ k) : zup (zrow mu k f) k2 j x = zrow (zup mu k2 j x) k f := by
  funext q
  by_cases h1 : q = k
  · subst h1
    have : ¬ q = k2 := fun z => h z.symm
    simp [zup, zrow, this]
  · simp [zup, zrow, h1]
set_option maxRecDepth 20000 in
theorem lm_step11 {S : zS} {m : Nat} (hS : MS S m) (mu : zU) (v : Nat → Int32) {cn : Nat} (hc4 : cn ≤ 4) (Ph : Option zV → zS → zU → Prop)
    (hx : ∀ A : zU, (∀ j, j < cn → A (m + 10) j = v (146 + j)) → (∀ q, q ≠ m + 10 → A q = mu q) → zG RX3 "step" cX3_step 3 none (zroom 6 0 0) 0 0 Ph 38 [some (.inr (m + 1)), some (.inl (nI cn)), some (.inl (nI cn))] [] S (zrow A (m + 1) v) 0 0) :
    ∀ (t i : Nat) (A : zU), i + t = cn → (∀ j, j < i → A (m + 10) j = v (146 + j)) → (∀ q, q ≠ m + 10 → A q = mu q) → zG RX3 "step" cX3_step 3 none (zroom 6 0 0) 0 0 Ph 11 [some (.inr (m + 1)), some (.inl (nI cn)), some (.inl (nI i))] [] S (zrow A (m + 1) v) 0 0 := by
  obtain ⟨⟨hN, k0, k1, -, -, -, -, -, -, -, -, k10⟩, r0, -, -, -, -, -, -, -, -, r11⟩ := id hS
  have hN0 : m < S.1 := by omega
  have hN1 : m + 1 < S.1 := by omega
  intro t
  induction t with
  | zero =>
    intro i A hit hA1 hA2
    obtain rfl : i = cn := by omega
    refine zg_iload_n (i := 2) dX3_step_11 rfl rfl ?_
    refine zg_iload_n (i := 1) dX3_step_12 rfl rfl ?_
    first | with_reducible refine zg_icmpN_ge (tgt := 38) dX3_step_13 (by decide) (by omega) (by omega) (fun c2 => ?_) (fun c2 => ?_) | refine zg_icmp_ge (tgt := 38) dX3_step_13 (by decide) (fun c2 => ?_) (fun c2 => ?_)
    · exact hx A hA1 hA2
    · omega
  | succ t ih =>
    intro i A hit hA1 hA2
    refine zg_iload_n (i := 2) dX3_step_11 rfl rfl ?_
    refine zg_iload_n (i := 1) dX3_step_12 rfl rfl ?_
    first | with_reducible refine zg_icmpN_ge (tgt := 38) dX3_step_13 (by decide) (by omega) (by omega) (fun c2 => ?_) (fun c2 => ?_) | refine zg_icmp_ge (tgt := 38) dX3_step_13 (by decide) (fun c2 => ?_) (fun c2 => ?_)
    · omega
    · refine zg_aload_n (i := 0) dX3_step_16 rfl rfl ?_
      refine zg_getR dX3_step_17 flX3_38 (by decide) (by assumption) (by assumption) (by assumption) ?_
      refine zg_iload_n (i := 2) dX3_step_20 rfl rfl ?_
      refine zg_aload_n (i := 0) dX3_step_21 rfl rfl ?_
      refine zg_getR dX3_step_22 flX3_7 (by decide) (by assumption) (by assumption) (by assumption) ?_
      refine zg_sipush (v := nI 146) dX3_step_25 (by decide) ?_
      refine zg_iload_n (i := 2) dX3_step_28 rfl rfl ?_
      first | with_reducible refine zg_iaddN dX3_step_29 ?_ | refine zg_iadd dX3_step_29 ?_
      first | with_reducible refine zg_ialdR dX3_step_30 (by assumption) (by assumption) rfl (by omega) (by decide) ?_ | refine zg_iald dX3_step_30 (by assumption) (by assumption) rfl (by omega) (by decide) ?_
      refine zg_iast dX3_step_31 k10 hN rfl (by omega) (by decide) ?_
      rw [zup_zrow_ne (by omega)]
      refine zg_iinc1 (L2 := [_, _, _]) dX3_step_32 (by decide) rfl rfl ?_
      refine zg_goto (tgt := 11) dX3_step_35 (by decide) ?_
      refine ih (i + 1) _ (by omega) (fun j hj => ?_) (fun q hq => ?_)
      · rw [zup_s]
        by_cases hji : j = i
        · rw [hji, upd_s]
        · rw [upd_n hji]; exact hA1 j (by omega)
      · rw [zup_n hq]; exact hA2 q hq
set_option maxRecDepth 20000 in
theorem lm_step40 {S : zS} {m : Nat} (hS : MS S m) (A : zU) {v : Nat → Int32} {ol : List Nat} (hV : VI v ol) (hA1 : ∀ j, j < ol.length → A (m + 10) j = v (146 + j)) (Ph : Option zV → zS → zU → Prop)
    (hx : zG RX3 "step" cX3_step 3 none (zroom 6 0 0) 0 0 Ph 61 [some (.inr (m + 1)), some (.inl (nI ol.length)), some (.inl (nI ol.length))] [] S (zrow A (m + 1) (qtakes v ol.length)) 0 0) :
    ∀ (t i : Nat), i + t = ol.length → zG RX3 "step" cX3_step 3 none (zroom 6 0 0) 0 0 Ph 40 [some (.inr (m + 1)), some (.inl (nI ol.length)), some (.inl (nI i))] [] S (zrow A (m + 1) (qtakes v i)) 0 0 := by
  obtain ⟨⟨hN, k0, k1, -, -, -, -, -, -, -, -, k10⟩, r0, -, -, -, -, -, -, -, -, r11⟩ := id hS
  have hN0 : m < S.1 := by omega
  have hN1 : m + 1 < S.1 := by omega
  have hl4 := hV.1.2.2
  intro t
  induction t with
  | zero =>
    intro i hit
    obtain rfl : i = ol.length := by omega
    refine zg_iload_n (i := 2) dX3_step_40 rfl rfl ?_
    refine zg_iload_n (i := 1) dX3_step_41 rfl rfl ?_
    first | with_reducible refine zg_icmpN_ge (tgt := 61) dX3_step_42 (by decide) (by omega) (by omega) (fun c2 => ?_) (fun c2 => ?_) | refine zg_icmp_ge (tgt := 61) dX3_step_42 (by decide) (fun c2 => ?_) (fun c2 => ?_)
    · exact hx
    · omega
  | succ t ih =>
    intro i hit
    have hq := List.getElem?_eq_getElem (show i < ol.length by omega)
    have h3 := hV.2.1 i _ hq
    obtain ⟨ol2, hV2, hm2⟩ := VI_takes hV i (by omega)
    obtain ⟨i2, hi2⟩ := List.getElem?_of_mem (hm2 _ (List.mem_of_getElem? hq))
    refine zg_iload_n (i := 2) dX3_step_40 rfl rfl ?_
    refine zg_iload_n (i := 1) dX3_step_41 rfl rfl ?_
    first | with_reducible refine zg_icmpN_ge (tgt := 61) dX3_step_42 (by decide) (by omega) (by omega) (fun c2 => ?_) (fun c2 => ?_) | refine zg_icmp_ge (tgt := 61) dX3_step_42 (by decide) (fun c2 => ?_) (fun c2 => ?_)
    · omega
    · refine zg_aload_n (i := 0) dX3_step_45 rfl rfl ?_
      refine zg_aload_n (i := 0) dX3_step_46 rfl rfl ?_
      refine zg_getR dX3_step_47 flX3_38 (by decide) (by assumption) (by assumption) (by assumption) ?_
      refine zg_iload_n (i := 2) dX3_step_50 rfl rfl ?_
      refine zg_iald dX3_step_51 k10 hN rfl (by omega) (by decide) ?_
      refine zg_val (y := nI ol[i]) (by rw [zrow_n (by omega), hA1 i (by omega)]; exact h3.1) ?_
      refine zg_callVv (cm_takeTurn hS A hV2 hi2) dX3_step_52 cvX3_takeTurn mlX3_141 rfl (by assumption) (by assumption) rfl (Nat.le_of_ble_eq_true rfl) ⟨by decide, by decide⟩ ⟨Nat.le_refl _, Nat.le_refl _⟩ (fun mu2 h2 => ?_)
      subst h2
      rw [show qtake (qtakes v i) ol[i] = qtakes v (i + 1) by rw [qtakes, zn_of h3.1 (by omega)]]
      refine zg_iinc1 (L2 := [_, _, _]) dX3_step_55 (by decide) rfl rfl ?_
      refine zg_goto (tgt := 40) dX3_step_58 (by decide) ?_
      exact ih (i + 1) (by omega)
set_option maxRecDepth 20000 in
theorem cm_step {S : zS} {m : Nat} (hS : MS S m) (mu : zU) {v : Nat → Int32} {ol : List Nat} (hV : VI v ol) : zM yX3_step cX3_step 3 none 6 0 0 [.inr (m + 1)] S (zrow mu (m + 1) v) (zPv S (fun mu2 => ∃ A : zU, (∀ q, q ≠ m + 10 → A q = mu q) ∧ mu2 = zrow A (m + 1) (qstep v))) := by
  obtain ⟨⟨hN, k0, k1, -⟩, r0, -⟩ := id hS
  have hN0 : m < S.1 := by omega
  have hN1 : m + 1 < S.1 := by omega
  have h145 := hV.1.1
  have hl4 := hV.1.2.2
  refine zM.ofG (by decide +kernel) (Nat.le_of_ble_eq_true rfl) ?_
  refine zg_aload_n (i := 0) dX3_step_0 rfl rfl ?_
  refine zg_getR dX3_step_1 flX3_7 (by decide) (by assumption) (by assumption) (by assumption) ?_
  refine zg_sipush (v := nI 145) dX3_step_4 (by decide) ?_
  first | with_reducible refine zg_ialdR dX3_step_7 (by assumption) (by assumption) rfl (by omega) (by decide) ?_ | refine zg_iald dX3_step_7 (by assumption) (by assumption) rfl (by omega) (by decide) ?_
  refine zg_val h145 ?_
  refine zg_istore_n (i := 1) (L2 := [_, _, _]) dX3_step_8 rfl (by decide) rfl ?_
  refine zg_iconst (v := nI 0) dX3_step_9 (by decide) ?_
  refine zg_istore_n (i := 2) (L2 := [_, _, _]) dX3_step_10 rfl (by decide) rfl ?_
  refine lm_step11 hS mu v hl4 _ ?_ ol.length 0 mu (by omega) (fun j hj => absurd hj (by omega)) (fun _ _ => rfl)
  intro A hA1 hA2
  refine zg_iconst (v := nI 0) dX3_step_38 (by decide) ?_
  refine zg_istore_n (i := 2) (L2 := [_, _, _]) dX3_step_39 rfl (by decide) rfl ?_
  refine lm_step40 hS A hV hA1 _ ?_ ol.length 0 (by omega)
  refine zg_aload_n (i := 0) dX3_step_61 rfl rfl ?_
  refine zg_getR dX3_step_62 flX3_7 (by decide) (by assumption) (by assumption) (by assumption) ?_
  refine zg_sipush (v := nI 144) dX3_step_65 (by decide) ?_
  refine zg_dup2 dX3_step_68 ?_
  first | with_reducible refine zg_ialdR dX3_step_69 (by assumption) (by assumption) rfl (by omega) (by decide) ?_ | refine zg_iald dX3_step_69 (by assumption) (by assumption) rfl (by omega) (by decide) ?_
  refine zg_iconst (v := nI 1) dX3_step_70 (by decide) ?_
  first | with_reducible refine zg_iaddN dX3_step_71 ?_ | refine zg_iadd dX3_step_71 ?_
  first | with_reducible refine zg_iastR dX3_step_72 (by assumption) (by assumption) rfl (by omega) (by decide) ?_ | refine zg_iast dX3_step_72 (by assumption) (by assumption) rfl (by omega) (by decide) ?_
  refine zg_vret dX3_step_73 rfl ⟨rfl, rfl, ?_⟩
  refine ⟨A, hA2, ?_⟩
  rw [qstep, zn_of h145 (by omega), ← n1]
def qhb (v : Nat → Int32) : Nat → Bool
  | 0 => true
  | n + 1 => qhb v n && decide (v (153 + 25 * n) ≠ 0)
set_option maxRecDepth 20000 in
theorem lm_halt4 {S : zS} {m : Nat} (hS : MS S m) (mu : zU) {v : Nat → Int32} {cn : Nat} (hv : v 145 = nI cn) (hc4 : cn ≤ 4) (Ph : Option zV → zS → zU → Prop) (hx : Ph (some (.inl (if qhb v cn then nI 1 else nI 0))) S (zrow mu (m + 1) v)) :
    ∀ (t i : Nat), i + t = cn → zG RX3 "isHalted" cX3_isHalted 3 (some .boolean) (zroom 1 0 0) 0 0 Ph 4 [some (.inr (m + 1)), some (.inl (if qhb v i then nI 1 else nI 0)), some (.inl (nI i))] [] S (zrow mu (m + 1) v) 0 0 := by
  obtain ⟨⟨hN, k0, k1, -⟩, r0, -⟩ := id hS
  have hN0 : m < S.1 := by omega
  have hN1 : m + 1 < S.1 := by omega
  intro t
  induction t with
  | zero =>
    intro i hit
    obtain rfl : i = cn := by omega
    refine zg_iload_n (i := 2) dX3_isHalted_4 rfl rfl ?_
    refine zg_aload_n (i := 0) dX3_isHalted_5 rfl rfl ?_
    refine zg_getR dX3_isHalted_6 flX3_7 (by decide) (by assumption) (by assumption) (by assumption) ?_
    refine zg_sipush (v := nI 145) dX3_isHalted_9 (by decide) ?_
    first | with_reducible refine zg_ialdR dX3_isHalted_12 (by assumption) (by assumption) rfl (by omega) (by decide) ?_ | refine zg_iald dX3_isHalted_12 (by assumption) (by assumption) rfl (by omega) (by decide) ?_
    refine zg_val hv ?_
    first | with_reducible refine zg_icmpN_ge (tgt := 41) dX3_isHalted_13 (by decide) (by omega) (by omega) (fun c2 => ?_) (fun c2 => ?_) | refine zg_icmp_ge (tgt := 41) dX3_isHalted_13 (by decide) (fun c2 => ?_) (fun c2 => ?_)
    · refine zg_iload_n (i := 1) dX3_isHalted_41 rfl rfl ?_
      exact zg_zret dX3_isHalted_42 rfl (by split <;> first | (left; rfl) | (right; rfl)) hx
    · omega
  | succ t ih =>
    intro i hit
    refine zg_iload_n (i := 2) dX3_isHalted_4 rfl rfl ?_
    refine zg_aload_n (i := 0) dX3_isHalted_5 rfl rfl ?_
    refine zg_getR dX3_isHalted_6 flX3_7 (by decide) (by assumption) (by assumption) (by assumption) ?_
    refine zg_sipush (v := nI 145) dX3_isHalted_9 (by decide) ?_
    first | with_reducible refine zg_ialdR dX3_isHalted_12 (by assumption) (by assumption) rfl (by omega) (by decide) ?_ | refine zg_iald dX3_isHalted_12 (by assumption) (by assumption) rfl (by omega) (by decide) ?_
    refine zg_val hv ?_
    first | with_reducible refine zg_icmpN_ge (tgt := 41) dX3_isHalted_13 (by decide) (by omega) (by omega) (fun c2 => ?_) (fun c2 => ?_) | refine zg_icmp_ge (tgt := 41) dX3_isHalted_13 (by decide) (fun c2 => ?_) (fun c2 => ?_)
    · omega
    · have ihn := ih (i + 1) (by omega)
      by_cases hb : qhb v i = true
      · rw [if_pos hb]
        refine zg_iload_n (i := 1) dX3_isHalted_16 rfl rfl ?_
        first | with_reducible refine zg_ifN_eq (tgt := 33) dX3_isHalted_17 (by decide) (by omega) (fun c3 => ?_) (fun c3 => ?_) | refine zg_if_eq (tgt := 33) dX3_isHalted_17 (by decide) (fun c3 => ?_) (fun c3 => ?_)
        · exact absurd c3 (by decide)
        · refine zg_aload_n (i := 0) dX3_isHalted_20 rfl rfl ?_
          refine zg_iload_n (i := 2) dX3_isHalted_21 rfl rfl ?_
          refine zg_iconst (v := nI 3) dX3_isHalted_22 (by decide) ?_
          refine zg_callVi (cm_of hS mu v (p := i) (w := 3) (by omega)) dX3_isHalted_23 cvX3_of mlX3_69 rfl (by assumption) (by assumption) rfl (Nat.le_of_ble_eq_true rfl) ⟨by decide, by decide⟩ ⟨Nat.le_refl _, Nat.le_refl _⟩ (fun r mu2 h2 => ?_)
          obtain ⟨rfl, rfl⟩ := h2
          rw [show 150 + 25 * i + 3 = 153 + 25 * i by omega]
          refine zg_if_eq (tgt := 33) dX3_isHalted_26 (by decide) (fun c4 => ?_) (fun c4 => ?_)
          · rw [if_neg (by rw [qhb, hb]; simp [c4])] at ihn
            refine zg_iconst (v := nI 0) dX3_isHalted_33 (by decide) ?_
            refine zg_istore_n (i := 1) (L2 := [_, _, _]) dX3_isHalted_34 rfl (by decide) rfl ?_
            refine zg_iinc1 (L2 := [_, _, _]) dX3_isHalted_35 (by decide) rfl rfl ?_
            refine zg_goto (tgt := 4) dX3_isHalted_38 (by decide) ?_
            exact ihn
          · rw [if_pos (by rw [qhb, hb]; simp [c4])] at ihn
            refine zg_iconst (v := nI 1) dX3_isHalted_29 (by decide) ?_
            refine zg_goto (tgt := 34) dX3_isHalted_30 (by decide) ?_
            refine zg_istore_n (i := 1) (L2 := [_, _, _]) dX3_isHalted_34 rfl (by decide) rfl ?_
            refine zg_iinc1 (L2 := [_, _, _]) dX3_isHalted_35 (by decide) rfl rfl ?_
            refine zg_goto (tgt := 4) dX3_isHalted_38 (by decide) ?_
            exact ihn
      · rw [if_neg hb]
        rw [if_neg (by rw [qhb]; simp [hb])] at ihn
        refine zg_iload_n (i := 1) dX3_isHalted_16 rfl rfl ?_
        first | with_reducible refine zg_ifN_eq (tgt := 33) dX3_isHalted_17 (by decide) (by omega) (fun c3 => ?_) (fun c3 => ?_) | refine zg_if_eq (tgt := 33) dX3_isHalted_17 (by decide) (fun c3 => ?_) (fun c3 => ?_)
        · refine zg_iconst (v := nI 0) dX3_isHalted_33 (by decide) ?_
          refine zg_istore_n (i := 1) (L2 := [_, _, _]) dX3_isHalted_34 rfl (by decide) rfl ?_
          refine zg_iinc1 (L2 := [_, _, _]) dX3_isHalted_35 (by decide) rfl rfl ?_
          refine zg_goto (tgt := 4) dX3_isHalted_38 (by decide) ?_
          exact ihn
        · exact absurd rfl c3
set_option maxRecDepth 20000 in
theorem cm_isHalted {S : zS} {m : Nat} (hS : MS S m) (mu : zU) {v : Nat → Int32} {cn : Nat} (hv : v 145 = nI cn) (hc4 : cn ≤ 4) : zM yX3_isHalted cX3_isHalted 3 (some .boolean) 1 0 0 [.inr (m + 1)] S (zrow mu (m + 1) v) (zPi S (fun r mu2 => mu2 = zrow mu (m + 1) v ∧ r = if qhb v cn then nI 1 else nI 0)) := by
  refine zM.ofG (by decide +kernel) (Nat.le_of_ble_eq_true rfl) ?_
  refine zg_iconst (v := nI 1) dX3_isHalted_0 (by decide) ?_
  refine zg_istore_n (i := 1) (L2 := [_, _, _]) dX3_isHalted_1 rfl (by decide) rfl ?_
  refine zg_iconst (v := nI 0) dX3_isHalted_2 (by decide) ?_
  refine zg_istore_n (i := 2) (L2 := [_, _, _]) dX3_isHalted_3 rfl (by decide) rfl ?_
  exact lm_halt4 hS mu hv hc4 _ ⟨_, rfl, rfl, rfl, rfl⟩ cn 0 (by omega)
