/-! THE REFERENCE: split, execute, takeTurn, step, isHalted, isAtBreakpoint -/
def qcopyi (w : Nat → Int32) (a b i : Nat) : Nat → Int32 := fun j => if b ≤ j ∧ j < b + i then w (j - b + a) else w j
theorem qcopyi_1 (w : Nat → Int32) (a b i : Nat) : upd (qcopyi w a b i) (b + i) (w (a + i)) = qcopyi w a b (i + 1) := by
  funext j
  by_cases hj : j = b + i
  · subst hj
    rw [upd_s, qcopyi, if_pos (by omega), show b + i - b + a = a + i by omega]
  · rw [upd_n hj]
    unfold qcopyi
    by_cases h2 : b ≤ j ∧ j < b + i
    · rw [if_pos h2, if_pos (by omega)]
    · rw [if_neg h2, if_neg (by omega)]
theorem qcopyi_0 (w : Nat → Int32) (a b : Nat) : qcopyi w a b 0 = w := by
  funext j
  rw [qcopyi, if_neg (by omega)]
theorem qcopyi_25 (w : Nat → Int32) (a b : Nat) : qcopyi w a b 25 = qcopy w a b := rfl
set_option maxRecDepth 20000 in
theorem lm_split24 {S : zS} {m : Nat} (hS : MS S m) (mu : zU) (w : Nat → Int32) {pp cn : Nat} (hpc : pp < cn) (hc4 : cn < 4) (Ph : Option zV → zS → zU → Prop)
    (hx : zG RX3 "split" cX3_split 4 none (zroom 2 0 0) 0 0 Ph 48 [some (.inr (m + 1)), some (.inl (nI pp)), some (.inl (nI cn)), some (.inl (nI 25))] [] S (zrow mu (m + 1) (qcopy w (150 + 25 * pp) (150 + 25 * cn))) 0 0) :
    ∀ (t i : Nat), i + t = 25 → zG RX3 "split" cX3_split 4 none (zroom 2 0 0) 0 0 Ph 24 [some (.inr (m + 1)), some (.inl (nI pp)), some (.inl (nI cn)), some (.inl (nI i))] [] S (zrow mu (m + 1) (qcopyi w (150 + 25 * pp) (150 + 25 * cn) i)) 0 0 := by
  obtain ⟨⟨hN, k0, k1, -⟩, r0, -⟩ := id hS
  have hN0 : m < S.1 := by omega
  intro t
  induction t with
  | zero =>
    intro i hi
    obtain rfl : i = 25 := by omega
    refine zg_iload_n (i := 3) dX3_split_24 rfl rfl ?_
    refine zg_bipush (v := nI 25) dX3_split_25 (by decide) ?_
    first | with_reducible refine zg_icmpN_ge (tgt := 48) dX3_split_27 (by decide) (by omega) (by omega) (fun c2 => ?_) (fun c2 => ?_) | refine zg_icmp_ge (tgt := 48) dX3_split_27 (by decide) (fun c2 => ?_) (fun c2 => ?_)
    · exact hx
    · omega
  | succ t ih =>
    intro i hi
    refine zg_iload_n (i := 3) dX3_split_24 rfl rfl ?_
    refine zg_bipush (v := nI 25) dX3_split_25 (by decide) ?_
    first | with_reducible refine zg_icmpN_ge (tgt := 48) dX3_split_27 (by decide) (by omega) (by omega) (fun c2 => ?_) (fun c2 => ?_) | refine zg_icmp_ge (tgt := 48) dX3_split_27 (by decide) (fun c2 => ?_) (fun c2 => ?_)
    · omega
    · refine zg_aload_n (i := 0) dX3_split_30 rfl rfl ?_
      refine zg_iload_n (i := 2) dX3_split_31 rfl rfl ?_
      refine zg_iload_n (i := 3) dX3_split_32 rfl rfl ?_
      refine zg_aload_n (i := 0) dX3_split_33 rfl rfl ?_
      refine zg_iload_n (i := 1) dX3_split_34 rfl rfl ?_
      refine zg_iload_n (i := 3) dX3_split_35 rfl rfl ?_
      refine zg_callVi (cm_of hS mu _ (p := pp) (w := i) (by omega)) dX3_split_36 cvX3_of mlX3_69 rfl (by assumption) (by assumption) rfl (Nat.le_of_ble_eq_true rfl) ⟨by decide, by decide⟩ ⟨Nat.le_refl _, Nat.le_refl _⟩ (fun r mu2 h2 => ?_)
      obtain ⟨rfl, rfl⟩ := h2
      refine zg_val (y := w (150 + 25 * pp + i)) (by rw [qcopyi, if_neg (by omega)]) ?_
      refine zg_callVv (cm_put hS mu _ (p := cn) (w := i) (by omega) _) dX3_split_39 cvX3_put mlX3_80 rfl (by assumption) (by assumption) rfl (Nat.le_of_ble_eq_true rfl) ⟨by decide, by decide⟩ ⟨Nat.le_refl _, Nat.le_refl _⟩ (fun mu2 h2 => ?_)
      subst h2
      rw [qcopyi_1]
      refine zg_iinc1 (L2 := [_, _, _, _]) dX3_split_42 (by decide) rfl rfl ?_
      refine zg_goto (tgt := 24) dX3_split_45 (by decide) ?_
      exact ih (i + 1) (by omega)
def qsh (w : Nat → Int32) (cn t : Nat) : Nat → Int32 := fun j => if 146 + t < j ∧ j ≤ 146 + cn then w (j - 1) else w j
theorem qsh_0 (w : Nat → Int32) (cn : Nat) : qsh w cn cn = w := by
  funext j
  rw [qsh, if_neg (by omega)]
theorem qsh_1 (w : Nat → Int32) {cn t : Nat} (h : t + 1 ≤ cn) : upd (qsh w cn (t + 1)) (146 + (t + 1)) (w (146 + t)) = qsh w cn t := by
  funext j
  by_cases hj : j = 146 + (t + 1)
  · subst hj
    rw [upd_s, qsh, if_pos (by omega), show 146 + (t + 1) - 1 = 146 + t by omega]
  · rw [upd_n hj]
    unfold qsh
    by_cases h2 : 146 + (t + 1) < j ∧ j ≤ 146 + cn
    · rw [if_pos h2, if_pos (by omega)]
    · rw [if_neg h2, if_neg (by omega)]
theorem qsh_ins (w : Nat → Int32) {cn t : Nat} (h : t ≤ cn) : upd (qsh w cn t) (146 + t) (nI cn) = qins w cn t := by
  funext j
  by_cases hj : j = 146 + t
  · subst hj
    rw [upd_s, qins, if_neg (by omega), if_pos rfl]
  · rw [upd_n hj, qsh, qins, if_neg hj]
set_option maxRecDepth 20000 in
theorem lm_split82 {S : zS} {m : Nat} (hS : MS S m) (mu : zU) (w : Nat → Int32) {pp cn pl : Nat} (hp4 : pp < 4) (hc4 : cn < 4) (hpl : 1 ≤ pl) (hat : w (145 + pl) = nI pp) (hno : ∀ t, pl < t → t ≤ cn → ∃ q, q < 4 ∧ q ≠ pp ∧ w (145 + t) = nI q) (Ph : Option zV → zS → zU → Prop)
    (hx : zG RX3 "split" cX3_split 4 none (zroom 2 0 0) 0 0 Ph 126 [some (.inr (m + 1)), some (.inl (nI pp)), some (.inl (nI cn)), some (.inl (nI pl))] [] S (zrow mu (m + 1) (qsh w cn pl)) 0 0) :
    ∀ (d t : Nat), pl + d = t → t ≤ cn → zG RX3 "split" cX3_split 4 none (zroom 2 0 0) 0 0 Ph 82 [some (.inr (m + 1)), some (.inl (nI pp)), some (.inl (nI cn)), some (.inl (nI t))] [] S (zrow mu (m + 1) (qsh w cn t)) 0 0 := by
  obtain ⟨⟨hN, k0, k1, -⟩, r0, -⟩ := id hS
  have hN0 : m < S.1 := by omega
  have hN1 : m + 1 < S.1 := by omega
  intro d
  induction d with
  | zero =>
    intro t ht htc
    obtain rfl : t = pl := by omega
    refine zg_aload_n (i := 0) dX3_split_82 rfl rfl ?_
    refine zg_getR dX3_split_83 flX3_7 (by decide) (by assumption) (by assumption) (by assumption) ?_
    refine zg_sipush (v := nI 146) dX3_split_86 (by decide) ?_
    refine zg_iload_n (i := 3) dX3_split_89 rfl rfl ?_
    first | with_reducible refine zg_iaddN dX3_split_90 ?_ | refine zg_iadd dX3_split_90 ?_
    refine zg_iconst (v := nI 1) dX3_split_91 (by decide) ?_
    first | with_reducible refine zg_isubN dX3_split_92 (by omega) ?_ | refine zg_isub dX3_split_92 ?_
    first | with_reducible refine zg_ialdR dX3_split_93 (by assumption) (by assumption) rfl (by omega) (by decide) ?_ | refine zg_iald dX3_split_93 (by assumption) (by assumption) rfl (by omega) (by decide) ?_
    refine zg_val (y := nI pp) (by rw [qsh, if_neg (by omega), show 146 + t - 1 = 145 + t by omega]; exact hat) ?_
    refine zg_iload_n (i := 1) dX3_split_94 rfl rfl ?_
    first | with_reducible refine zg_icmpN_eq (tgt := 126) dX3_split_95 (by decide) (by omega) (by omega) (fun c2 => ?_) (fun c2 => ?_) | refine zg_icmp_eq (tgt := 126) dX3_split_95 (by decide) (fun c2 => ?_) (fun c2 => ?_)
    · exact hx
    · exact absurd rfl c2
  | succ d ih =>
    intro t ht htc
    obtain ⟨q, hq4, hqp, hq⟩ := hno t (by omega) htc
    refine zg_aload_n (i := 0) dX3_split_82 rfl rfl ?_
    refine zg_getR dX3_split_83 flX3_7 (by decide) (by assumption) (by assumption) (by assumption) ?_
    refine zg_sipush (v := nI 146) dX3_split_86 (by decide) ?_
    refine zg_iload_n (i := 3) dX3_split_89 rfl rfl ?_
    first | with_reducible refine zg_iaddN dX3_split_90 ?_ | refine zg_iadd dX3_split_90 ?_
    refine zg_iconst (v := nI 1) dX3_split_91 (by decide) ?_
    first | with_reducible refine zg_isubN dX3_split_92 (by omega) ?_ | refine zg_isub dX3_split_92 ?_
    first | with_reducible refine zg_ialdR dX3_split_93 (by assumption) (by assumption) rfl (by omega) (by decide) ?_ | refine zg_iald dX3_split_93 (by assumption) (by assumption) rfl (by omega) (by decide) ?_
    refine zg_val (y := nI q) (by rw [qsh, if_neg (by omega), show 146 + t - 1 = 145 + t by omega]; exact hq) ?_
    refine zg_iload_n (i := 1) dX3_split_94 rfl rfl ?_
    first | with_reducible refine zg_icmpN_eq (tgt := 126) dX3_split_95 (by decide) (by omega) (by omega) (fun c2 => ?_) (fun c2 => ?_) | refine zg_icmp_eq (tgt := 126) dX3_split_95 (by decide) (fun c2 => ?_) (fun c2 => ?_)
    · exact absurd c2 hqp
    · refine zg_aload_n (i := 0) dX3_split_98 rfl rfl ?_
      refine zg_getR dX3_split_99 flX3_7 (by decide) (by assumption) (by assumption) (by assumption) ?_
      refine zg_sipush (v := nI 146) dX3_split_102 (by decide) ?_
      refine zg_iload_n (i := 3) dX3_split_105 rfl rfl ?_
      first | with_reducible refine zg_iaddN dX3_split_106 ?_ | refine zg_iadd dX3_split_106 ?_
      refine zg_aload_n (i := 0) dX3_split_107 rfl rfl ?_
      refine zg_getR dX3_split_108 flX3_7 (by decide) (by assumption) (by assumption) (by assumption) ?_
      refine zg_sipush (v := nI 146) dX3_split_111 (by decide) ?_
      refine zg_iload_n (i := 3) dX3_split_114 rfl rfl ?_
      first | with_reducible refine zg_iaddN dX3_split_115 ?_ | refine zg_iadd dX3_split_115 ?_
      refine zg_iconst (v := nI 1) dX3_split_116 (by decide) ?_
      first | with_reducible refine zg_isubN dX3_split_117 (by omega) ?_ | refine zg_isub dX3_split_117 ?_
      first | with_reducible refine zg_ialdR dX3_split_118 (by assumption) (by assumption) rfl (by omega) (by decide) ?_ | refine zg_iald dX3_split_118 (by assumption) (by assumption) rfl (by omega) (by decide) ?_
      refine zg_val (y := w (146 + (t - 1))) (by rw [qsh, if_neg (by omega), show 146 + t - 1 = 146 + (t - 1) by omega]) ?_
      first | with_reducible refine zg_iastR dX3_split_119 (by assumption) (by assumption) rfl (by omega) (by decide) ?_ | refine zg_iast dX3_split_119 (by assumption) (by assumption) rfl (by omega) (by decide) ?_
      obtain ⟨t', rfl⟩ : ∃ t', t = t' + 1 := ⟨t - 1, by omega⟩
      rw [Nat.add_sub_cancel, qsh_1 w htc]
      refine zg_iincm (L2 := [_, _, _, _]) dX3_split_120 (by decide) rfl (by omega) rfl ?_
      refine zg_goto (tgt := 82) dX3_split_123 (by decide) ?_
      exact ih t' (by omega) (by omega)
set_option maxRecDepth 20000 in
theorem cm_split {S : zS} {m : Nat} (hS : MS S m) (mu : zU) {v : Nat → Int32} {ol : List Nat} {pp i : Nat} (hV : VI v ol) (hi : ol[i]? = some pp) : zM yX3_split cX3_split 4 none 2 0 0 [.inr (m + 1), .inl (nI pp)] S (zrow mu (m + 1) v) (zPv S (fun mu2 => mu2 = zrow mu (m + 1) (qsplit v pp))) := by
  obtain ⟨⟨hN, k0, k1, -⟩, r0, -⟩ := id hS
  have hN0 : m < S.1 := by omega
  have hN1 : m + 1 < S.1 := by omega
  obtain ⟨⟨h145, hl1, hl4⟩, h4, h5, h6, h7, -⟩ := id hV
  have hil := (List.getElem?_eq_some_iff.mp hi).1
  have hpl := qplace_at hV hi ol.length hil (Nat.le_refl _)
  have hpp := (h4 i pp hi).2
  refine zM.ofG (by decide +kernel) (Nat.le_of_ble_eq_true rfl) ?_
  rw [qsplit, zn_of h145 (by omega)]
  refine zg_aload_n (i := 0) dX3_split_0 rfl rfl ?_
  refine zg_getR dX3_split_1 flX3_7 (by decide) (by assumption) (by assumption) (by assumption) ?_
  refine zg_sipush (v := nI 145) dX3_split_4 (by decide) ?_
  first | with_reducible refine zg_ialdR dX3_split_7 (by assumption) (by assumption) rfl (by omega) (by decide) ?_ | refine zg_iald dX3_split_7 (by assumption) (by assumption) rfl (by omega) (by decide) ?_
  refine zg_val h145 ?_
  refine zg_iconst (v := nI 4) dX3_split_8 (by decide) ?_
  first | with_reducible refine zg_icmpN_ne (tgt := 13) dX3_split_9 (by decide) (by omega) (by omega) (fun c => ?_) (fun c => ?_) | refine zg_icmp_ne (tgt := 13) dX3_split_9 (by decide) (fun c => ?_) (fun c => ?_)
  · rw [if_neg c]
    refine zg_aload_n (i := 0) dX3_split_13 rfl rfl ?_
    refine zg_getR dX3_split_14 flX3_7 (by decide) (by assumption) (by assumption) (by assumption) ?_
    refine zg_sipush (v := nI 145) dX3_split_17 (by decide) ?_
    first | with_reducible refine zg_ialdR dX3_split_20 (by assumption) (by assumption) rfl (by omega) (by decide) ?_ | refine zg_iald dX3_split_20 (by assumption) (by assumption) rfl (by omega) (by decide) ?_
    refine zg_val h145 ?_
    refine zg_istore_n (i := 2) (L2 := [_, _, _, _]) dX3_split_21 rfl (by decide) rfl ?_
    refine zg_iconst (v := nI 0) dX3_split_22 (by decide) ?_
    refine zg_istore_n (i := 3) (L2 := [_, _, _, _]) dX3_split_23 rfl (by decide) rfl ?_
    refine zg_mu (mu2 := zrow mu (m + 1) (qcopyi v (150 + 25 * pp) (150 + 25 * ol.length) 0)) (by rw [qcopyi_0]) ?_
    refine lm_split24 hS mu v hpp (by omega) _ ?_ 25 0 rfl
    obtain ⟨x, y, dr, ss, sl, ns, s0, s1, s2, hP⟩ := h7 pp hpp
    have hP2 := ((PI_copy (b := 150 + 25 * ol.length) hP).stat (d := 0) (by omega)).slp (d := 0) (by omega)
    have hP3 := (hP2.turn 2).2
    refine zg_aload_n (i := 0) dX3_split_48 rfl rfl ?_
    refine zg_iload_n (i := 2) dX3_split_49 rfl rfl ?_
    refine zg_iconst (v := nI 3) dX3_split_50 (by decide) ?_
    refine zg_iconst (v := nI 0) dX3_split_51 (by decide) ?_
    refine zg_callVv (cm_put hS mu _ (p := ol.length) (w := 3) (by omega) _) dX3_split_52 cvX3_put mlX3_80 rfl (by assumption) (by assumption) rfl (Nat.le_of_ble_eq_true rfl) ⟨by decide, by decide⟩ ⟨Nat.le_refl _, Nat.le_refl _⟩ (fun mu2 h2 => ?_)
    subst h2
    refine zg_aload_n (i := 0) dX3_split_55 rfl rfl ?_
    refine zg_iload_n (i := 2) dX3_split_56 rfl rfl ?_
    refine zg_iconst (v := nI 4) dX3_split_57 (by decide) ?_
    refine zg_iconst (v := nI 0) dX3_split_58 (by decide) ?_
    refine zg_callVv (cm_put hS mu _ (p := ol.length) (w := 4) (by omega) _) dX3_split_59 cvX3_put mlX3_80 rfl (by assumption) (by assumption) rfl (Nat.le_of_ble_eq_true rfl) ⟨by decide, by decide⟩ ⟨Nat.le_refl _, Nat.le_refl _⟩ (fun mu2 h2 => ?_)
    subst h2
    refine zg_aload_n (i := 0) dX3_split_62 rfl rfl ?_
    refine zg_iload_n (i := 2) dX3_split_63 rfl rfl ?_
    refine zg_iconst (v := nI 2) dX3_split_64 (by decide) ?_
    refine zg_callVv (cm_turn hS mu (by omega) hP2 (n := 2) (by omega)) dX3_split_65 cvX3_turn mlX3_93 rfl (by assumption) (by assumption) rfl (Nat.le_of_ble_eq_true rfl) ⟨by decide, by decide⟩ ⟨Nat.le_refl _, Nat.le_refl _⟩ (fun mu2 h2 => ?_)
    subst h2
    refine zg_aload_n (i := 0) dX3_split_68 rfl rfl ?_
    refine zg_iload_n (i := 2) dX3_split_69 rfl rfl ?_
    refine zg_callVv (cm_move hS mu (by omega) hP3) dX3_split_70 cvX3_move mlX3_100 rfl (by assumption) (by assumption) rfl (Nat.le_of_ble_eq_true rfl) ⟨by decide, by decide⟩ ⟨Nat.le_refl _, Nat.le_refl _⟩ (fun mu2 h2 => ?_)
    subst h2
    have hb : ∀ j, (j < 150 + 25 * ol.length ∨ 150 + 25 * ol.length + 25 ≤ j) → qborn v (150 + 25 * pp) (150 + 25 * ol.length) j = v j := fun j hj => qborn_out hj
    rw [qsplit2]
    change zG _ _ _ _ _ _ _ _ _ _ _ _ _ (zrow mu (m + 1) (qborn v (150 + 25 * pp) (150 + 25 * ol.length))) _ _
    generalize qborn v (150 + 25 * pp) (150 + 25 * ol.length) = u at *
    refine zg_aload_n (i := 0) dX3_split_73 rfl rfl ?_
    refine zg_getR dX3_split_74 flX3_7 (by decide) (by assumption) (by assumption) (by assumption) ?_
    refine zg_sipush (v := nI 145) dX3_split_77 (by decide) ?_
    first | with_reducible refine zg_ialdR dX3_split_80 (by assumption) (by assumption) rfl (by omega) (by decide) ?_ | refine zg_iald dX3_split_80 (by assumption) (by assumption) rfl (by omega) (by decide) ?_
    refine zg_val (y := nI ol.length) (by rw [hb _ (by omega)]; exact h145) ?_
    refine zg_istore_n (i := 3) (L2 := [_, _, _, _]) dX3_split_81 rfl (by decide) rfl ?_
    refine zg_mu (mu2 := zrow mu (m + 1) (qsh u ol.length ol.length)) (by rw [qsh_0]) ?_
    refine lm_split82 hS mu u (pl := i + 1) (by omega) (by omega) (by omega) ?_ ?_ _ ?_ (ol.length - (i + 1)) ol.length (by omega) (Nat.le_refl _)
    · rw [hb _ (by omega), show 145 + (i + 1) = 146 + i by omega]; exact (h4 i pp hi).1
    · intro t h1 h2
      have hq := List.getElem?_eq_getElem (show t - 1 < ol.length by omega)
      have h3 := h4 (t - 1) _ hq
      refine ⟨ol[t - 1]'(by omega), by omega, fun e => ?_, by rw [hb _ (by omega), show 145 + t = 146 + (t - 1) by omega]; exact h3.1⟩
      rw [e] at hq
      have := h5 _ _ pp hi hq
      omega
    · refine zg_aload_n (i := 0) dX3_split_126 rfl rfl ?_
      refine zg_getR dX3_split_127 flX3_7 (by decide) (by assumption) (by assumption) (by assumption) ?_
      refine zg_sipush (v := nI 146) dX3_split_130 (by decide) ?_
      refine zg_iload_n (i := 3) dX3_split_133 rfl rfl ?_
      first | with_reducible refine zg_iaddN dX3_split_134 ?_ | refine zg_iadd dX3_split_134 ?_
      refine zg_iload_n (i := 2) dX3_split_135 rfl rfl ?_
      first | with_reducible refine zg_iastR dX3_split_136 (by assumption) (by assumption) rfl (by omega) (by decide) ?_ | refine zg_iast dX3_split_136 (by assumption) (by assumption) rfl (by omega) (by decide) ?_
      rw [qsh_ins u (by omega)]
      refine zg_aload_n (i := 0) dX3_split_137 rfl rfl ?_
      refine zg_getR dX3_split_138 flX3_7 (by decide) (by assumption) (by assumption) (by assumption) ?_
      refine zg_sipush (v := nI 145) dX3_split_141 (by decide) ?_
      refine zg_dup2 dX3_split_144 ?_
      first | with_reducible refine zg_ialdR dX3_split_145 (by assumption) (by assumption) rfl (by omega) (by decide) ?_ | refine zg_iald dX3_split_145 (by assumption) (by assumption) rfl (by omega) (by decide) ?_
      refine zg_val (y := nI ol.length) (by rw [qins, if_neg (by omega), if_neg (by omega), hb _ (by omega)]; exact h145) ?_
      refine zg_iconst (v := nI 1) dX3_split_146 (by decide) ?_
      first | with_reducible refine zg_iaddN dX3_split_147 ?_ | refine zg_iadd dX3_split_147 ?_
      first | with_reducible refine zg_iastR dX3_split_148 (by assumption) (by assumption) rfl (by omega) (by decide) ?_ | refine zg_iast dX3_split_148 (by assumption) (by assumption) rfl (by omega) (by decide) ?_
      refine zg_vret dX3_split_149 rfl ⟨rfl, rfl, ?_⟩
      show zrow _ _ _ = zrow _ _ _
      rw [hpl]
  · rw [if_pos c]
    exact zg_vret dX3_split_12 rfl ⟨rfl, rfl, rfl⟩
