/-! THE REFERENCE: breakpoints -/
def qbk (v bp : Nat → Int32) : Nat → Bool
  | 0 => false
  | n + 1 => qbk v bp n || (decide (v (153 + 25 * n) = 0) && (decide (v (154 + 25 * n) = 0) && decide (bp (12 * zn v (151 + 25 * n) + zn v (150 + 25 * n)) ≠ 0)))
def qatb (v bp : Nat → Int32) : Bool := qbk v bp (zn v 145)
def qcnt (bp : Nat → Int32) : Nat → Nat
  | 0 => 0
  | n + 1 => qcnt bp n + (if bp n = 0 then 0 else 1)
theorem qcnt_le (bp : Nat → Int32) : ∀ n, qcnt bp n ≤ n
  | 0 => Nat.le_refl 0
  | n + 1 => by
    have := qcnt_le bp n
    rw [qcnt]; split <;> omega
theorem qcnt_congr {bp bq : Nat → Int32} : ∀ n, (∀ j, j < n → bp j = bq j) → qcnt bp n = qcnt bq n
  | 0, _ => rfl
  | n + 1, h => by rw [qcnt, qcnt, qcnt_congr n (fun j hj => h j (by omega)), h n (by omega)]
set_option maxRecDepth 20000 in
theorem lm_atb4 {S : zS} {m : Nat} (hS : MS S m) (mu : zU) {v : Nat → Int32} {ol : List Nat} (hV : VI v ol) (Ph : Option zV → zS → zU → Prop) (hx : Ph (some (.inl (if qbk v (mu (m + 8)) ol.length then nI 1 else nI 0))) S (zrow mu (m + 1) v)) :
    ∀ (t i : Nat), i + t = ol.length → zG RX3 "isAtBreakpoint" cX3_isAtBreakpoint 3 (some .boolean) (zroom 1 0 0) 0 0 Ph 4 [some (.inr (m + 1)), some (.inl (if qbk v (mu (m + 8)) i then nI 1 else nI 0)), some (.inl (nI i))] [] S (zrow mu (m + 1) v) 0 0 := by
  have hN0 : m < S.1 := hS.lt (i := 0) (by decide)
  have hN1 : m + 1 < S.1 := hS.lt (by decide)
  have hN8 : m + 8 < S.1 := hS.lt (by decide)
  obtain ⟨⟨-, k0, k1, -, -, -, -, -, -, k8, -⟩, r0, -, -, -, -, -, -, r8, -⟩ := id hS
  have hv := hV.1.1
  have hc4 := hV.1.2.2
  intro t
  induction t with
  | zero =>
    intro i hit
    obtain rfl : i = ol.length := by omega
    refine zg_iload_n (i := 2) dX3_isAtBreakpoint_4 rfl rfl ?_
    refine zg_aload_n (i := 0) dX3_isAtBreakpoint_5 rfl rfl ?_
    refine zg_getR dX3_isAtBreakpoint_6 flX3_7 (by decide) (by assumption) (by assumption) (by assumption) ?_
    refine zg_sipush (v := nI 145) dX3_isAtBreakpoint_9 (by decide) ?_
    first | with_reducible refine zg_ialdR dX3_isAtBreakpoint_12 (by assumption) (by assumption) rfl (by omega) (by decide) ?_ | refine zg_iald dX3_isAtBreakpoint_12 (by assumption) (by assumption) rfl (by omega) (by decide) ?_
    refine zg_val hv ?_
    first | with_reducible refine zg_icmpN_ge (tgt := 74) dX3_isAtBreakpoint_13 (by decide) (by omega) (by omega) (fun c2 => ?_) (fun c2 => ?_) | refine zg_icmp_ge (tgt := 74) dX3_isAtBreakpoint_13 (by decide) (fun c2 => ?_) (fun c2 => ?_)
    · refine zg_iload_n (i := 1) dX3_isAtBreakpoint_74 rfl rfl ?_
      exact zg_zret dX3_isAtBreakpoint_75 rfl (by split <;> first | (left; rfl) | (right; rfl)) hx
    · omega
  | succ t ih =>
    intro i hit
    obtain ⟨px, py, dr, ss, sl, ns, s0, s1, s2, e0, e1, e2, e3, e4, -, -, -, -, ⟨b1, b2, -⟩, -⟩ := hV.2.2.2.2.1 i (by omega)
    have z0 : zn v (150 + 25 * i) = px := zn_of e0 (by omega)
    have z1 : zn v (151 + 25 * i) = py := by rw [show 151 + 25 * i = 150 + 25 * i + 1 by omega]; exact zn_of e1 (by omega)
    refine zg_iload_n (i := 2) dX3_isAtBreakpoint_4 rfl rfl ?_
    refine zg_aload_n (i := 0) dX3_isAtBreakpoint_5 rfl rfl ?_
    refine zg_getR dX3_isAtBreakpoint_6 flX3_7 (by decide) (by assumption) (by assumption) (by assumption) ?_
    refine zg_sipush (v := nI 145) dX3_isAtBreakpoint_9 (by decide) ?_
    first | with_reducible refine zg_ialdR dX3_isAtBreakpoint_12 (by assumption) (by assumption) rfl (by omega) (by decide) ?_ | refine zg_iald dX3_isAtBreakpoint_12 (by assumption) (by assumption) rfl (by omega) (by decide) ?_
    refine zg_val hv ?_
    first | with_reducible refine zg_icmpN_ge (tgt := 74) dX3_isAtBreakpoint_13 (by decide) (by omega) (by omega) (fun c2 => ?_) (fun c2 => ?_) | refine zg_icmp_ge (tgt := 74) dX3_isAtBreakpoint_13 (by decide) (fun c2 => ?_) (fun c2 => ?_)
    · omega
    · have ihn := ih (i + 1) (by omega)
      by_cases hb : qbk v (mu (m + 8)) i = true
      · rw [if_pos hb]
        rw [if_pos (by rw [qbk, hb]; rfl)] at ihn
        refine zg_iload_n (i := 1) dX3_isAtBreakpoint_16 rfl rfl ?_
        first | with_reducible refine zg_ifN_ne (tgt := 62) dX3_isAtBreakpoint_17 (by decide) (by omega) (fun c3 => ?_) (fun c3 => ?_) | refine zg_if_ne (tgt := 62) dX3_isAtBreakpoint_17 (by decide) (fun c3 => ?_) (fun c3 => ?_)
        · refine zg_iconst (v := nI 1) dX3_isAtBreakpoint_62 (by decide) ?_
          refine zg_goto (tgt := 67) dX3_isAtBreakpoint_63 (by decide) ?_
          refine zg_istore_n (i := 1) (L2 := [_, _, _]) dX3_isAtBreakpoint_67 rfl (by decide) rfl ?_
          refine zg_iinc1 (L2 := [_, _, _]) dX3_isAtBreakpoint_68 (by decide) rfl rfl ?_
          refine zg_goto (tgt := 4) dX3_isAtBreakpoint_71 (by decide) ?_
          exact ihn
        · exact absurd c3 (by decide)
      · rw [if_neg hb]
        have hb2 : qbk v (mu (m + 8)) i = false := by simpa using hb
        refine zg_iload_n (i := 1) dX3_isAtBreakpoint_16 rfl rfl ?_
        first | with_reducible refine zg_ifN_ne (tgt := 62) dX3_isAtBreakpoint_17 (by decide) (by omega) (fun c3 => ?_) (fun c3 => ?_) | refine zg_if_ne (tgt := 62) dX3_isAtBreakpoint_17 (by decide) (fun c3 => ?_) (fun c3 => ?_)
        · exact absurd rfl c3
        · refine zg_aload_n (i := 0) dX3_isAtBreakpoint_20 rfl rfl ?_
          refine zg_iload_n (i := 2) dX3_isAtBreakpoint_21 rfl rfl ?_
          refine zg_iconst (v := nI 3) dX3_isAtBreakpoint_22 (by decide) ?_
          refine zg_callVi (cm_of hS mu v (p := i) (w := 3) (by omega)) dX3_isAtBreakpoint_23 cvX3_of mlX3_69 rfl (by assumption) (by assumption) rfl (Nat.le_of_ble_eq_true rfl) ⟨by decide, by decide⟩ ⟨Nat.le_refl _, Nat.le_refl _⟩ (fun r mu2 h2 => ?_)
          obtain ⟨rfl, rfl⟩ := h2
          rw [show 150 + 25 * i + 3 = 153 + 25 * i by omega]
          refine zg_if_ne (tgt := 66) dX3_isAtBreakpoint_26 (by decide) (fun c4 => ?_) (fun c4 => ?_)
          · rw [if_neg (by rw [qbk, hb2]; simp [c4])] at ihn
            refine zg_iconst (v := nI 0) dX3_isAtBreakpoint_66 (by decide) ?_
            refine zg_istore_n (i := 1) (L2 := [_, _, _]) dX3_isAtBreakpoint_67 rfl (by decide) rfl ?_
            refine zg_iinc1 (L2 := [_, _, _]) dX3_isAtBreakpoint_68 (by decide) rfl rfl ?_
            refine zg_goto (tgt := 4) dX3_isAtBreakpoint_71 (by decide) ?_
            exact ihn
          · have c4' : v (153 + 25 * i) = 0 := c4
            refine zg_aload_n (i := 0) dX3_isAtBreakpoint_29 rfl rfl ?_
            refine zg_iload_n (i := 2) dX3_isAtBreakpoint_30 rfl rfl ?_
            refine zg_iconst (v := nI 4) dX3_isAtBreakpoint_31 (by decide) ?_
            refine zg_callVi (cm_of hS mu v (p := i) (w := 4) (by omega)) dX3_isAtBreakpoint_32 cvX3_of mlX3_69 rfl (by assumption) (by assumption) rfl (Nat.le_of_ble_eq_true rfl) ⟨by decide, by decide⟩ ⟨Nat.le_refl _, Nat.le_refl _⟩ (fun r mu2 h2 => ?_)
            obtain ⟨rfl, rfl⟩ := h2
            rw [show 150 + 25 * i + 4 = 154 + 25 * i by omega]
            refine zg_if_ne (tgt := 66) dX3_isAtBreakpoint_35 (by decide) (fun c5 => ?_) (fun c5 => ?_)
            · rw [if_neg (by rw [qbk, hb2]; simp [c5])] at ihn
              refine zg_iconst (v := nI 0) dX3_isAtBreakpoint_66 (by decide) ?_
              refine zg_istore_n (i := 1) (L2 := [_, _, _]) dX3_isAtBreakpoint_67 rfl (by decide) rfl ?_
              refine zg_iinc1 (L2 := [_, _, _]) dX3_isAtBreakpoint_68 (by decide) rfl rfl ?_
              refine zg_goto (tgt := 4) dX3_isAtBreakpoint_71 (by decide) ?_
              exact ihn
            · have c5' : v (154 + 25 * i) = 0 := c5
              refine zg_aload_n (i := 0) dX3_isAtBreakpoint_38 rfl rfl ?_
              refine zg_getR dX3_isAtBreakpoint_39 flX3_32 (by decide) (by assumption) (by assumption) (by assumption) ?_
              refine zg_bipush (v := nI 12) dX3_isAtBreakpoint_42 (by decide) ?_
              refine zg_aload_n (i := 0) dX3_isAtBreakpoint_44 rfl rfl ?_
              refine zg_iload_n (i := 2) dX3_isAtBreakpoint_45 rfl rfl ?_
              refine zg_iconst (v := nI 1) dX3_isAtBreakpoint_46 (by decide) ?_
              refine zg_callVi (cm_of hS mu v (p := i) (w := 1) (by omega)) dX3_isAtBreakpoint_47 cvX3_of mlX3_69 rfl (by assumption) (by assumption) rfl (Nat.le_of_ble_eq_true rfl) ⟨by decide, by decide⟩ ⟨Nat.le_refl _, Nat.le_refl _⟩ (fun r mu2 h2 => ?_)
              obtain ⟨rfl, rfl⟩ := h2
              refine zg_val e1 ?_
              first | with_reducible refine zg_imulN dX3_isAtBreakpoint_50 ?_ | refine zg_imul dX3_isAtBreakpoint_50 ?_
              refine zg_aload_n (i := 0) dX3_isAtBreakpoint_51 rfl rfl ?_
              refine zg_iload_n (i := 2) dX3_isAtBreakpoint_52 rfl rfl ?_
              refine zg_iconst (v := nI 0) dX3_isAtBreakpoint_53 (by decide) ?_
              refine zg_callVi (cm_of hS mu v (p := i) (w := 0) (by omega)) dX3_isAtBreakpoint_54 cvX3_of mlX3_69 rfl (by assumption) (by assumption) rfl (Nat.le_of_ble_eq_true rfl) ⟨by decide, by decide⟩ ⟨Nat.le_refl _, Nat.le_refl _⟩ (fun r mu2 h2 => ?_)
              obtain ⟨rfl, rfl⟩ := h2
              refine zg_val e0 ?_
              first | with_reducible refine zg_iaddN dX3_isAtBreakpoint_57 ?_ | refine zg_iadd dX3_isAtBreakpoint_57 ?_
              refine zg_zald dX3_isAtBreakpoint_58 (by assumption) (by assumption) rfl (by omega) (by decide) ?_
              refine zg_val (y := mu (m + 8) (12 * py + px)) (by rw [zrow_n (by omega)]) ?_
              refine zg_if_eq (tgt := 66) dX3_isAtBreakpoint_59 (by decide) (fun c6 => ?_) (fun c6 => ?_)
              · rw [if_neg (by rw [qbk, hb2, z0, z1]; simp [c6])] at ihn
                refine zg_iconst (v := nI 0) dX3_isAtBreakpoint_66 (by decide) ?_
                refine zg_istore_n (i := 1) (L2 := [_, _, _]) dX3_isAtBreakpoint_67 rfl (by decide) rfl ?_
                refine zg_iinc1 (L2 := [_, _, _]) dX3_isAtBreakpoint_68 (by decide) rfl rfl ?_
                refine zg_goto (tgt := 4) dX3_isAtBreakpoint_71 (by decide) ?_
                exact ihn
              · rw [if_pos (by rw [qbk, hb2, z0, z1]; simp [c4', c5', c6])] at ihn
                refine zg_iconst (v := nI 1) dX3_isAtBreakpoint_62 (by decide) ?_
                refine zg_goto (tgt := 67) dX3_isAtBreakpoint_63 (by decide) ?_
                refine zg_istore_n (i := 1) (L2 := [_, _, _]) dX3_isAtBreakpoint_67 rfl (by decide) rfl ?_
                refine zg_iinc1 (L2 := [_, _, _]) dX3_isAtBreakpoint_68 (by decide) rfl rfl ?_
                refine zg_goto (tgt := 4) dX3_isAtBreakpoint_71 (by decide) ?_
                exact ihn
set_option maxRecDepth 20000 in
theorem cm_isAtBreakpoint {S : zS} {m : Nat} (hS : MS S m) (mu : zU) {v : Nat → Int32} {ol : List Nat} (hV : VI v ol) : zM yX3_isAtBreakpoint cX3_isAtBreakpoint 3 (some .boolean) 1 0 0 [.inr (m + 1)] S (zrow mu (m + 1) v) (zPi S (fun r mu2 => mu2 = zrow mu (m + 1) v ∧ r = if qatb v (mu (m + 8)) then nI 1 else nI 0)) := by
  have hq : qatb v (mu (m + 8)) = qbk v (mu (m + 8)) ol.length := by rw [qatb, zn_of hV.1.1 (by have := hV.1.2.2; omega)]
  rw [hq]
  refine zM.ofG (by decide +kernel) (Nat.le_of_ble_eq_true rfl) ?_
  refine zg_iconst (v := nI 0) dX3_isAtBreakpoint_0 (by decide) ?_
  refine zg_istore_n (i := 1) (L2 := [_, _, _]) dX3_isAtBreakpoint_1 rfl (by decide) rfl ?_
  refine zg_iconst (v := nI 0) dX3_isAtBreakpoint_2 (by decide) ?_
  refine zg_istore_n (i := 2) (L2 := [_, _, _]) dX3_isAtBreakpoint_3 rfl (by decide) rfl ?_
  exact lm_atb4 hS mu hV _ ⟨_, rfl, rfl, rfl, rfl⟩ ol.length 0 (by omega)
set_option maxRecDepth 20000 in
theorem lm_bks4 {S : zS} {m : Nat} (hS : MS S m) (mu : zU) (Ph : Option zV → zS → zU → Prop) (hx : Ph (some (.inl (nI (qcnt (mu (m + 8)) 72)))) S mu) :
    ∀ (t i : Nat), i + t = 72 → zG RX3 "breakpoints" cX3_breakpoints 3 (some .int) (zroom 0 0 0) 0 0 Ph 4 [some (.inr (m + 1)), some (.inl (nI (qcnt (mu (m + 8)) i))), some (.inl (nI i))] [] S (mu) 0 0 := by
  have hN0 : m < S.1 := hS.lt (i := 0) (by decide)
  have hN8 : m + 8 < S.1 := hS.lt (by decide)
  obtain ⟨⟨-, k0, -, -, -, -, -, -, -, k8, -⟩, -, -, -, -, -, -, -, r8, -⟩ := id hS
  intro t
  induction t with
  | zero =>
    intro i hit
    obtain rfl : i = 72 := by omega
    refine zg_iload_n (i := 2) dX3_breakpoints_4 rfl rfl ?_
    refine zg_bipush (v := nI 72) dX3_breakpoints_5 (by decide) ?_
    first | with_reducible refine zg_icmpN_ge (tgt := 33) dX3_breakpoints_7 (by decide) (by omega) (by omega) (fun c2 => ?_) (fun c2 => ?_) | refine zg_icmp_ge (tgt := 33) dX3_breakpoints_7 (by decide) (fun c2 => ?_) (fun c2 => ?_)
    · refine zg_iload_n (i := 1) dX3_breakpoints_33 rfl rfl ?_
      exact zg_iret dX3_breakpoints_34 rfl hx
    · omega
  | succ t ih =>
    intro i hit
    have hle := qcnt_le (mu (m + 8)) i
    have ihn := ih (i + 1) (by omega)
    refine zg_iload_n (i := 2) dX3_breakpoints_4 rfl rfl ?_
    refine zg_bipush (v := nI 72) dX3_breakpoints_5 (by decide) ?_
    first | with_reducible refine zg_icmpN_ge (tgt := 33) dX3_breakpoints_7 (by decide) (by omega) (by omega) (fun c2 => ?_) (fun c2 => ?_) | refine zg_icmp_ge (tgt := 33) dX3_breakpoints_7 (by decide) (fun c2 => ?_) (fun c2 => ?_)
    · omega
    · refine zg_iload_n (i := 1) dX3_breakpoints_10 rfl rfl ?_
      refine zg_aload_n (i := 0) dX3_breakpoints_11 rfl rfl ?_
      refine zg_getR dX3_breakpoints_12 flX3_32 (by decide) (by assumption) (by assumption) (by assumption) ?_
      refine zg_iload_n (i := 2) dX3_breakpoints_15 rfl rfl ?_
      refine zg_zald dX3_breakpoints_16 (by assumption) (by assumption) rfl (by omega) (by decide) ?_
      refine zg_if_eq (tgt := 24) dX3_breakpoints_17 (by decide) (fun c3 => ?_) (fun c3 => ?_)
      · rw [qcnt, if_pos c3] at ihn
        refine zg_iconst (v := nI 0) dX3_breakpoints_24 (by decide) ?_
        first | with_reducible refine zg_iaddN dX3_breakpoints_25 ?_ | refine zg_iadd dX3_breakpoints_25 ?_
        refine zg_istore_n (i := 1) (L2 := [_, _, _]) dX3_breakpoints_26 rfl (by decide) rfl ?_
        refine zg_iinc1 (L2 := [_, _, _]) dX3_breakpoints_27 (by decide) rfl rfl ?_
        refine zg_goto (tgt := 4) dX3_breakpoints_30 (by decide) ?_
        exact ihn
      · rw [qcnt, if_neg c3] at ihn
        refine zg_iconst (v := nI 1) dX3_breakpoints_20 (by decide) ?_
        refine zg_goto (tgt := 25) dX3_breakpoints_21 (by decide) ?_
        first | with_reducible refine zg_iaddN dX3_breakpoints_25 ?_ | refine zg_iadd dX3_breakpoints_25 ?_
        refine zg_istore_n (i := 1) (L2 := [_, _, _]) dX3_breakpoints_26 rfl (by decide) rfl ?_
        refine zg_iinc1 (L2 := [_, _, _]) dX3_breakpoints_27 (by decide) rfl rfl ?_
        refine zg_goto (tgt := 4) dX3_breakpoints_30 (by decide) ?_
        exact ihn
set_option maxRecDepth 20000 in
theorem cm_breakpoints {S : zS} {m : Nat} (hS : MS S m) (mu : zU) : zM yX3_breakpoints cX3_breakpoints 3 (some .int) 0 0 0 [.inr (m + 1)] S mu (zPi S (fun r mu2 => mu2 = mu ∧ r = nI (qcnt (mu (m + 8)) 72))) := by
  refine zM.ofG (by decide +kernel) (Nat.le_of_ble_eq_true rfl) ?_
  refine zg_iconst (v := nI 0) dX3_breakpoints_0 (by decide) ?_
  refine zg_istore_n (i := 1) (L2 := [_, _, _]) dX3_breakpoints_1 rfl (by decide) rfl ?_
  refine zg_iconst (v := nI 0) dX3_breakpoints_2 (by decide) ?_
  refine zg_istore_n (i := 2) (L2 := [_, _, _]) dX3_breakpoints_3 rfl (by decide) rfl ?_
  exact lm_bks4 hS mu _ ⟨_, rfl, rfl, rfl, rfl⟩ 72 0 (by omega)
set_option maxRecDepth 20000 in
theorem lm_sbk50 {S : zS} {m : Nat} (hS : MS S m) (mu : zU) {l1 l2 : Option zV} {b j : Nat} (hb : b < 2) (hj : j < 72) (Ph : Option zV → zS → zU → Prop) (hx : Ph (some (.inl (nI (qcnt (upd (mu (m + 8)) j (nI b)) 72)))) S (zup mu (m + 8) j (nI b))) :
    zG RX3 "setBreakpoint" cX3_setBreakpoint 5 (some .int) (zroom 2 0 0) 0 0 Ph 50 [some (.inr (m + 1)), l1, l2, some (.inl (nI b)), some (.inl (nI j))] [] S (mu) 0 0 := by
  have hN0 : m < S.1 := hS.lt (i := 0) (by decide)
  have hN8 : m + 8 < S.1 := hS.lt (by decide)
  obtain ⟨⟨-, k0, -, -, -, -, -, -, -, k8, -⟩, -, -, -, -, -, -, -, r8, -⟩ := id hS
  have hfin : zG RX3 "setBreakpoint" cX3_setBreakpoint 5 (some .int) (zroom 2 0 0) 0 0 Ph 67 [some (.inr (m + 1)), l1, l2, some (.inl (nI b)), some (.inl (nI j))] [] S (zup mu (m + 8) j (nI b)) 0 0 := by
    refine zg_aload_n (i := 0) dX3_setBreakpoint_67 rfl rfl ?_
    refine zg_callVi (cm_breakpoints hS _) dX3_setBreakpoint_68 cvX3_breakpoints mlX3_158 rfl (by assumption) (by assumption) rfl (Nat.le_of_ble_eq_true rfl) ⟨by decide, by decide⟩ ⟨Nat.le_refl _, Nat.le_refl _⟩ (fun r mu2 h2 => ?_)
    obtain ⟨rfl, rfl⟩ := h2
    rw [zup_s]
    exact zg_iret dX3_setBreakpoint_71 rfl hx
  refine zg_aload_n (i := 0) dX3_setBreakpoint_50 rfl rfl ?_
  refine zg_getR dX3_setBreakpoint_51 flX3_32 (by decide) (by assumption) (by assumption) (by assumption) ?_
  refine zg_iload dX3_setBreakpoint_54 rfl ?_
  refine zg_iload_n (i := 3) dX3_setBreakpoint_56 rfl rfl ?_
  refine zg_iconst (v := nI 1) dX3_setBreakpoint_57 (by decide) ?_
  first | with_reducible refine zg_icmpN_ne (tgt := 65) dX3_setBreakpoint_58 (by decide) (by omega) (by omega) (fun c => ?_) (fun c => ?_) | refine zg_icmp_ne (tgt := 65) dX3_setBreakpoint_58 (by decide) (fun c => ?_) (fun c => ?_)
  · obtain rfl : b = 0 := by omega
    refine zg_iconst (v := nI 0) dX3_setBreakpoint_65 (by decide) ?_
    refine zg_zast dX3_setBreakpoint_66 (by assumption) (by assumption) rfl (by omega) (by decide) (by first | assumption | (left; rfl) | (right; rfl)) ?_
    exact hfin
  · obtain rfl : b = 1 := by omega
    refine zg_iconst (v := nI 1) dX3_setBreakpoint_61 (by decide) ?_
    refine zg_goto (tgt := 66) dX3_setBreakpoint_62 (by decide) ?_
    refine zg_zast dX3_setBreakpoint_66 (by assumption) (by assumption) rfl (by omega) (by decide) (by first | assumption | (left; rfl) | (right; rfl)) ?_
    exact hfin
set_option maxRecDepth 20000 in
theorem cm_setBreakpoint {S : zS} {m : Nat} (hS : MS S m) (mu : zU) (hbp : ∀ j, j < 72 → mu (m + 8) j = nI 0 ∨ mu (m + 8) j = nI 1) (x y o : Int32) : zM yX3_setBreakpoint cX3_setBreakpoint 5 (some .int) 2 0 0 [.inr (m + 1), .inl x, .inl y, .inl o] S mu (zPi S (fun r mu2 => (¬ (∃ cx cy b, cx < 12 ∧ cy < 6 ∧ b < 2 ∧ x = nI cx ∧ y = nI cy ∧ o = nI b) ∧ r = -1 ∧ mu2 = mu) ∨ ∃ cx cy b, cx < 12 ∧ cy < 6 ∧ b < 2 ∧ x = nI cx ∧ y = nI cy ∧ o = nI b ∧ ((mu (m + 8) (12 * cy + cx) = nI b ∧ r = -2 ∧ mu2 = mu) ∨ (mu (m + 8) (12 * cy + cx) ≠ nI b ∧ r = nI (qcnt (upd (mu (m + 8)) (12 * cy + cx) (nI b)) 72) ∧ mu2 = zup mu (m + 8) (12 * cy + cx) (nI b))))) := by
  have hN0 : m < S.1 := hS.lt (i := 0) (by decide)
  have hN8 : m + 8 < S.1 := hS.lt (by decide)
  obtain ⟨⟨-, k0, -, -, -, -, -, -, -, k8, -⟩, -, -, -, -, -, -, -, r8, -⟩ := id hS
  refine zM.ofG (by decide +kernel) (Nat.le_of_ble_eq_true rfl) ?_
  refine zg_iload_n (i := 1) dX3_setBreakpoint_0 rfl rfl ?_
  refine zg_iload_n (i := 2) dX3_setBreakpoint_1 rfl rfl ?_
  refine zg_callSi (cm_isCell S mu x y) dX3_setBreakpoint_2 ctX3_isCell mlX3_65 rfl rfl (Nat.le_of_ble_eq_true rfl) ⟨by decide, by decide⟩ ⟨Nat.le_refl _, Nat.le_refl _⟩ (fun r mu2 h2 => ?_)
  obtain ⟨rfl, rfl⟩ := h2
  rcases atC_cs x y with ⟨cx, cy, hx, hy, rfl, rfl⟩ | ⟨h1, h2⟩
  · rw [if_pos (cellC hx hy)]
    first | with_reducible refine zg_ifN_eq (tgt := 17) dX3_setBreakpoint_5 (by decide) (by omega) (fun c1 => ?_) (fun c1 => ?_) | refine zg_if_eq (tgt := 17) dX3_setBreakpoint_5 (by decide) (fun c1 => ?_) (fun c1 => ?_)
    · exact absurd c1 (by decide)
    · refine zg_iload_n (i := 3) dX3_setBreakpoint_8 rfl rfl ?_
      refine zg_iconst (v := nI 0) dX3_setBreakpoint_9 (by decide) ?_
      refine zg_iconst (v := nI 1) dX3_setBreakpoint_10 (by decide) ?_
      refine zg_callSi (cm_in S mu2 o (nI 0) (nI 1)) dX3_setBreakpoint_11 ctX3_in mlX3_44 rfl rfl (Nat.le_of_ble_eq_true rfl) ⟨by decide, by decide⟩ ⟨Nat.le_refl _, Nat.le_refl _⟩ (fun r mu3 h3 => ?_)
      obtain ⟨rfl, rfl⟩ := h3
      by_cases hc : nI 0 ≤ o ∧ o ≤ nI 1
      · rw [if_pos hc]
        first | with_reducible refine zg_ifN_ne (tgt := 19) dX3_setBreakpoint_14 (by decide) (by omega) (fun c2 => ?_) (fun c2 => ?_) | refine zg_if_ne (tgt := 19) dX3_setBreakpoint_14 (by decide) (fun c2 => ?_) (fun c2 => ?_)
        · obtain ⟨b, hb, rfl⟩ := atN_ix (by omega) ((in_le o 1 (by omega)).mp hc)
          have hj : 12 * cy + cx < 72 := by omega
          refine zg_bipush (v := nI 12) dX3_setBreakpoint_19 (by decide) ?_
          refine zg_iload_n (i := 2) dX3_setBreakpoint_21 rfl rfl ?_
          first | with_reducible refine zg_imulN dX3_setBreakpoint_22 ?_ | refine zg_imul dX3_setBreakpoint_22 ?_
          refine zg_iload_n (i := 1) dX3_setBreakpoint_23 rfl rfl ?_
          first | with_reducible refine zg_iaddN dX3_setBreakpoint_24 ?_ | refine zg_iadd dX3_setBreakpoint_24 ?_
          refine zg_istore (L2 := [_, _, _, _, _]) dX3_setBreakpoint_25 (by decide) rfl ?_
          refine zg_aload_n (i := 0) dX3_setBreakpoint_27 rfl rfl ?_
          refine zg_getR dX3_setBreakpoint_28 flX3_32 (by decide) (by assumption) (by assumption) (by assumption) ?_
          refine zg_iload dX3_setBreakpoint_31 rfl ?_
          refine zg_zald dX3_setBreakpoint_33 (by assumption) (by assumption) rfl (by omega) (by decide) ?_
          refine zg_iload_n (i := 3) dX3_setBreakpoint_34 rfl rfl ?_
          refine zg_iconst (v := nI 1) dX3_setBreakpoint_35 (by decide) ?_
          first | with_reducible refine zg_icmpN_ne (tgt := 43) dX3_setBreakpoint_36 (by decide) (by omega) (by omega) (fun c3 => ?_) (fun c3 => ?_) | refine zg_icmp_ne (tgt := 43) dX3_setBreakpoint_36 (by decide) (fun c3 => ?_) (fun c3 => ?_)
          · obtain rfl : b = 0 := by omega
            refine zg_iconst (v := nI 0) dX3_setBreakpoint_43 (by decide) ?_
            rcases hbp _ hj with h5 | h5
            · rw [h5]
              first | with_reducible refine zg_icmpN_ne (tgt := 50) dX3_setBreakpoint_44 (by decide) (by omega) (by omega) (fun c4 => ?_) (fun c4 => ?_) | refine zg_icmp_ne (tgt := 50) dX3_setBreakpoint_44 (by decide) (fun c4 => ?_) (fun c4 => ?_)
              · omega
              · refine zg_bipush (v := -2) dX3_setBreakpoint_47 (by decide) ?_
                exact zg_iret dX3_setBreakpoint_49 rfl ⟨_, rfl, rfl, Or.inr ⟨cx, cy, 0, hx, hy, hb, rfl, rfl, rfl, Or.inl ⟨h5, rfl, rfl⟩⟩⟩
            · rw [h5]
              first | with_reducible refine zg_icmpN_ne (tgt := 50) dX3_setBreakpoint_44 (by decide) (by omega) (by omega) (fun c4 => ?_) (fun c4 => ?_) | refine zg_icmp_ne (tgt := 50) dX3_setBreakpoint_44 (by decide) (fun c4 => ?_) (fun c4 => ?_)
              · exact lm_sbk50 hS _ hb hj _ ⟨_, rfl, rfl, Or.inr ⟨cx, cy, 0, hx, hy, hb, rfl, rfl, rfl, Or.inr ⟨by rw [h5]; decide, rfl, rfl⟩⟩⟩
              · omega
          · obtain rfl : b = 1 := by omega
            refine zg_iconst (v := nI 1) dX3_setBreakpoint_39 (by decide) ?_
            refine zg_goto (tgt := 44) dX3_setBreakpoint_40 (by decide) ?_
            rcases hbp _ hj with h5 | h5
            · rw [h5]
              first | with_reducible refine zg_icmpN_ne (tgt := 50) dX3_setBreakpoint_44 (by decide) (by omega) (by omega) (fun c4 => ?_) (fun c4 => ?_) | refine zg_icmp_ne (tgt := 50) dX3_setBreakpoint_44 (by decide) (fun c4 => ?_) (fun c4 => ?_)
              · exact lm_sbk50 hS _ hb hj _ ⟨_, rfl, rfl, Or.inr ⟨cx, cy, 1, hx, hy, hb, rfl, rfl, rfl, Or.inr ⟨by rw [h5]; decide, rfl, rfl⟩⟩⟩
              · omega
            · rw [h5]
              first | with_reducible refine zg_icmpN_ne (tgt := 50) dX3_setBreakpoint_44 (by decide) (by omega) (by omega) (fun c4 => ?_) (fun c4 => ?_) | refine zg_icmp_ne (tgt := 50) dX3_setBreakpoint_44 (by decide) (fun c4 => ?_) (fun c4 => ?_)
              · omega
              · refine zg_bipush (v := -2) dX3_setBreakpoint_47 (by decide) ?_
                exact zg_iret dX3_setBreakpoint_49 rfl ⟨_, rfl, rfl, Or.inr ⟨cx, cy, 1, hx, hy, hb, rfl, rfl, rfl, Or.inl ⟨h5, rfl, rfl⟩⟩⟩
        · exact absurd c2 (by decide)
      · rw [if_neg hc]
        first | with_reducible refine zg_ifN_ne (tgt := 19) dX3_setBreakpoint_14 (by decide) (by omega) (fun c2 => ?_) (fun c2 => ?_) | refine zg_if_ne (tgt := 19) dX3_setBreakpoint_14 (by decide) (fun c2 => ?_) (fun c2 => ?_)
        · exact absurd rfl c2
        · refine zg_iconst (v := -1) dX3_setBreakpoint_17 (by decide) ?_
          refine zg_iret dX3_setBreakpoint_18 rfl ⟨_, rfl, rfl, Or.inl ⟨?_, rfl, rfl⟩⟩
          rintro ⟨cx', cy', b, -, -, hb, -, -, rfl⟩
          exact hc ((in_le _ 1 (by omega)).mpr ⟨nI_pos' (by omega), nI_lt hb (by omega)⟩)
  · rw [if_neg h1]
    first | with_reducible refine zg_ifN_eq (tgt := 17) dX3_setBreakpoint_5 (by decide) (by omega) (fun c1 => ?_) (fun c1 => ?_) | refine zg_if_eq (tgt := 17) dX3_setBreakpoint_5 (by decide) (fun c1 => ?_) (fun c1 => ?_)
    · refine zg_iconst (v := -1) dX3_setBreakpoint_17 (by decide) ?_
      refine zg_iret dX3_setBreakpoint_18 rfl ⟨_, rfl, rfl, Or.inl ⟨?_, rfl, rfl⟩⟩
      rintro ⟨cx', cy', b, w1, w2, -, w3, w4, -⟩
      exact h1 (by rw [w3, w4]; exact cellC w1 w2)
    · exact absurd rfl c1
/-! perform -/
def AD (v bp : Nat → Int32) (lim : Nat) (br : Bool) (n : Nat) : Prop := (1 ≤ n ∧ n ≤ lim) ∧ (n = lim ∨ qhalt (qit v n) = true ∨ (br = true ∧ qatb (qit v n) bp = true)) ∧ ∀ k, 1 ≤ k → k < n → ¬ (qhalt (qit v k) = true ∨ (br = true ∧ qatb (qit v k) bp = true))
theorem AD_one {v bp : Nat → Int32} {lim : Nat} {br : Bool} {n k : Nat} (h1 : AD v bp lim br n) (h2 : AD v bp lim br k) : n = k := by
  obtain ⟨⟨a1, a2⟩, a3, a4⟩ := h1
  obtain ⟨⟨b1, b2⟩, b3, b4⟩ := h2
  rcases Nat.lt_trichotomy n k with h | h | h
  · rcases a3 with h3 | h3
    · omega
    · exact absurd h3 (b4 n a1 h)
  · exact h
  · rcases b3 with h3 | h3
    · omega
    · exact absurd h3 (a4 k b1 h)
theorem qit_1 (v : Nat → Int32) : ∀ n, qit (qstep v) n = qit v (n + 1)
  | 0 => rfl
  | n + 1 => by rw [qit, qit_1 v n]; rfl
set_option maxRecDepth 20000 in
theorem lm_per37 {S : zS} {m : Nat} (hS : MS S m) {v bp : Nat → Int32} {ol : List Nat} {lim : Nat} {br : Bool} (hV : VI v ol) (hlim : lim ≤ 200) (mu0 : zU) (hbp : mu0 (m + 8) = bp) (Ph : Option zV → zS → zU → Prop) (hx : ∀ A n, (∀ q, q ≠ m + 10 → A q = mu0 q) → AD v bp lim br n → zG RX3 "perform" cX3_perform 5 (some .int) (zroom 7 0 0) 0 0 Ph 77 [some (.inr (m + 1)), some (.inl (nI lim)), some (.inl (if br then nI 1 else nI 0)), some (.inl (nI n)), some (.inl (nI 0))] [] S (zrow A (m + 1) (qit v n)) 0 0) :
    ∀ (t n : Nat) (mu : zU), n + t = lim → 1 ≤ t → (∀ k, 1 ≤ k → k < n + 1 → ¬ (qhalt (qit v k) = true ∨ (br = true ∧ qatb (qit v k) bp = true))) → (∀ q, q ≠ m + 10 → mu q = mu0 q) → zG RX3 "perform" cX3_perform 5 (some .int) (zroom 7 0 0) 0 0 Ph 37 [some (.inr (m + 1)), some (.inl (nI lim)), some (.inl (if br then nI 1 else nI 0)), some (.inl (nI n)), some (.inl (nI 1))] [] S (zrow mu (m + 1) (qit v n)) 0 0 := by
  have hN0 : m < S.1 := hS.lt (i := 0) (by decide)
  have k0 := hS.1.2.1
  have hout : ∀ A n, (∀ q, q ≠ m + 10 → A q = mu0 q) → AD v bp lim br n → zG RX3 "perform" cX3_perform 5 (some .int) (zroom 7 0 0) 0 0 Ph 71 [some (.inr (m + 1)), some (.inl (nI lim)), some (.inl (if br then nI 1 else nI 0)), some (.inl (nI n)), some (.inl (nI 1))] [] S (zrow A (m + 1) (qit v n)) 0 0 := by
    intro A n h1 h2
    refine zg_iconst (v := nI 0) dX3_perform_71 (by decide) ?_
    refine zg_istore (L2 := [_, _, _, _, _]) dX3_perform_72 (by decide) rfl ?_
    refine zg_goto (tgt := 32) dX3_perform_74 (by decide) ?_
    refine zg_iload dX3_perform_32 rfl ?_
    first | with_reducible refine zg_ifN_eq (tgt := 77) dX3_perform_34 (by decide) (by omega) (fun c => ?_) (fun c => ?_) | refine zg_if_eq (tgt := 77) dX3_perform_34 (by decide) (fun c => ?_) (fun c => ?_)
    · exact hx A n h1 h2
    · exact absurd rfl c
  intro t
  induction t with
  | zero => intro n mu _ h; omega
  | succ t ih =>
    intro n mu hn _ hno hmu
    obtain ⟨ol2, hV2⟩ := VI_it hV n
    obtain ⟨ol3, hV3⟩ := VI_it hV (n + 1)
    have hq3 := qhalt_len hV3
    have hon : ∀ A, (∀ q, q ≠ m + 10 → A q = mu0 q) → n + 1 < lim → ¬ (qhalt (qit v (n + 1)) = true ∨ (br = true ∧ qatb (qit v (n + 1)) bp = true)) → zG RX3 "perform" cX3_perform 5 (some .int) (zroom 7 0 0) 0 0 Ph 67 [some (.inr (m + 1)), some (.inl (nI lim)), some (.inl (if br then nI 1 else nI 0)), some (.inl (nI (n + 1))), some (.inl (nI 1))] [] S (zrow A (m + 1) (qit v (n + 1))) 0 0 := by
      intro A h1 h2 h3
      refine zg_iconst (v := nI 1) dX3_perform_67 (by decide) ?_
      refine zg_goto (tgt := 72) dX3_perform_68 (by decide) ?_
      refine zg_istore (L2 := [_, _, _, _, _]) dX3_perform_72 (by decide) rfl ?_
      refine zg_goto (tgt := 32) dX3_perform_74 (by decide) ?_
      refine zg_iload dX3_perform_32 rfl ?_
      first | with_reducible refine zg_ifN_eq (tgt := 77) dX3_perform_34 (by decide) (by omega) (fun c => ?_) (fun c => ?_) | refine zg_if_eq (tgt := 77) dX3_perform_34 (by decide) (fun c => ?_) (fun c => ?_)
      · exact absurd c (by decide)
      · refine ih (n + 1) A (by omega) (by omega) (fun k a b => ?_) h1
        rcases Nat.lt_or_ge k (n + 1) with h4 | h4
        · exact hno k a h4
        · rw [show k = n + 1 by omega]; exact h3
    refine zg_aload_n (i := 0) dX3_perform_37 rfl rfl ?_
    refine zg_callVv (cm_step hS mu hV2) dX3_perform_38 cvX3_step mlX3_148 rfl (by assumption) (by assumption) rfl (Nat.le_of_ble_eq_true rfl) ⟨by decide, by decide⟩ ⟨Nat.le_refl _, Nat.le_refl _⟩ (fun mu2 h2 => ?_)
    obtain ⟨A, hA, rfl⟩ := h2
    have hA0 : ∀ q, q ≠ m + 10 → A q = mu0 q := fun q hq => by rw [hA q hq, hmu q hq]
    rw [show qstep (qit v n) = qit v (n + 1) from rfl]
    refine zg_iinc1 (L2 := [_, _, _, _, _]) dX3_perform_41 (by decide) rfl rfl ?_
    refine zg_iload_n (i := 3) dX3_perform_44 rfl rfl ?_
    refine zg_iload_n (i := 1) dX3_perform_45 rfl rfl ?_
    first | with_reducible refine zg_icmpN_ge (tgt := 71) dX3_perform_46 (by decide) (by omega) (by omega) (fun c => ?_) (fun c => ?_) | refine zg_icmp_ge (tgt := 71) dX3_perform_46 (by decide) (fun c => ?_) (fun c => ?_)
    · exact hout A (n + 1) hA0 ⟨⟨by omega, by omega⟩, Or.inl (by omega), hno⟩
    · refine zg_aload_n (i := 0) dX3_perform_49 rfl rfl ?_
      refine zg_callVi (cm_isHalted hS A hV3.1.1 hV3.1.2.2) dX3_perform_50 cvX3_isHalted mlX3_144 rfl (by assumption) (by assumption) rfl (Nat.le_of_ble_eq_true rfl) ⟨by decide, by decide⟩ ⟨Nat.le_refl _, Nat.le_refl _⟩ (fun r mu2 h2 => ?_)
      obtain ⟨rfl, rfl⟩ := h2
      by_cases hb : qhb (qit v (n + 1)) ol3.length = true
      · rw [if_pos hb]
        first | with_reducible refine zg_ifN_ne (tgt := 71) dX3_perform_53 (by decide) (by omega) (fun c2 => ?_) (fun c2 => ?_) | refine zg_if_ne (tgt := 71) dX3_perform_53 (by decide) (fun c2 => ?_) (fun c2 => ?_)
        · exact hout A (n + 1) hA0 ⟨⟨by omega, by omega⟩, Or.inr (Or.inl (by rw [hq3, hb])), hno⟩
        · exact absurd c2 (by decide)
      · rw [if_neg hb]
        have hb' : ¬ qhalt (qit v (n + 1)) = true := by rw [hq3]; exact hb
        first | with_reducible refine zg_ifN_ne (tgt := 71) dX3_perform_53 (by decide) (by omega) (fun c2 => ?_) (fun c2 => ?_) | refine zg_if_ne (tgt := 71) dX3_perform_53 (by decide) (fun c2 => ?_) (fun c2 => ?_)
        · exact absurd rfl c2
        · refine zg_iload_n (i := 2) dX3_perform_56 rfl rfl ?_
          cases br with
          | false =>
            first | with_reducible refine zg_ifN_eq (tgt := 67) dX3_perform_57 (by decide) (by omega) (fun c3 => ?_) (fun c3 => ?_) | refine zg_if_eq (tgt := 67) dX3_perform_57 (by decide) (fun c3 => ?_) (fun c3 => ?_)
            · exact hon A hA0 (by omega) (fun z => z.elim hb' (fun z => absurd z.1 (by decide)))
            · exact absurd rfl c3
          | true =>
            first | with_reducible refine zg_ifN_eq (tgt := 67) dX3_perform_57 (by decide) (by omega) (fun c3 => ?_) (fun c3 => ?_) | refine zg_if_eq (tgt := 67) dX3_perform_57 (by decide) (fun c3 => ?_) (fun c3 => ?_)
            · exact absurd c3 (by decide)
            · refine zg_aload_n (i := 0) dX3_perform_60 rfl rfl ?_
              refine zg_callVi (cm_isAtBreakpoint hS A hV3) dX3_perform_61 cvX3_isAtBreakpoint mlX3_151 rfl (by assumption) (by assumption) rfl (Nat.le_of_ble_eq_true rfl) ⟨by decide, by decide⟩ ⟨Nat.le_refl _, Nat.le_refl _⟩ (fun r mu2 h2 => ?_)
              obtain ⟨rfl, rfl⟩ := h2
              rw [hA0 (m + 8) (by omega), hbp]
              by_cases hq : qatb (qit v (n + 1)) bp = true
              · rw [if_pos hq]
                first | with_reducible refine zg_ifN_ne (tgt := 71) dX3_perform_64 (by decide) (by omega) (fun c4 => ?_) (fun c4 => ?_) | refine zg_if_ne (tgt := 71) dX3_perform_64 (by decide) (fun c4 => ?_) (fun c4 => ?_)
                · exact hout A (n + 1) hA0 ⟨⟨by omega, by omega⟩, Or.inr (Or.inr ⟨rfl, hq⟩), hno⟩
                · exact absurd c4 (by decide)
              · rw [if_neg hq]
                first | with_reducible refine zg_ifN_ne (tgt := 71) dX3_perform_64 (by decide) (by omega) (fun c4 => ?_) (fun c4 => ?_) | refine zg_if_ne (tgt := 71) dX3_perform_64 (by decide) (fun c4 => ?_) (fun c4 => ?_)
                · exact absurd rfl c4
                · exact hon A hA0 (by omega) (fun z => z.elim hb' (fun z => hq z.2))
set_option maxRecDepth 20000 in
theorem cm_perform {S : zS} {m : Nat} (hS : MS S m) {mu : zU} {tl uc : Nat} {v tx bp kp : Nat → Int32} {us sn : Nat → Nat → Int32} (hM : MR mu m v tl tx bp uc us kp sn) (hv : mu (m + 1) = v) {ol : List Nat} (hV : VI v ol) (br : Bool) (x : Int32) : zM yX3_perform cX3_perform 5 (some .int) 7 0 0 [.inr (m + 1), .inl x, .inl (if br then nI 1 else nI 0)] S mu (zPi S (fun r mu2 => ((¬ (nI 1 ≤ x ∧ x ≤ nI 200) ∧ r = -1 ∧ mu2 = mu) ∨ ((nI 1 ≤ x ∧ x ≤ nI 200) ∧ qhalt v = true ∧ r = -2 ∧ mu2 = mu) ∨ ((nI 1 ≤ x ∧ x ≤ nI 200) ∧ qhalt v = false ∧ ∃ n, AD v (mu (m + 8)) x.toNatClampNeg br n ∧ r = nI n ∧ MR mu2 m (qit v n) tl tx bp (ucN uc) (usN uc us v) kp sn)) ∧ zfrm mu mu2 m)) := by
  have hN0 : m < S.1 := hS.lt (i := 0) (by decide)
  have k0 := hS.1.2.1
  have huc := hM.2.2.2.1.2.1
  have h5 := hM.2.2.2.1.1
  have hq := qhalt_len hV
  refine zM.ofG (by decide +kernel) (Nat.le_of_ble_eq_true rfl) ?_
  refine zg_iload_n (i := 1) dX3_perform_0 rfl rfl ?_
  refine zg_iconst (v := nI 1) dX3_perform_1 (by decide) ?_
  refine zg_sipush (v := nI 200) dX3_perform_2 (by decide) ?_
  refine zg_callSi (cm_in S mu x (nI 1) (nI 200)) dX3_perform_5 ctX3_in mlX3_44 rfl rfl (Nat.le_of_ble_eq_true rfl) ⟨by decide, by decide⟩ ⟨Nat.le_refl _, Nat.le_refl _⟩ (fun r mu2 h2 => ?_)
  obtain ⟨rfl, rfl⟩ := h2
  by_cases hc : nI 1 ≤ x ∧ x ≤ nI 200
  · rw [if_pos hc]
    obtain ⟨lim, hl1, hl2, rfl⟩ : ∃ lim, 1 ≤ lim ∧ lim ≤ 200 ∧ x = nI lim := by
      have h1 : (1 : Int) ≤ x.toInt := by have := Int32.le_iff_toInt_le.mp hc.1; rwa [nI_toInt (by omega)] at this
      have h2 : x.toInt ≤ 200 := by have := Int32.le_iff_toInt_le.mp hc.2; rwa [nI_toInt (by omega)] at this
      have hx0 : 0 ≤ x ∧ x < nI 201 := by
        rw [← in_le x 200 (by omega), Int32.le_iff_toInt_le, Int32.le_iff_toInt_le, nI_toInt (by omega), nI_toInt (by omega)]
        omega
      obtain ⟨j, hj, hj2⟩ := atN_ix (by omega) hx0
      refine ⟨j, ?_, by omega, hj2⟩
      rw [hj2, nI_toInt (by omega)] at h1
      omega
    first | with_reducible refine zg_ifN_ne (tgt := 13) dX3_perform_8 (by decide) (by omega) (fun c1 => ?_) (fun c1 => ?_) | refine zg_if_ne (tgt := 13) dX3_perform_8 (by decide) (fun c1 => ?_) (fun c1 => ?_)
    · refine zg_mu (zrow_self mu2 (m + 1)).symm ?_
      rw [hv]
      refine zg_aload_n (i := 0) dX3_perform_13 rfl rfl ?_
      refine zg_callVi (cm_isHalted hS mu2 hV.1.1 hV.1.2.2) dX3_perform_14 cvX3_isHalted mlX3_144 rfl (by assumption) (by assumption) rfl (Nat.le_of_ble_eq_true rfl) ⟨by decide, by decide⟩ ⟨Nat.le_refl _, Nat.le_refl _⟩ (fun r mu3 h3 => ?_)
      obtain ⟨rfl, rfl⟩ := h3
      by_cases hb : qhb v ol.length = true
      · rw [if_pos hb]
        first | with_reducible refine zg_ifN_eq (tgt := 23) dX3_perform_17 (by decide) (by omega) (fun c2 => ?_) (fun c2 => ?_) | refine zg_if_eq (tgt := 23) dX3_perform_17 (by decide) (fun c2 => ?_) (fun c2 => ?_)
        · exact absurd c2 (by decide)
        · refine zg_bipush (v := -2) dX3_perform_20 (by decide) ?_
          refine zg_iret dX3_perform_22 rfl ⟨_, rfl, rfl, Or.inr (Or.inl ⟨hc, by rw [hq, hb], rfl, ?_⟩), ?_⟩
          · rw [← hv, zrow_self]
          · rw [← hv, zrow_self]; exact fun _ _ => rfl
      · rw [if_neg hb]
        first | with_reducible refine zg_ifN_eq (tgt := 23) dX3_perform_17 (by decide) (by omega) (fun c2 => ?_) (fun c2 => ?_) | refine zg_if_eq (tgt := 23) dX3_perform_17 (by decide) (fun c2 => ?_) (fun c2 => ?_)
        · refine zg_aload_n (i := 0) dX3_perform_23 rfl rfl ?_
          rw [← hv, zrow_self]
          refine zg_callVv (cm_remember hS mu2) dX3_perform_24 cvX3_remember mlX3_59 rfl (by assumption) (by assumption) rfl (Nat.le_of_ble_eq_true rfl) ⟨by decide, by decide⟩ ⟨Nat.le_refl _, Nat.le_refl _⟩ (fun mu4 h4 => ?_)
          subst h4
          refine zg_iconst (v := nI 0) dX3_perform_27 (by decide) ?_
          refine zg_istore_n (i := 3) (L2 := [_, _, _, _, _]) dX3_perform_28 rfl (by decide) rfl ?_
          refine zg_iconst (v := nI 1) dX3_perform_29 (by decide) ?_
          refine zg_istore (L2 := [_, _, _, _, _]) dX3_perform_30 (by decide) rfl ?_
          refine zg_iload dX3_perform_32 rfl ?_
          first | with_reducible refine zg_ifN_eq (tgt := 77) dX3_perform_34 (by decide) (by omega) (fun c3 => ?_) (fun c3 => ?_) | refine zg_if_eq (tgt := 77) dX3_perform_34 (by decide) (fun c3 => ?_) (fun c3 => ?_)
          · exact absurd c3 (by decide)
          · refine zg_mu (zrow_self (zrow mu2 (m + 2) (cpi (mu2 (m + 2)) (mu2 (m + 1)) 0 289)) (m + 1)).symm ?_
            rw [zrow_n (show m + 1 ≠ m + 2 by omega), hv]
            refine lm_per37 hS (bp := mu2 (m + 8)) hV hl2 (zrow mu2 (m + 2) (cpi (mu2 (m + 2)) v 0 289)) (by rw [zrow_n (by omega)]) _ ?_ lim 0 _ (by omega) hl1 (fun k a b => absurd b (by omega)) (fun _ _ => rfl)
            intro A n h1 h2
            refine zg_aload_n (i := 0) dX3_perform_77 rfl rfl ?_
            refine zg_callVv (cm_saveBefore hS _ huc (by rw [zrow_n (by omega), h1 _ (by omega), zrow_n (by omega)]; exact h5)) dX3_perform_78 cvX3_saveBefore mlX3_62 rfl (by assumption) (by assumption) rfl (Nat.le_of_ble_eq_true rfl) ⟨by decide, by decide⟩ ⟨Nat.le_refl _, Nat.le_refl _⟩ (fun mu5 h6 => ?_)
            refine zg_iload_n (i := 3) dX3_perform_81 rfl rfl ?_
            refine zg_iret dX3_perform_82 rfl ⟨_, rfl, rfl, Or.inr (Or.inr ⟨hc, by rw [hq]; simpa using hb, n, by rw [nI_clamp (by omega)]; exact h2, rfl, MR_save hM (fun q a c d => by rw [zrow_n a, h1 q d, zrow_n c]) (fun j hj => ?_) (fun j hj => by rw [zrow_s]) h6⟩), SB_fr (fun q hq => by rw [zrow_n (by omega), h1 q (by omega), zrow_n (by omega)]) h6⟩
            rw [zrow_n (by omega), h1 _ (by omega), zrow_s, cpi_in (by omega) (by omega), Nat.sub_zero]
        · exact absurd rfl c2
    · exact absurd c1 (by decide)
  · rw [if_neg hc]
    first | with_reducible refine zg_ifN_ne (tgt := 13) dX3_perform_8 (by decide) (by omega) (fun c1 => ?_) (fun c1 => ?_) | refine zg_if_ne (tgt := 13) dX3_perform_8 (by decide) (fun c1 => ?_) (fun c1 => ?_)
    · exact absurd rfl c1
    · refine zg_iconst (v := -1) dX3_perform_11 (by decide) ?_
      exact zg_iret dX3_perform_12 rfl ⟨_, rfl, rfl, ⟨Or.inl ⟨hc, rfl, rfl⟩, fun _ _ => rfl⟩⟩
