/-! THE REFERENCE: moves, turns, stacks of stacks -/
set_option maxRecDepth 20000 in
theorem cm_turn {S : zS} {m : Nat} (hS : MS S m) (mu : zU) {v : Nat → Int32} {p x y dr ss sl ns s0 s1 s2 : Nat} (hp : p < 4) (hP : PI v (150 + 25 * p) x y dr ss sl ns s0 s1 s2) {n : Nat} (hn : n < 4) : zM yX3_turn cX3_turn 3 none 1 0 0 [.inr (m + 1), .inl (nI p), .inl (nI n)] S (zrow mu (m + 1) v) (zPv S (fun mu2 => mu2 = zrow mu (m + 1) (qturn v (150 + 25 * p) n))) := by
  obtain ⟨⟨hN, k0, k1, -⟩, r0, -⟩ := id hS
  have hN0 : m < S.1 := by omega
  rw [(hP.turn n).1]
  have h2' : v (150 + 25 * p + 2) = nI dr := hP.2.2.1
  have hdr : dr < 4 := hP.2.2.2.2.2.2.2.2.2.1.2.2.1
  refine zM.ofG (by decide +kernel) (Nat.le_of_ble_eq_true rfl) ?_
  refine zg_aload_n (i := 0) dX3_turn_0 rfl rfl ?_
  refine zg_iload_n (i := 1) dX3_turn_1 rfl rfl ?_
  refine zg_iconst (v := nI 2) dX3_turn_2 (by decide) ?_
  refine zg_aload_n (i := 0) dX3_turn_3 rfl rfl ?_
  refine zg_iload_n (i := 1) dX3_turn_4 rfl rfl ?_
  refine zg_iconst (v := nI 2) dX3_turn_5 (by decide) ?_
  refine zg_callVi (cm_of hS mu v (p := p) (w := 2) (by omega)) dX3_turn_6 cvX3_of mlX3_69 rfl (by assumption) (by assumption) rfl (Nat.le_of_ble_eq_true rfl) ⟨by decide, by decide⟩ ⟨Nat.le_refl _, Nat.le_refl _⟩ (fun r mu2 h2 => ?_)
  obtain ⟨rfl, rfl⟩ := h2
  refine zg_val h2' ?_
  refine zg_iload_n (i := 2) dX3_turn_9 rfl rfl ?_
  first | with_reducible refine zg_iaddN dX3_turn_10 ?_ | refine zg_iadd dX3_turn_10 ?_
  refine zg_iconst (v := nI 4) dX3_turn_11 (by decide) ?_
  first | with_reducible refine zg_iremN dX3_turn_12 (by omega) (by omega) (by omega) ?_ | refine zg_irem dX3_turn_12 (by assumption) ?_
  refine zg_callVv (cm_put hS mu v (p := p) (w := 2) (by omega) _) dX3_turn_13 cvX3_put mlX3_80 rfl (by assumption) (by assumption) rfl (Nat.le_of_ble_eq_true rfl) ⟨by decide, by decide⟩ ⟨Nat.le_refl _, Nat.le_refl _⟩ (fun mu2 h2 => ?_)
  subst h2
  exact zg_vret dX3_turn_16 rfl ⟨rfl, rfl, rfl⟩
set_option maxRecDepth 20000 in
theorem lm_move1 {S : zS} {m : Nat} (hS : MS S m) (mu : zU) {v : Nat → Int32} {p x y dr ss sl ns s0 s1 s2 : Nat} (hp : p < 4) (hP : PI v (150 + 25 * p) x y dr ss sl ns s0 s1 s2) {a b : Nat} (ha : a < 20) (hb : b < 20) (Ph : Option zV → zS → zU → Prop) (hx : Ph none S (zrow mu (m + 1) (upd (upd v (150 + 25 * p) (nI ((x + a) % 12))) (150 + 25 * p + 1) (nI ((y + b) % 6))))) :
    zG RX3 "move" cX3_move 5 none (zroom 1 0 0) 0 0 Ph 46 [some (.inr (m + 1)), some (.inl (nI p)), some (.inl (nI dr)), some (.inl (nI a)), none] [.inl (nI b)] S (zrow mu (m + 1) v) 0 0 := by
  obtain ⟨⟨hN, k0, k1, -⟩, r0, -⟩ := id hS
  have hN0 : m < S.1 := by omega
  have h0' : v (150 + 25 * p + 0) = nI x := hP.1
  have h1' : v (150 + 25 * p + 1) = nI y := hP.2.1
  have hx12 : x < 12 := hP.2.2.2.2.2.2.2.2.2.1.1
  have hy6 : y < 6 := hP.2.2.2.2.2.2.2.2.2.1.2.1
  refine zg_istore (L2 := [_, _, _, _, _]) dX3_move_46 (by decide) rfl ?_
  refine zg_aload_n (i := 0) dX3_move_48 rfl rfl ?_
  refine zg_iload_n (i := 1) dX3_move_49 rfl rfl ?_
  refine zg_iconst (v := nI 0) dX3_move_50 (by decide) ?_
  refine zg_aload_n (i := 0) dX3_move_51 rfl rfl ?_
  refine zg_iload_n (i := 1) dX3_move_52 rfl rfl ?_
  refine zg_iconst (v := nI 0) dX3_move_53 (by decide) ?_
  refine zg_callVi (cm_of hS mu v (p := p) (w := 0) (by omega)) dX3_move_54 cvX3_of mlX3_69 rfl (by assumption) (by assumption) rfl (Nat.le_of_ble_eq_true rfl) ⟨by decide, by decide⟩ ⟨Nat.le_refl _, Nat.le_refl _⟩ (fun r mu2 h2 => ?_)
  obtain ⟨rfl, rfl⟩ := h2
  refine zg_val h0' ?_
  refine zg_iload_n (i := 3) dX3_move_57 rfl rfl ?_
  first | with_reducible refine zg_iaddN dX3_move_58 ?_ | refine zg_iadd dX3_move_58 ?_
  refine zg_bipush (v := nI 12) dX3_move_59 (by decide) ?_
  first | with_reducible refine zg_iremN dX3_move_61 (by omega) (by omega) (by omega) ?_ | refine zg_irem dX3_move_61 (by assumption) ?_
  refine zg_callVv (cm_put hS mu v (p := p) (w := 0) (by omega) _) dX3_move_62 cvX3_put mlX3_80 rfl (by assumption) (by assumption) rfl (Nat.le_of_ble_eq_true rfl) ⟨by decide, by decide⟩ ⟨Nat.le_refl _, Nat.le_refl _⟩ (fun mu2 h2 => ?_)
  subst h2
  refine zg_aload_n (i := 0) dX3_move_65 rfl rfl ?_
  refine zg_iload_n (i := 1) dX3_move_66 rfl rfl ?_
  refine zg_iconst (v := nI 1) dX3_move_67 (by decide) ?_
  refine zg_aload_n (i := 0) dX3_move_68 rfl rfl ?_
  refine zg_iload_n (i := 1) dX3_move_69 rfl rfl ?_
  refine zg_iconst (v := nI 1) dX3_move_70 (by decide) ?_
  refine zg_callVi (cm_of hS mu _ (p := p) (w := 1) (by omega)) dX3_move_71 cvX3_of mlX3_69 rfl (by assumption) (by assumption) rfl (Nat.le_of_ble_eq_true rfl) ⟨by decide, by decide⟩ ⟨Nat.le_refl _, Nat.le_refl _⟩ (fun r mu2 h2 => ?_)
  obtain ⟨rfl, rfl⟩ := h2
  refine zg_val (y := nI y) (by rw [upd_n (by omega)]; exact h1') ?_
  refine zg_iload dX3_move_74 rfl ?_
  first | with_reducible refine zg_iaddN dX3_move_76 ?_ | refine zg_iadd dX3_move_76 ?_
  refine zg_bipush (v := nI 6) dX3_move_77 (by decide) ?_
  first | with_reducible refine zg_iremN dX3_move_79 (by omega) (by omega) (by omega) ?_ | refine zg_irem dX3_move_79 (by assumption) ?_
  refine zg_callVv (cm_put hS mu _ (p := p) (w := 1) (by omega) _) dX3_move_80 cvX3_put mlX3_80 rfl (by assumption) (by assumption) rfl (Nat.le_of_ble_eq_true rfl) ⟨by decide, by decide⟩ ⟨Nat.le_refl _, Nat.le_refl _⟩ (fun mu2 h2 => ?_)
  subst h2
  exact zg_vret dX3_move_83 rfl hx
set_option maxRecDepth 20000 in
theorem lm_move2 {S : zS} {m : Nat} (hS : MS S m) (mu : zU) {v : Nat → Int32} {p x y dr ss sl ns s0 s1 s2 : Nat} (hp : p < 4) (hP : PI v (150 + 25 * p) x y dr ss sl ns s0 s1 s2) {a : Nat} (ha : a < 20) (Ph : Option zV → zS → zU → Prop) (hx : Ph none S (zrow mu (m + 1) (upd (upd v (150 + 25 * p) (nI ((x + a) % 12))) (150 + 25 * p + 1) (nI ((y + qdy dr) % 6))))) :
    zG RX3 "move" cX3_move 5 none (zroom 1 0 0) 0 0 Ph 26 [some (.inr (m + 1)), some (.inl (nI p)), some (.inl (nI dr)), none, none] [.inl (nI a)] S (zrow mu (m + 1) v) 0 0 := by
  have hdr : dr < 4 := hP.2.2.2.2.2.2.2.2.2.1.2.2.1
  refine zg_istore_n (i := 3) (L2 := [_, _, _, _, _]) dX3_move_26 rfl (by decide) rfl ?_
  refine zg_iload_n (i := 2) dX3_move_27 rfl rfl ?_
  refine zg_iconst (v := nI 1) dX3_move_28 (by decide) ?_
  first | with_reducible refine zg_icmpN_ne (tgt := 36) dX3_move_29 (by decide) (by omega) (by omega) (fun c => ?_) (fun c => ?_) | refine zg_icmp_ne (tgt := 36) dX3_move_29 (by decide) (fun c => ?_) (fun c => ?_)
  · refine zg_iload_n (i := 2) dX3_move_36 rfl rfl ?_
    refine zg_iconst (v := nI 3) dX3_move_37 (by decide) ?_
    first | with_reducible refine zg_icmpN_ne (tgt := 45) dX3_move_38 (by decide) (by omega) (by omega) (fun c2 => ?_) (fun c2 => ?_) | refine zg_icmp_ne (tgt := 45) dX3_move_38 (by decide) (fun c2 => ?_) (fun c2 => ?_)
    · refine zg_iconst (v := nI 0) dX3_move_45 (by decide) ?_
      rw [show qdy dr = 0 by rw [qdy, if_neg c, if_neg c2]] at hx
      exact lm_move1 hS mu hp hP ha (by omega) Ph hx
    · refine zg_iconst (v := nI 5) dX3_move_41 (by decide) ?_
      refine zg_goto (tgt := 46) dX3_move_42 (by decide) ?_
      rw [show qdy dr = 5 by rw [qdy, if_neg c, if_pos c2]] at hx
      exact lm_move1 hS mu hp hP ha (by omega) Ph hx
  · refine zg_iconst (v := nI 1) dX3_move_32 (by decide) ?_
    refine zg_goto (tgt := 46) dX3_move_33 (by decide) ?_
    rw [show qdy dr = 1 by rw [qdy, if_pos c]] at hx
    exact lm_move1 hS mu hp hP ha (by omega) Ph hx
set_option maxRecDepth 20000 in
theorem cm_move {S : zS} {m : Nat} (hS : MS S m) (mu : zU) {v : Nat → Int32} {p x y dr ss sl ns s0 s1 s2 : Nat} (hp : p < 4) (hP : PI v (150 + 25 * p) x y dr ss sl ns s0 s1 s2) : zM yX3_move cX3_move 5 none 1 0 0 [.inr (m + 1), .inl (nI p)] S (zrow mu (m + 1) v) (zPv S (fun mu2 => mu2 = zrow mu (m + 1) (qmove v (150 + 25 * p)))) := by
  obtain ⟨⟨hN, k0, k1, -⟩, r0, -⟩ := id hS
  have hN0 : m < S.1 := by omega
  have h2' : v (150 + 25 * p + 2) = nI dr := hP.2.2.1
  have hdr : dr < 4 := hP.2.2.2.2.2.2.2.2.2.1.2.2.1
  rw [hP.move.1]
  refine zM.ofG (by decide +kernel) (Nat.le_of_ble_eq_true rfl) ?_
  refine zg_aload_n (i := 0) dX3_move_0 rfl rfl ?_
  refine zg_iload_n (i := 1) dX3_move_1 rfl rfl ?_
  refine zg_iconst (v := nI 2) dX3_move_2 (by decide) ?_
  refine zg_callVi (cm_of hS mu v (p := p) (w := 2) (by omega)) dX3_move_3 cvX3_of mlX3_69 rfl (by assumption) (by assumption) rfl (Nat.le_of_ble_eq_true rfl) ⟨by decide, by decide⟩ ⟨Nat.le_refl _, Nat.le_refl _⟩ (fun r mu2 h2 => ?_)
  obtain ⟨rfl, rfl⟩ := h2
  refine zg_val h2' ?_
  refine zg_istore_n (i := 2) (L2 := [_, _, _, _, _]) dX3_move_6 rfl (by decide) rfl ?_
  refine zg_iload_n (i := 2) dX3_move_7 rfl rfl ?_
  first | with_reducible refine zg_ifN_ne (tgt := 15) dX3_move_8 (by decide) (by omega) (fun c => ?_) (fun c => ?_) | refine zg_if_ne (tgt := 15) dX3_move_8 (by decide) (fun c => ?_) (fun c => ?_)
  · refine zg_iload_n (i := 2) dX3_move_15 rfl rfl ?_
    refine zg_iconst (v := nI 2) dX3_move_16 (by decide) ?_
    first | with_reducible refine zg_icmpN_ne (tgt := 25) dX3_move_17 (by decide) (by omega) (by omega) (fun c2 => ?_) (fun c2 => ?_) | refine zg_icmp_ne (tgt := 25) dX3_move_17 (by decide) (fun c2 => ?_) (fun c2 => ?_)
    · refine zg_iconst (v := nI 0) dX3_move_25 (by decide) ?_
      exact lm_move2 hS mu hp hP (by omega) _ ⟨rfl, rfl, by rw [show qdx dr = 0 by rw [qdx, if_neg c, if_neg c2]]⟩
    · refine zg_bipush (v := nI 11) dX3_move_20 (by decide) ?_
      refine zg_goto (tgt := 26) dX3_move_22 (by decide) ?_
      exact lm_move2 hS mu hp hP (by omega) _ ⟨rfl, rfl, by rw [show qdx dr = 11 by rw [qdx, if_neg c, if_pos c2]]⟩
  · refine zg_iconst (v := nI 1) dX3_move_11 (by decide) ?_
    refine zg_goto (tgt := 26) dX3_move_12 (by decide) ?_
    exact lm_move2 hS mu hp hP (by omega) _ ⟨rfl, rfl, by rw [show qdx dr = 1 by rw [qdx, if_pos c]]⟩
set_option maxRecDepth 20000 in
theorem cm_openStack {S : zS} {m : Nat} (hS : MS S m) (mu : zU) {v : Nat → Int32} {p x y dr ss sl ns s0 s1 s2 : Nat} (hp : p < 4) (hP : PI v (150 + 25 * p) x y dr ss sl ns s0 s1 s2) : zM yX3_openStack cX3_openStack 5 none 3 0 0 [.inr (m + 1), .inl (nI p)] S (zrow mu (m + 1) v) (zPv S (fun mu2 => mu2 = zrow mu (m + 1) (qopen v (150 + 25 * p)))) := by
  obtain ⟨⟨hN, k0, k1, -⟩, r0, -⟩ := id hS
  have hN0 : m < S.1 := by omega
  obtain ⟨t0, t1, t2, hQ, -⟩ := hP.pop1
  obtain ⟨hc, hq, hh, hcl⟩ := hQ.cur
  obtain ⟨z5, a1, a2, a3⟩ := hQ.ns
  have h5 : qpop v (150 + 25 * p) (150 + 25 * p + 5) = nI ns := hQ.2.2.2.2.2.1
  refine zM.ofG (by decide +kernel) (Nat.le_of_ble_eq_true rfl) ?_
  refine zg_aload_n (i := 0) dX3_openStack_0 rfl rfl ?_
  refine zg_iload_n (i := 1) dX3_openStack_1 rfl rfl ?_
  refine zg_callVi (cm_pop hS mu hp hP) dX3_openStack_2 cvX3_pop mlX3_87 rfl (by assumption) (by assumption) rfl (Nat.le_of_ble_eq_true rfl) ⟨by decide, by decide⟩ ⟨Nat.le_refl _, Nat.le_refl _⟩ (fun r mu2 h2 => ?_)
  obtain ⟨rfl, rfl⟩ := h2
  rw [qopen]
  generalize qpopR v (150 + 25 * p) = n
  generalize qpop v (150 + 25 * p) = w at *
  refine zg_istore_n (i := 2) (L2 := [_, _, _, _, _]) dX3_openStack_5 rfl (by decide) rfl ?_
  refine zg_aload_n (i := 0) dX3_openStack_6 rfl rfl ?_
  refine zg_iload_n (i := 1) dX3_openStack_7 rfl rfl ?_
  refine zg_iconst (v := nI 5) dX3_openStack_8 (by decide) ?_
  refine zg_callVi (cm_of hS mu w (p := p) (w := 5) (by omega)) dX3_openStack_9 cvX3_of mlX3_69 rfl (by assumption) (by assumption) rfl (Nat.le_of_ble_eq_true rfl) ⟨by decide, by decide⟩ ⟨Nat.le_refl _, Nat.le_refl _⟩ (fun r mu2 h2 => ?_)
  obtain ⟨rfl, rfl⟩ := h2
  refine zg_val h5 ?_
  refine zg_iconst (v := nI 3) dX3_openStack_12 (by decide) ?_
  first | with_reducible refine zg_icmpN_ne (tgt := 17) dX3_openStack_13 (by decide) (by omega) (by omega) (fun c => ?_) (fun c => ?_) | refine zg_icmp_ne (tgt := 17) dX3_openStack_13 (by decide) (fun c => ?_) (fun c => ?_)
  · have hkle := qclamp_le n (n := PIsc ns t0 t1 t2) (by omega)
    have hopn := (hQ.opn c hkle).1
    rw [qopen1, z5, if_neg c, hq, zn_of hc (by omega), hopn]
    refine zg_aload_n (i := 0) dX3_openStack_17 rfl rfl ?_
    refine zg_iload_n (i := 1) dX3_openStack_18 rfl rfl ?_
    refine zg_callVi (cm_current hS mu hp h5 a1) dX3_openStack_19 cvX3_current mlX3_73 rfl (by assumption) (by assumption) rfl (Nat.le_of_ble_eq_true rfl) ⟨by decide, by decide⟩ ⟨Nat.le_refl _, Nat.le_refl _⟩ (fun r mu2 h2 => ?_)
    obtain ⟨rfl, rfl⟩ := h2
    refine zg_istore_n (i := 3) (L2 := [_, _, _, _, _]) dX3_openStack_22 rfl (by decide) rfl ?_
    refine zg_iload_n (i := 2) dX3_openStack_23 rfl rfl ?_
    refine zg_aload_n (i := 0) dX3_openStack_24 rfl rfl ?_
    refine zg_iload_n (i := 1) dX3_openStack_25 rfl rfl ?_
    refine zg_iload_n (i := 3) dX3_openStack_26 rfl rfl ?_
    refine zg_callVi (cm_of hS mu w (p := p) (w := 5 + ns) (by omega)) dX3_openStack_27 cvX3_of mlX3_69 rfl (by assumption) (by assumption) rfl (Nat.le_of_ble_eq_true rfl) ⟨by decide, by decide⟩ ⟨Nat.le_refl _, Nat.le_refl _⟩ (fun r mu2 h2 => ?_)
    obtain ⟨rfl, rfl⟩ := h2
    refine zg_val (y := nI (PIsc ns t0 t1 t2)) (by rw [← Nat.add_assoc]; exact hc) ?_
    refine zg_callSi (cm_clamp S (zrow mu (m + 1) w) n (n := PIsc ns t0 t1 t2) (by omega)) dX3_openStack_30 ctX3_clamp mlX3_90 rfl rfl (Nat.le_of_ble_eq_true rfl) ⟨by decide, by decide⟩ ⟨Nat.le_refl _, Nat.le_refl _⟩ (fun r mu2 h2 => ?_)
    obtain ⟨rfl, rfl⟩ := h2
    generalize qclamp n (PIsc ns t0 t1 t2) = k at *
    refine zg_istore (L2 := [_, _, _, _, _]) dX3_openStack_33 (by decide) rfl ?_
    refine zg_aload_n (i := 0) dX3_openStack_35 rfl rfl ?_
    refine zg_iload_n (i := 1) dX3_openStack_36 rfl rfl ?_
    refine zg_iload_n (i := 3) dX3_openStack_37 rfl rfl ?_
    refine zg_aload_n (i := 0) dX3_openStack_38 rfl rfl ?_
    refine zg_iload_n (i := 1) dX3_openStack_39 rfl rfl ?_
    refine zg_iload_n (i := 3) dX3_openStack_40 rfl rfl ?_
    refine zg_callVi (cm_of hS mu w (p := p) (w := 5 + ns) (by omega)) dX3_openStack_41 cvX3_of mlX3_69 rfl (by assumption) (by assumption) rfl (Nat.le_of_ble_eq_true rfl) ⟨by decide, by decide⟩ ⟨Nat.le_refl _, Nat.le_refl _⟩ (fun r mu2 h2 => ?_)
    obtain ⟨rfl, rfl⟩ := h2
    refine zg_val (y := nI (PIsc ns t0 t1 t2)) (by rw [← Nat.add_assoc]; exact hc) ?_
    refine zg_iload dX3_openStack_44 rfl ?_
    first | with_reducible refine zg_isubN dX3_openStack_46 (by omega) ?_ | refine zg_isub dX3_openStack_46 ?_
    refine zg_callVv (cm_put hS mu w (p := p) (w := 5 + ns) (by omega) _) dX3_openStack_47 cvX3_put mlX3_80 rfl (by assumption) (by assumption) rfl (Nat.le_of_ble_eq_true rfl) ⟨by decide, by decide⟩ ⟨Nat.le_refl _, Nat.le_refl _⟩ (fun mu2 h2 => ?_)
    subst h2
    refine zg_aload_n (i := 0) dX3_openStack_50 rfl rfl ?_
    refine zg_iload_n (i := 1) dX3_openStack_51 rfl rfl ?_
    refine zg_iload_n (i := 3) dX3_openStack_52 rfl rfl ?_
    refine zg_iconst (v := nI 1) dX3_openStack_53 (by decide) ?_
    first | with_reducible refine zg_iaddN dX3_openStack_54 ?_ | refine zg_iadd dX3_openStack_54 ?_
    refine zg_iload dX3_openStack_55 rfl ?_
    refine zg_callVv (cm_put hS mu _ (p := p) (w := 5 + ns + 1) (by omega) _) dX3_openStack_57 cvX3_put mlX3_80 rfl (by assumption) (by assumption) rfl (Nat.le_of_ble_eq_true rfl) ⟨by decide, by decide⟩ ⟨Nat.le_refl _, Nat.le_refl _⟩ (fun mu2 h2 => ?_)
    subst h2
    refine zg_aload_n (i := 0) dX3_openStack_60 rfl rfl ?_
    refine zg_iload_n (i := 1) dX3_openStack_61 rfl rfl ?_
    refine zg_iconst (v := nI 5) dX3_openStack_62 (by decide) ?_
    refine zg_aload_n (i := 0) dX3_openStack_63 rfl rfl ?_
    refine zg_iload_n (i := 1) dX3_openStack_64 rfl rfl ?_
    refine zg_iconst (v := nI 5) dX3_openStack_65 (by decide) ?_
    refine zg_callVi (cm_of hS mu _ (p := p) (w := 5) (by omega)) dX3_openStack_66 cvX3_of mlX3_69 rfl (by assumption) (by assumption) rfl (Nat.le_of_ble_eq_true rfl) ⟨by decide, by decide⟩ ⟨Nat.le_refl _, Nat.le_refl _⟩ (fun r mu2 h2 => ?_)
    obtain ⟨rfl, rfl⟩ := h2
    refine zg_val (y := nI ns) (by rw [upd_n (by omega), upd_n (by omega)]; exact h5) ?_
    refine zg_iconst (v := nI 1) dX3_openStack_69 (by decide) ?_
    first | with_reducible refine zg_iaddN dX3_openStack_70 ?_ | refine zg_iadd dX3_openStack_70 ?_
    refine zg_callVv (cm_put hS mu _ (p := p) (w := 5) (by omega) _) dX3_openStack_71 cvX3_put mlX3_80 rfl (by assumption) (by assumption) rfl (Nat.le_of_ble_eq_true rfl) ⟨by decide, by decide⟩ ⟨Nat.le_refl _, Nat.le_refl _⟩ (fun mu2 h2 => ?_)
    subst h2
    refine zg_vret dX3_openStack_74 rfl ⟨rfl, rfl, ?_⟩
    show zrow _ _ _ = zrow _ _ _
    rw [show 150 + 25 * p + (5 + ns) = 150 + 25 * p + 5 + ns by omega, show 150 + 25 * p + (5 + ns + 1) = 150 + 25 * p + 6 + ns by omega]
  · refine zg_vret dX3_openStack_16 rfl ⟨rfl, rfl, ?_⟩
    show zrow _ _ _ = zrow _ _ _
    rw [qopen1, z5, if_pos c]
