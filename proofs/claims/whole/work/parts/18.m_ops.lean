/-! THE REFERENCE: operate, store, fetch, output, input, split -/
set_option maxRecDepth 20000 in
theorem cm_operate (S : zS) (mu : zU) (c a b : Int32) (hc : c = nI 43 ∨ c = nI 45 ∨ c = nI 42 ∨ c = nI 47 ∨ c = nI 37 ∨ c = nI 96) : zM yX3_operate cX3_operate 3 (some .int) 0 0 0 [.inl c, .inl a, .inl b] S mu (zPi S (fun r mu2 => mu2 = mu ∧ r = qop c a b)) := by
  refine zM.ofG (by decide +kernel) (Nat.le_of_ble_eq_true rfl) ?_
  refine zg_iload_n (i := 0) dX3_operate_0 rfl rfl ?_
  rcases hc with rfl | rfl | rfl | rfl | rfl | rfl
  · refine zg_tableIn (off := 59) (tgt := 60) dX3_operate_1 (by decide) (by decide) rfl (by decide) ?_
    refine zg_iload_n (i := 1) dX3_operate_60 rfl rfl ?_
    refine zg_iload_n (i := 2) dX3_operate_61 rfl rfl ?_
    first | with_reducible refine zg_iaddN dX3_operate_62 ?_ | refine zg_iadd dX3_operate_62 ?_
    exact zg_iret dX3_operate_63 rfl ⟨_, rfl, rfl, ⟨rfl, by rw [qo_43]⟩⟩
  · refine zg_tableIn (off := 63) (tgt := 64) dX3_operate_1 (by decide) (by decide) rfl (by decide) ?_
    refine zg_iload_n (i := 1) dX3_operate_64 rfl rfl ?_
    refine zg_iload_n (i := 2) dX3_operate_65 rfl rfl ?_
    first | with_reducible refine zg_isubN dX3_operate_66 (by omega) ?_ | refine zg_isub dX3_operate_66 ?_
    exact zg_iret dX3_operate_67 rfl ⟨_, rfl, rfl, ⟨rfl, by rw [qo_45]⟩⟩
  · refine zg_tableIn (off := 67) (tgt := 68) dX3_operate_1 (by decide) (by decide) rfl (by decide) ?_
    refine zg_iload_n (i := 1) dX3_operate_68 rfl rfl ?_
    refine zg_iload_n (i := 2) dX3_operate_69 rfl rfl ?_
    first | with_reducible refine zg_imulN dX3_operate_70 ?_ | refine zg_imul dX3_operate_70 ?_
    exact zg_iret dX3_operate_71 rfl ⟨_, rfl, rfl, ⟨rfl, by rw [qo_42]⟩⟩
  · refine zg_tableIn (off := 71) (tgt := 72) dX3_operate_1 (by decide) (by decide) rfl (by decide) ?_
    refine zg_iload_n (i := 2) dX3_operate_72 rfl rfl ?_
    refine zg_if_ne (tgt := 80) dX3_operate_73 (by decide) (fun h => ?_) (fun h => ?_)
    · refine zg_iload_n (i := 1) dX3_operate_80 rfl rfl ?_
      refine zg_iload_n (i := 2) dX3_operate_81 rfl rfl ?_
      refine zg_idiv dX3_operate_82 (by assumption) ?_
      exact zg_iret dX3_operate_83 rfl ⟨_, rfl, rfl, ⟨rfl, by rw [qo_47, if_neg h]⟩⟩
    · refine zg_iconst (v := nI 0) dX3_operate_76 (by decide) ?_
      refine zg_goto (tgt := 83) dX3_operate_77 (by decide) ?_
      exact zg_iret dX3_operate_83 rfl ⟨_, rfl, rfl, ⟨rfl, by rw [qo_47, if_pos h]⟩⟩
  · refine zg_tableIn (off := 83) (tgt := 84) dX3_operate_1 (by decide) (by decide) rfl (by decide) ?_
    refine zg_iload_n (i := 2) dX3_operate_84 rfl rfl ?_
    refine zg_if_ne (tgt := 92) dX3_operate_85 (by decide) (fun h => ?_) (fun h => ?_)
    · refine zg_iload_n (i := 1) dX3_operate_92 rfl rfl ?_
      refine zg_iload_n (i := 2) dX3_operate_93 rfl rfl ?_
      first | with_reducible refine zg_iremN dX3_operate_94 (by omega) (by omega) (by omega) ?_ | refine zg_irem dX3_operate_94 (by assumption) ?_
      exact zg_iret dX3_operate_95 rfl ⟨_, rfl, rfl, ⟨rfl, by rw [qo_37, if_neg h]⟩⟩
    · refine zg_iconst (v := nI 0) dX3_operate_88 (by decide) ?_
      refine zg_goto (tgt := 95) dX3_operate_89 (by decide) ?_
      exact zg_iret dX3_operate_95 rfl ⟨_, rfl, rfl, ⟨rfl, by rw [qo_37, if_pos h]⟩⟩
  · refine zg_tableOut (tgt := 96) dX3_operate_1 (by decide) (by decide) ?_
    refine zg_iload_n (i := 1) dX3_operate_96 rfl rfl ?_
    refine zg_iload_n (i := 2) dX3_operate_97 rfl rfl ?_
    refine zg_icmp_le (tgt := 105) dX3_operate_98 (by decide) (fun h => ?_) (fun h => ?_)
    · refine zg_iconst (v := nI 0) dX3_operate_105 (by decide) ?_
      exact zg_iret dX3_operate_106 rfl ⟨_, rfl, rfl, ⟨rfl, by rw [qo_96, if_neg (Int32.not_lt.mpr h)]⟩⟩
    · refine zg_iconst (v := nI 1) dX3_operate_101 (by decide) ?_
      refine zg_goto (tgt := 106) dX3_operate_102 (by decide) ?_
      exact zg_iret dX3_operate_106 rfl ⟨_, rfl, rfl, ⟨rfl, by rw [qo_96, if_pos (Int32.not_le.mp h)]⟩⟩
theorem qcell_lt (x y : Int32) : 72 ≤ qcell x y ∧ qcell x y < 144 := by
  have h1 := qmod_lt x (n := 12) (Or.inr rfl)
  have h2 := qmod_lt y (n := 6) (Or.inl rfl)
  rw [qcell]
  omega
set_option maxRecDepth 20000 in
theorem cm_store {S : zS} {m : Nat} (hS : MS S m) (mu : zU) {v : Nat → Int32} {p x y dr ss sl ns s0 s1 s2 : Nat} (hp : p < 4) (hP : PI v (150 + 25 * p) x y dr ss sl ns s0 s1 s2) : zM yX3_store cX3_store 5 none 3 0 0 [.inr (m + 1), .inl (nI p)] S (zrow mu (m + 1) v) (zPv S (fun mu2 => mu2 = zrow mu (m + 1) (qstore v (150 + 25 * p)))) := by
  obtain ⟨⟨hN, k0, k1, -⟩, r0, -⟩ := id hS
  have hN0 : m < S.1 := by omega
  have hN1 : m + 1 < S.1 := by omega
  obtain ⟨t0, t1, t2, hQ, -⟩ := hP.pop1
  obtain ⟨u0, u1, u2, hU, -⟩ := hQ.pop1
  refine zM.ofG (by decide +kernel) (Nat.le_of_ble_eq_true rfl) ?_
  refine zg_aload_n (i := 0) dX3_store_0 rfl rfl ?_
  refine zg_iload_n (i := 1) dX3_store_1 rfl rfl ?_
  refine zg_callVi (cm_pop hS mu hp hP) dX3_store_2 cvX3_pop mlX3_87 rfl (by assumption) (by assumption) rfl (Nat.le_of_ble_eq_true rfl) ⟨by decide, by decide⟩ ⟨Nat.le_refl _, Nat.le_refl _⟩ (fun r mu2 h2 => ?_)
  obtain ⟨rfl, rfl⟩ := h2
  refine zg_istore_n (i := 2) (L2 := [_, _, _, _, _]) dX3_store_5 rfl (by decide) rfl ?_
  refine zg_aload_n (i := 0) dX3_store_6 rfl rfl ?_
  refine zg_iload_n (i := 1) dX3_store_7 rfl rfl ?_
  refine zg_callVi (cm_pop hS mu hp hQ) dX3_store_8 cvX3_pop mlX3_87 rfl (by assumption) (by assumption) rfl (Nat.le_of_ble_eq_true rfl) ⟨by decide, by decide⟩ ⟨Nat.le_refl _, Nat.le_refl _⟩ (fun r mu2 h2 => ?_)
  obtain ⟨rfl, rfl⟩ := h2
  refine zg_istore_n (i := 3) (L2 := [_, _, _, _, _]) dX3_store_11 rfl (by decide) rfl ?_
  refine zg_aload_n (i := 0) dX3_store_12 rfl rfl ?_
  refine zg_iload_n (i := 1) dX3_store_13 rfl rfl ?_
  refine zg_callVi (cm_pop hS mu hp hU) dX3_store_14 cvX3_pop mlX3_87 rfl (by assumption) (by assumption) rfl (Nat.le_of_ble_eq_true rfl) ⟨by decide, by decide⟩ ⟨Nat.le_refl _, Nat.le_refl _⟩ (fun r mu2 h2 => ?_)
  obtain ⟨rfl, rfl⟩ := h2
  rw [qstore]
  generalize qpop (qpop (qpop v (150 + 25 * p)) (150 + 25 * p)) (150 + 25 * p) = w
  generalize qpopR (qpop (qpop v (150 + 25 * p)) (150 + 25 * p)) (150 + 25 * p) = a
  generalize qpopR (qpop v (150 + 25 * p)) (150 + 25 * p) = xx
  generalize qpopR v (150 + 25 * p) = yy
  refine zg_istore (L2 := [_, _, _, _, _]) dX3_store_17 (by decide) rfl ?_
  refine zg_iload dX3_store_19 rfl ?_
  refine zg_bipush (v := nI 32) dX3_store_21 (by decide) ?_
  refine zg_bipush (v := nI 126) dX3_store_23 (by decide) ?_
  refine zg_callSi (cm_in S (zrow mu (m + 1) w) a (nI 32) (nI 126)) dX3_store_25 ctX3_in mlX3_44 rfl rfl (Nat.le_of_ble_eq_true rfl) ⟨by decide, by decide⟩ ⟨Nat.le_refl _, Nat.le_refl _⟩ (fun r mu2 h2 => ?_)
  obtain ⟨rfl, rfl⟩ := h2
  by_cases h : nI 32 ≤ a ∧ a ≤ nI 126
  · rw [if_pos h, qstore3, if_pos h]
    first | with_reducible refine zg_ifN_eq (tgt := 43) dX3_store_28 (by decide) (by omega) (fun c => ?_) (fun c => ?_) | refine zg_if_eq (tgt := 43) dX3_store_28 (by decide) (fun c => ?_) (fun c => ?_)
    · exact absurd c (by decide)
    · refine zg_aload_n (i := 0) dX3_store_31 rfl rfl ?_
      refine zg_getR dX3_store_32 flX3_7 (by decide) (by assumption) (by assumption) (by assumption) ?_
      refine zg_iload_n (i := 3) dX3_store_35 rfl rfl ?_
      refine zg_iload_n (i := 2) dX3_store_36 rfl rfl ?_
      refine zg_callSi (cm_cell S (zrow mu (m + 1) w) xx yy) dX3_store_37 ctX3_cell mlX3_104 rfl rfl (Nat.le_of_ble_eq_true rfl) ⟨by decide, by decide⟩ ⟨Nat.le_refl _, Nat.le_refl _⟩ (fun r mu2 h2 => ?_)
      obtain ⟨rfl, rfl⟩ := h2
      have hcl := qcell_lt xx yy
      refine zg_iload dX3_store_40 rfl ?_
      first | with_reducible refine zg_iastR dX3_store_42 (by assumption) (by assumption) rfl (by omega) (by decide) ?_ | refine zg_iast dX3_store_42 (by assumption) (by assumption) rfl (by omega) (by decide) ?_
      exact zg_vret dX3_store_43 rfl ⟨rfl, rfl, rfl⟩
  · rw [if_neg h, qstore3, if_neg h]
    first | with_reducible refine zg_ifN_eq (tgt := 43) dX3_store_28 (by decide) (by omega) (fun c => ?_) (fun c => ?_) | refine zg_if_eq (tgt := 43) dX3_store_28 (by decide) (fun c => ?_) (fun c => ?_)
    · exact zg_vret dX3_store_43 rfl ⟨rfl, rfl, rfl⟩
    · exact absurd rfl c
set_option maxRecDepth 20000 in
theorem cm_fetch {S : zS} {m : Nat} (hS : MS S m) (mu : zU) {v : Nat → Int32} {p x y dr ss sl ns s0 s1 s2 : Nat} (hp : p < 4) (hP : PI v (150 + 25 * p) x y dr ss sl ns s0 s1 s2) : zM yX3_fetch cX3_fetch 4 none 3 0 0 [.inr (m + 1), .inl (nI p)] S (zrow mu (m + 1) v) (zPv S (fun mu2 => mu2 = zrow mu (m + 1) (qfetch v (150 + 25 * p)))) := by
  obtain ⟨⟨hN, k0, k1, -⟩, r0, -⟩ := id hS
  have hN0 : m < S.1 := by omega
  have hN1 : m + 1 < S.1 := by omega
  obtain ⟨t0, t1, t2, hQ, -⟩ := hP.pop1
  obtain ⟨u0, u1, u2, hU, -⟩ := hQ.pop1
  refine zM.ofG (by decide +kernel) (Nat.le_of_ble_eq_true rfl) ?_
  refine zg_aload_n (i := 0) dX3_fetch_0 rfl rfl ?_
  refine zg_iload_n (i := 1) dX3_fetch_1 rfl rfl ?_
  refine zg_callVi (cm_pop hS mu hp hP) dX3_fetch_2 cvX3_pop mlX3_87 rfl (by assumption) (by assumption) rfl (Nat.le_of_ble_eq_true rfl) ⟨by decide, by decide⟩ ⟨Nat.le_refl _, Nat.le_refl _⟩ (fun r mu2 h2 => ?_)
  obtain ⟨rfl, rfl⟩ := h2
  refine zg_istore_n (i := 2) (L2 := [_, _, _, _]) dX3_fetch_5 rfl (by decide) rfl ?_
  refine zg_aload_n (i := 0) dX3_fetch_6 rfl rfl ?_
  refine zg_iload_n (i := 1) dX3_fetch_7 rfl rfl ?_
  refine zg_callVi (cm_pop hS mu hp hQ) dX3_fetch_8 cvX3_pop mlX3_87 rfl (by assumption) (by assumption) rfl (Nat.le_of_ble_eq_true rfl) ⟨by decide, by decide⟩ ⟨Nat.le_refl _, Nat.le_refl _⟩ (fun r mu2 h2 => ?_)
  obtain ⟨rfl, rfl⟩ := h2
  rw [qfetch]
  generalize qpop (qpop v (150 + 25 * p)) (150 + 25 * p) = w at *
  generalize qpopR (qpop v (150 + 25 * p)) (150 + 25 * p) = xx
  generalize qpopR v (150 + 25 * p) = yy
  refine zg_istore_n (i := 3) (L2 := [_, _, _, _]) dX3_fetch_11 rfl (by decide) rfl ?_
  refine zg_aload_n (i := 0) dX3_fetch_12 rfl rfl ?_
  refine zg_iload_n (i := 1) dX3_fetch_13 rfl rfl ?_
  refine zg_aload_n (i := 0) dX3_fetch_14 rfl rfl ?_
  refine zg_getR dX3_fetch_15 flX3_7 (by decide) (by assumption) (by assumption) (by assumption) ?_
  refine zg_iload_n (i := 3) dX3_fetch_18 rfl rfl ?_
  refine zg_iload_n (i := 2) dX3_fetch_19 rfl rfl ?_
  refine zg_callSi (cm_cell S (zrow mu (m + 1) w) xx yy) dX3_fetch_20 ctX3_cell mlX3_104 rfl rfl (Nat.le_of_ble_eq_true rfl) ⟨by decide, by decide⟩ ⟨Nat.le_refl _, Nat.le_refl _⟩ (fun r mu2 h2 => ?_)
  obtain ⟨rfl, rfl⟩ := h2
  have hcl := qcell_lt xx yy
  first | with_reducible refine zg_ialdR dX3_fetch_23 (by assumption) (by assumption) rfl (by omega) (by decide) ?_ | refine zg_iald dX3_fetch_23 (by assumption) (by assumption) rfl (by omega) (by decide) ?_
  refine zg_callVv (cm_push hS mu hp hU _) dX3_fetch_24 cvX3_push mlX3_97 rfl (by assumption) (by assumption) rfl (Nat.le_of_ble_eq_true rfl) ⟨by decide, by decide⟩ ⟨Nat.le_refl _, Nat.le_refl _⟩ (fun mu2 h2 => ?_)
  subst h2
  exact zg_vret dX3_fetch_27 rfl ⟨rfl, rfl, rfl⟩
set_option maxRecDepth 20000 in
theorem lm_out61 {S : zS} {m : Nat} (hS : MS S m) (mu : zU) {w : Nat → Int32} {n : Nat} {x : Int32} {l2 : Option zV} (hn : n < 20) (hw : w 267 = nI n) (Ph : Option zV → zS → zU → Prop) (hx : Ph none S (zrow mu (m + 1) (qout2 w x))) : zG RX3 "output" cX3_output 3 none (zroom 0 0 0) 0 0 Ph 61 [some (.inr (m + 1)), some (.inl x), l2] [] S (zrow mu (m + 1) w) 0 0 := by
  obtain ⟨⟨hN, k0, k1, -⟩, r0, -⟩ := id hS
  have hN0 : m < S.1 := by omega
  have hN1 : m + 1 < S.1 := by omega
  rw [qout2, zn_of hw (by omega)] at hx
  refine zg_aload_n (i := 0) dX3_output_61 rfl rfl ?_
  refine zg_getR dX3_output_62 flX3_7 (by decide) (by assumption) (by assumption) (by assumption) ?_
  refine zg_sipush (v := nI 267) dX3_output_65 (by decide) ?_
  refine zg_dup2 dX3_output_68 ?_
  first | with_reducible refine zg_ialdR dX3_output_69 (by assumption) (by assumption) rfl (by omega) (by decide) ?_ | refine zg_iald dX3_output_69 (by assumption) (by assumption) rfl (by omega) (by decide) ?_
  refine zg_val hw ?_
  refine zg_iconst (v := nI 1) dX3_output_70 (by decide) ?_
  first | with_reducible refine zg_iaddN dX3_output_71 ?_ | refine zg_iadd dX3_output_71 ?_
  first | with_reducible refine zg_iastR dX3_output_72 (by assumption) (by assumption) rfl (by omega) (by decide) ?_ | refine zg_iast dX3_output_72 (by assumption) (by assumption) rfl (by omega) (by decide) ?_
  refine zg_aload_n (i := 0) dX3_output_73 rfl rfl ?_
  refine zg_getR dX3_output_74 flX3_7 (by decide) (by assumption) (by assumption) (by assumption) ?_
  refine zg_sipush (v := nI 267) dX3_output_77 (by decide) ?_
  refine zg_aload_n (i := 0) dX3_output_80 rfl rfl ?_
  refine zg_getR dX3_output_81 flX3_7 (by decide) (by assumption) (by assumption) (by assumption) ?_
  refine zg_sipush (v := nI 267) dX3_output_84 (by decide) ?_
  first | with_reducible refine zg_ialdR dX3_output_87 (by assumption) (by assumption) rfl (by omega) (by decide) ?_ | refine zg_iald dX3_output_87 (by assumption) (by assumption) rfl (by omega) (by decide) ?_
  refine zg_val (y := nI (n + 1)) (by rw [upd_s]) ?_
  first | with_reducible refine zg_iaddN dX3_output_88 ?_ | refine zg_iadd dX3_output_88 ?_
  refine zg_iload_n (i := 1) dX3_output_89 rfl rfl ?_
  first | with_reducible refine zg_iastR dX3_output_90 (by assumption) (by assumption) rfl (by omega) (by decide) ?_ | refine zg_iast dX3_output_90 (by assumption) (by assumption) rfl (by omega) (by decide) ?_
  refine zg_aload_n (i := 0) dX3_output_91 rfl rfl ?_
  refine zg_getR dX3_output_92 flX3_7 (by decide) (by assumption) (by assumption) (by assumption) ?_
  refine zg_sipush (v := nI 288) dX3_output_95 (by decide) ?_
  refine zg_dup2 dX3_output_98 ?_
  first | with_reducible refine zg_ialdR dX3_output_99 (by assumption) (by assumption) rfl (by omega) (by decide) ?_ | refine zg_iald dX3_output_99 (by assumption) (by assumption) rfl (by omega) (by decide) ?_
  refine zg_val (y := w 288) (by rw [upd_n (by omega), upd_n (by omega)]) ?_
  refine zg_iconst (v := nI 1) dX3_output_100 (by decide) ?_
  first | with_reducible refine zg_iaddN dX3_output_101 ?_ | refine zg_iadd dX3_output_101 ?_
  first | with_reducible refine zg_iastR dX3_output_102 (by assumption) (by assumption) rfl (by omega) (by decide) ?_ | refine zg_iast dX3_output_102 (by assumption) (by assumption) rfl (by omega) (by decide) ?_
  rw [show 267 + (n + 1) = 268 + n by omega]
  exact zg_vret dX3_output_103 rfl hx
set_option maxRecDepth 20000 in
theorem lm_out15 {S : zS} {m : Nat} (hS : MS S m) (mu : zU) {v : Nat → Int32} {x : Int32} (Ph : Option zV → zS → zU → Prop) (hx : zG RX3 "output" cX3_output 3 none (zroom 0 0 0) 0 0 Ph 49 [some (.inr (m + 1)), some (.inl x), some (.inl (nI 20))] [] S (zrow mu (m + 1) (qmv v 269 1 19)) 0 0) :
    ∀ (t i : Nat), i + t = 19 → zG RX3 "output" cX3_output 3 none (zroom 0 0 0) 0 0 Ph 15 [some (.inr (m + 1)), some (.inl x), some (.inl (nI (1 + i)))] [] S (zrow mu (m + 1) (qmv v 269 1 i)) 0 0 := by
  obtain ⟨⟨hN, k0, k1, -⟩, r0, -⟩ := id hS
  have hN0 : m < S.1 := by omega
  have hN1 : m + 1 < S.1 := by omega
  intro t
  induction t with
  | zero =>
    intro i hi
    obtain rfl : i = 19 := by omega
    refine zg_iload_n (i := 2) dX3_output_15 rfl rfl ?_
    refine zg_bipush (v := nI 20) dX3_output_16 (by decide) ?_
    first | with_reducible refine zg_icmpN_ge (tgt := 49) dX3_output_18 (by decide) (by omega) (by omega) (fun c2 => ?_) (fun c2 => ?_) | refine zg_icmp_ge (tgt := 49) dX3_output_18 (by decide) (fun c2 => ?_) (fun c2 => ?_)
    · exact hx
    · omega
  | succ t ih =>
    intro i hi
    refine zg_iload_n (i := 2) dX3_output_15 rfl rfl ?_
    refine zg_bipush (v := nI 20) dX3_output_16 (by decide) ?_
    first | with_reducible refine zg_icmpN_ge (tgt := 49) dX3_output_18 (by decide) (by omega) (by omega) (fun c2 => ?_) (fun c2 => ?_) | refine zg_icmp_ge (tgt := 49) dX3_output_18 (by decide) (fun c2 => ?_) (fun c2 => ?_)
    · omega
    · refine zg_aload_n (i := 0) dX3_output_21 rfl rfl ?_
      refine zg_getR dX3_output_22 flX3_7 (by decide) (by assumption) (by assumption) (by assumption) ?_
      refine zg_sipush (v := nI 267) dX3_output_25 (by decide) ?_
      refine zg_iload_n (i := 2) dX3_output_28 rfl rfl ?_
      first | with_reducible refine zg_iaddN dX3_output_29 ?_ | refine zg_iadd dX3_output_29 ?_
      refine zg_aload_n (i := 0) dX3_output_30 rfl rfl ?_
      refine zg_getR dX3_output_31 flX3_7 (by decide) (by assumption) (by assumption) (by assumption) ?_
      refine zg_sipush (v := nI 267) dX3_output_34 (by decide) ?_
      refine zg_iload_n (i := 2) dX3_output_37 rfl rfl ?_
      first | with_reducible refine zg_iaddN dX3_output_38 ?_ | refine zg_iadd dX3_output_38 ?_
      refine zg_iconst (v := nI 1) dX3_output_39 (by decide) ?_
      first | with_reducible refine zg_iaddN dX3_output_40 ?_ | refine zg_iadd dX3_output_40 ?_
      first | with_reducible refine zg_ialdR dX3_output_41 (by assumption) (by assumption) rfl (by omega) (by decide) ?_ | refine zg_iald dX3_output_41 (by assumption) (by assumption) rfl (by omega) (by decide) ?_
      refine zg_val (y := v (269 + i)) (by rw [show 267 + (1 + i) + 1 = 269 + i by omega, qmv_at _ _ _ _ (by omega)]) ?_
      first | with_reducible refine zg_iastR dX3_output_42 (by assumption) (by assumption) rfl (by omega) (by decide) ?_ | refine zg_iast dX3_output_42 (by assumption) (by assumption) rfl (by omega) (by decide) ?_
      rw [show 267 + (1 + i) = 269 + i - 1 by omega, qmv_1 v i (by omega)]
      refine zg_iinc1 (L2 := [_, _, _]) dX3_output_43 (by decide) rfl rfl ?_
      refine zg_goto (tgt := 15) dX3_output_46 (by decide) ?_
      exact ih (i + 1) (by omega)
set_option maxRecDepth 20000 in
theorem cm_output {S : zS} {m : Nat} (hS : MS S m) (mu : zU) {v : Nat → Int32} {n : Nat} (hn : n ≤ 20) (hv : v 267 = nI n) (x : Int32) : zM yX3_output cX3_output 3 none 0 0 0 [.inr (m + 1), .inl x] S (zrow mu (m + 1) v) (zPv S (fun mu2 => mu2 = zrow mu (m + 1) (qout v x))) := by
  obtain ⟨⟨hN, k0, k1, -⟩, r0, -⟩ := id hS
  have hN0 : m < S.1 := by omega
  have hN1 : m + 1 < S.1 := by omega
  refine zM.ofG (by decide +kernel) (Nat.le_of_ble_eq_true rfl) ?_
  refine zg_aload_n (i := 0) dX3_output_0 rfl rfl ?_
  refine zg_getR dX3_output_1 flX3_7 (by decide) (by assumption) (by assumption) (by assumption) ?_
  refine zg_sipush (v := nI 267) dX3_output_4 (by decide) ?_
  first | with_reducible refine zg_ialdR dX3_output_7 (by assumption) (by assumption) rfl (by omega) (by decide) ?_ | refine zg_iald dX3_output_7 (by assumption) (by assumption) rfl (by omega) (by decide) ?_
  refine zg_val hv ?_
  refine zg_bipush (v := nI 20) dX3_output_8 (by decide) ?_
  first | with_reducible refine zg_icmpN_ne (tgt := 61) dX3_output_10 (by decide) (by omega) (by omega) (fun c => ?_) (fun c => ?_) | refine zg_icmp_ne (tgt := 61) dX3_output_10 (by decide) (fun c => ?_) (fun c => ?_)
  · exact lm_out61 hS mu (n := n) (by omega) hv _ ⟨rfl, rfl, by rw [qout, qout1, zn_of hv (by omega), if_neg c]⟩
  · subst c
    refine zg_iconst (v := nI 1) dX3_output_13 (by decide) ?_
    refine zg_istore_n (i := 2) (L2 := [_, _, _]) dX3_output_14 rfl (by decide) rfl ?_
    refine zg_mu (mu2 := zrow mu (m + 1) (qmv v 269 1 0)) (by rw [qmv_0]) ?_
    refine lm_out15 hS mu _ ?_ 19 0 rfl
    refine zg_aload_n (i := 0) dX3_output_49 rfl rfl ?_
    refine zg_getR dX3_output_50 flX3_7 (by decide) (by assumption) (by assumption) (by assumption) ?_
    refine zg_sipush (v := nI 267) dX3_output_53 (by decide) ?_
    refine zg_dup2 dX3_output_56 ?_
    first | with_reducible refine zg_ialdR dX3_output_57 (by assumption) (by assumption) rfl (by omega) (by decide) ?_ | refine zg_iald dX3_output_57 (by assumption) (by assumption) rfl (by omega) (by decide) ?_
    refine zg_val (y := nI 20) (by rw [qmv, if_neg (by omega)]; exact hv) ?_
    refine zg_iconst (v := nI 1) dX3_output_58 (by decide) ?_
    first | with_reducible refine zg_isubN dX3_output_59 (by omega) ?_ | refine zg_isub dX3_output_59 ?_
    first | with_reducible refine zg_iastR dX3_output_60 (by assumption) (by assumption) rfl (by omega) (by decide) ?_ | refine zg_iast dX3_output_60 (by assumption) (by assumption) rfl (by omega) (by decide) ?_
    refine lm_out61 hS mu (n := 19) (by omega) (upd_s _ _ _) _ ⟨rfl, rfl, ?_⟩
    show zrow _ _ _ = zrow _ _ _
    rw [qout, qout1, zn_of hv (by omega), if_pos rfl]
    congr 2
    funext j
    unfold upd qmv
    by_cases h1 : j = 267
    · subst h1; simp
    · rw [if_neg h1]
      by_cases h2 : 268 ≤ j ∧ j < 287
      · rw [if_pos (by omega), if_pos h2]
      · rw [if_neg (by omega), if_neg h2, if_neg h1]
set_option maxRecDepth 20000 in
theorem lm_in29 {S : zS} {m : Nat} (hS : MS S m) (mu : zU) {v : Nat → Int32} {p n : Nat} {x : Int32} (hn : n ≤ 16) (h1n : 1 ≤ n) (hv : v 250 = nI n) (Ph : Option zV → zS → zU → Prop) (hx : zG RX3 "input" cX3_input 4 none (zroom 3 0 0) 0 0 Ph 69 [some (.inr (m + 1)), some (.inl (nI p)), some (.inl x), some (.inl (nI n))] [] S (zrow mu (m + 1) (qmv v 252 1 (n - 1))) 0 0) :
    ∀ (t i : Nat), i + t + 1 = n → zG RX3 "input" cX3_input 4 none (zroom 3 0 0) 0 0 Ph 29 [some (.inr (m + 1)), some (.inl (nI p)), some (.inl x), some (.inl (nI (1 + i)))] [] S (zrow mu (m + 1) (qmv v 252 1 i)) 0 0 := by
  obtain ⟨⟨hN, k0, k1, -⟩, r0, -⟩ := id hS
  have hN0 : m < S.1 := by omega
  have hN1 : m + 1 < S.1 := by omega
  intro t
  induction t with
  | zero =>
    intro i hi
    obtain rfl : n = i + 1 := by omega
    refine zg_iload_n (i := 3) dX3_input_29 rfl rfl ?_
    refine zg_aload_n (i := 0) dX3_input_30 rfl rfl ?_
    refine zg_getR dX3_input_31 flX3_7 (by decide) (by assumption) (by assumption) (by assumption) ?_
    refine zg_sipush (v := nI 250) dX3_input_34 (by decide) ?_
    first | with_reducible refine zg_ialdR dX3_input_37 (by assumption) (by assumption) rfl (by omega) (by decide) ?_ | refine zg_iald dX3_input_37 (by assumption) (by assumption) rfl (by omega) (by decide) ?_
    refine zg_val (y := nI (i + 1)) (by rw [qmv, if_neg (by omega)]; exact hv) ?_
    first | with_reducible refine zg_icmpN_ge (tgt := 69) dX3_input_38 (by decide) (by omega) (by omega) (fun c2 => ?_) (fun c2 => ?_) | refine zg_icmp_ge (tgt := 69) dX3_input_38 (by decide) (fun c2 => ?_) (fun c2 => ?_)
    · rw [show 1 + i = i + 1 by omega]; exact hx
    · omega
  | succ t ih =>
    intro i hi
    refine zg_iload_n (i := 3) dX3_input_29 rfl rfl ?_
    refine zg_aload_n (i := 0) dX3_input_30 rfl rfl ?_
    refine zg_getR dX3_input_31 flX3_7 (by decide) (by assumption) (by assumption) (by assumption) ?_
    refine zg_sipush (v := nI 250) dX3_input_34 (by decide) ?_
    first | with_reducible refine zg_ialdR dX3_input_37 (by assumption) (by assumption) rfl (by omega) (by decide) ?_ | refine zg_iald dX3_input_37 (by assumption) (by assumption) rfl (by omega) (by decide) ?_
    refine zg_val (y := nI n) (by rw [qmv, if_neg (by omega)]; exact hv) ?_
    first | with_reducible refine zg_icmpN_ge (tgt := 69) dX3_input_38 (by decide) (by omega) (by omega) (fun c2 => ?_) (fun c2 => ?_) | refine zg_icmp_ge (tgt := 69) dX3_input_38 (by decide) (fun c2 => ?_) (fun c2 => ?_)
    · omega
    · refine zg_aload_n (i := 0) dX3_input_41 rfl rfl ?_
      refine zg_getR dX3_input_42 flX3_7 (by decide) (by assumption) (by assumption) (by assumption) ?_
      refine zg_sipush (v := nI 250) dX3_input_45 (by decide) ?_
      refine zg_iload_n (i := 3) dX3_input_48 rfl rfl ?_
      first | with_reducible refine zg_iaddN dX3_input_49 ?_ | refine zg_iadd dX3_input_49 ?_
      refine zg_aload_n (i := 0) dX3_input_50 rfl rfl ?_
      refine zg_getR dX3_input_51 flX3_7 (by decide) (by assumption) (by assumption) (by assumption) ?_
      refine zg_sipush (v := nI 250) dX3_input_54 (by decide) ?_
      refine zg_iload_n (i := 3) dX3_input_57 rfl rfl ?_
      first | with_reducible refine zg_iaddN dX3_input_58 ?_ | refine zg_iadd dX3_input_58 ?_
      refine zg_iconst (v := nI 1) dX3_input_59 (by decide) ?_
      first | with_reducible refine zg_iaddN dX3_input_60 ?_ | refine zg_iadd dX3_input_60 ?_
      first | with_reducible refine zg_ialdR dX3_input_61 (by assumption) (by assumption) rfl (by omega) (by decide) ?_ | refine zg_iald dX3_input_61 (by assumption) (by assumption) rfl (by omega) (by decide) ?_
      refine zg_val (y := v (252 + i)) (by rw [show 250 + (1 + i) + 1 = 252 + i by omega, qmv_at _ _ _ _ (by omega)]) ?_
      first | with_reducible refine zg_iastR dX3_input_62 (by assumption) (by assumption) rfl (by omega) (by decide) ?_ | refine zg_iast dX3_input_62 (by assumption) (by assumption) rfl (by omega) (by decide) ?_
      rw [show 250 + (1 + i) = 252 + i - 1 by omega, qmv_1 v i (by omega)]
      refine zg_iinc1 (L2 := [_, _, _, _]) dX3_input_63 (by decide) rfl rfl ?_
      refine zg_goto (tgt := 29) dX3_input_66 (by decide) ?_
      exact ih (i + 1) (by omega)
theorem qinV_eq (v : Nat → Int32) {n : Nat} (h : 1 ≤ n) : upd (upd (qmv v 252 1 (n - 1)) (250 + n) (nI 0)) 250 (nI (n - 1)) = qinV v n := by
  funext j
  unfold upd qmv qinV
  by_cases h1 : j = 250
  · subst h1
    rw [if_pos rfl, if_neg (by omega), if_neg (by omega), if_pos rfl]
  · rw [if_neg h1]
    by_cases h2 : j = 250 + n
    · rw [if_pos h2, if_neg (by omega), if_pos h2]; rfl
    · rw [if_neg h2]
      by_cases h3 : 251 ≤ j ∧ j < 250 + n
      · rw [if_pos (by omega), if_pos h3]
      · rw [if_neg (by omega), if_neg h3, if_neg h2, if_neg h1]
theorem PI_out {v w : Nat → Int32} {o x y dr ss sl ns s0 s1 s2 : Nat} (h : PI v o x y dr ss sl ns s0 s1 s2) (hw : ∀ j, o ≤ j → j < o + 25 → w j = v j) : PI w o x y dr ss sl ns s0 s1 s2 := by
  obtain ⟨e0, e1, e2, e3, e4, e5, e6, e7, e8, bb, e9⟩ := h
  exact ⟨(hw _ (by omega) (by omega)).trans e0, (hw _ (by omega) (by omega)).trans e1, (hw _ (by omega) (by omega)).trans e2, (hw _ (by omega) (by omega)).trans e3, (hw _ (by omega) (by omega)).trans e4, (hw _ (by omega) (by omega)).trans e5, (hw _ (by omega) (by omega)).trans e6, (hw _ (by omega) (by omega)).trans e7, (hw _ (by omega) (by omega)).trans e8, bb, fun j h1 h2 => (hw _ (by omega) (by omega)).trans (e9 j h1 h2)⟩
set_option maxRecDepth 20000 in
theorem cm_input {S : zS} {m : Nat} (hS : MS S m) (mu : zU) {v : Nat → Int32} {p x y dr ss sl ns s0 s1 s2 n : Nat} (hp : p < 4) (hP : PI v (150 + 25 * p) x y dr ss sl ns s0 s1 s2) (hn : n ≤ 16) (hv : v 250 = nI n) : zM yX3_input cX3_input 4 none 3 0 0 [.inr (m + 1), .inl (nI p)] S (zrow mu (m + 1) v) (zPv S (fun mu2 => mu2 = zrow mu (m + 1) (qin v (150 + 25 * p)))) := by
  obtain ⟨⟨hN, k0, k1, -⟩, r0, -⟩ := id hS
  have hN0 : m < S.1 := by omega
  have hN1 : m + 1 < S.1 := by omega
  refine zM.ofG (by decide +kernel) (Nat.le_of_ble_eq_true rfl) ?_
  refine zg_aload_n (i := 0) dX3_input_0 rfl rfl ?_
  refine zg_getR dX3_input_1 flX3_7 (by decide) (by assumption) (by assumption) (by assumption) ?_
  refine zg_sipush (v := nI 250) dX3_input_4 (by decide) ?_
  first | with_reducible refine zg_ialdR dX3_input_7 (by assumption) (by assumption) rfl (by omega) (by decide) ?_ | refine zg_iald dX3_input_7 (by assumption) (by assumption) rfl (by omega) (by decide) ?_
  refine zg_val hv ?_
  first | with_reducible refine zg_ifN_ne (tgt := 18) dX3_input_8 (by decide) (by omega) (fun c => ?_) (fun c => ?_) | refine zg_if_ne (tgt := 18) dX3_input_8 (by decide) (fun c => ?_) (fun c => ?_)
  · rw [qin, zn_of hv (by omega), if_neg c]
    refine zg_aload_n (i := 0) dX3_input_18 rfl rfl ?_
    refine zg_getR dX3_input_19 flX3_7 (by decide) (by assumption) (by assumption) (by assumption) ?_
    refine zg_sipush (v := nI 251) dX3_input_22 (by decide) ?_
    first | with_reducible refine zg_ialdR dX3_input_25 (by assumption) (by assumption) rfl (by omega) (by decide) ?_ | refine zg_iald dX3_input_25 (by assumption) (by assumption) rfl (by omega) (by decide) ?_
    refine zg_istore_n (i := 2) (L2 := [_, _, _, _]) dX3_input_26 rfl (by decide) rfl ?_
    refine zg_iconst (v := nI 1) dX3_input_27 (by decide) ?_
    refine zg_istore_n (i := 3) (L2 := [_, _, _, _]) dX3_input_28 rfl (by decide) rfl ?_
    refine zg_mu (mu2 := zrow mu (m + 1) (qmv v 252 1 0)) (by rw [qmv_0]) ?_
    refine lm_in29 hS mu hn (by omega) hv _ ?_ (n - 1) 0 (by omega)
    refine zg_aload_n (i := 0) dX3_input_69 rfl rfl ?_
    refine zg_getR dX3_input_70 flX3_7 (by decide) (by assumption) (by assumption) (by assumption) ?_
    refine zg_sipush (v := nI 250) dX3_input_73 (by decide) ?_
    refine zg_aload_n (i := 0) dX3_input_76 rfl rfl ?_
    refine zg_getR dX3_input_77 flX3_7 (by decide) (by assumption) (by assumption) (by assumption) ?_
    refine zg_sipush (v := nI 250) dX3_input_80 (by decide) ?_
    first | with_reducible refine zg_ialdR dX3_input_83 (by assumption) (by assumption) rfl (by omega) (by decide) ?_ | refine zg_iald dX3_input_83 (by assumption) (by assumption) rfl (by omega) (by decide) ?_
    refine zg_val (y := nI n) (by rw [qmv, if_neg (by omega)]; exact hv) ?_
    first | with_reducible refine zg_iaddN dX3_input_84 ?_ | refine zg_iadd dX3_input_84 ?_
    refine zg_iconst (v := nI 0) dX3_input_85 (by decide) ?_
    first | with_reducible refine zg_iastR dX3_input_86 (by assumption) (by assumption) rfl (by omega) (by decide) ?_ | refine zg_iast dX3_input_86 (by assumption) (by assumption) rfl (by omega) (by decide) ?_
    refine zg_aload_n (i := 0) dX3_input_87 rfl rfl ?_
    refine zg_getR dX3_input_88 flX3_7 (by decide) (by assumption) (by assumption) (by assumption) ?_
    refine zg_sipush (v := nI 250) dX3_input_91 (by decide) ?_
    refine zg_dup2 dX3_input_94 ?_
    first | with_reducible refine zg_ialdR dX3_input_95 (by assumption) (by assumption) rfl (by omega) (by decide) ?_ | refine zg_iald dX3_input_95 (by assumption) (by assumption) rfl (by omega) (by decide) ?_
    refine zg_val (y := nI n) (by rw [upd_n (by omega), qmv, if_neg (by omega)]; exact hv) ?_
    refine zg_iconst (v := nI 1) dX3_input_96 (by decide) ?_
    first | with_reducible refine zg_isubN dX3_input_97 (by omega) ?_ | refine zg_isub dX3_input_97 ?_
    first | with_reducible refine zg_iastR dX3_input_98 (by assumption) (by assumption) rfl (by omega) (by decide) ?_ | refine zg_iast dX3_input_98 (by assumption) (by assumption) rfl (by omega) (by decide) ?_
    rw [qinV_eq v (by omega)]
    refine zg_aload_n (i := 0) dX3_input_99 rfl rfl ?_
    refine zg_iload_n (i := 1) dX3_input_100 rfl rfl ?_
    refine zg_iload_n (i := 2) dX3_input_101 rfl rfl ?_
    refine zg_callVv (cm_push hS mu hp (PI_out hP (fun j h1 h2 => by rw [qinV, if_neg (by omega), if_neg (by omega), if_neg (by omega)])) _) dX3_input_102 cvX3_push mlX3_97 rfl (by assumption) (by assumption) rfl (Nat.le_of_ble_eq_true rfl) ⟨by decide, by decide⟩ ⟨Nat.le_refl _, Nat.le_refl _⟩ (fun mu2 h2 => ?_)
    subst h2
    exact zg_vret dX3_input_105 rfl ⟨rfl, rfl, rfl⟩
  · rw [qin, zn_of hv (by omega), if_pos c]
    refine zg_aload_n (i := 0) dX3_input_11 rfl rfl ?_
    refine zg_iload_n (i := 1) dX3_input_12 rfl rfl ?_
    refine zg_iconst (v := nI 2) dX3_input_13 (by decide) ?_
    refine zg_callVv (cm_turn hS mu hp hP (n := 2) (by omega)) dX3_input_14 cvX3_turn mlX3_93 rfl (by assumption) (by assumption) rfl (Nat.le_of_ble_eq_true rfl) ⟨by decide, by decide⟩ ⟨Nat.le_refl _, Nat.le_refl _⟩ (fun mu2 h2 => ?_)
    subst h2
    exact zg_vret dX3_input_17 rfl ⟨rfl, rfl, rfl⟩
