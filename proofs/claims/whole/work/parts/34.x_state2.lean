/-! THE CLASS: output, input, copies of pointers -/
def SXr (mu : zU) (b : Nat) (v : Nat → Int32) (ol : List Nat) : Prop :=
  (∀ j, j < 72 → mu (b + 1) j = v j) ∧ (∀ j, j < 72 → mu (b + 2) j = v (72 + j)) ∧ mu b 4 = v 145 ∧ (∀ j, j < ol.length → mu (b + 4) j = v (146 + j)) ∧ mu b 6 = v 250 ∧ (∀ j, j < zn v 250 → mu (b + 5) j = v (251 + j)) ∧ mu b 8 = v 267 ∧ (∀ j, j < zn v 267 → mu (b + 6) j = v (268 + j)) ∧ mu b 9 = v 288 ∧ mu b 10 = v 144 ∧ ∀ i, i < ol.length → PX mu (b + 7 + 3 * i) v (150 + 25 * i)
set_option maxRecDepth 20000 in
theorem lx_out30 {S : zS} {b : Nat} (hS : SS S b) {mu : zU} {w : Nat → Int32} {ol : List Nat} {n : Nat} {x : Int32} (hr : SXr mu b w ol) (hl4 : ol.length ≤ 4) (hn : n < 20) (hin : zn w 250 ≤ 16) (hw : w 267 = nI n) (hV : VI (qout2 w x) ol) (Ph : Option zV → zS → zU → Prop) (hx : ∀ mu2, SX mu2 b (qout2 w x) ol → zfr mu mu2 b 19 → Ph none S mu2) :
    zG RX1 "addOutput" cX1_addOutput 2 none (zroom 1 0 0) 0 0 Ph 30 [some (.inr (b + 1)), some (.inl x)] [] S (mu) 0 0 := by
  obtain ⟨hN, k0, k1, k2, k3, k4, k5, k6, r0, r1, r2, r3, r5, r7, hp⟩ := id hS
  have hN0 : b < S.1 := by omega
  have hN6 : b + 6 < S.1 := by omega
  obtain ⟨g1, g2, g3, g4, g5, g6, g7, g8, g9, g10, g11⟩ := hr
  have f8 : mu b 8 = nI n := g7.trans hw
  have eq2 : qout2 w x = upd (upd (upd w 267 (nI (n + 1))) (268 + n) x) 288 (w 288 + 1) := by rw [qout2, zn_of hw (by omega)]
  refine zg_aload_n (i := 0) dX1_addOutput_30 rfl rfl ?_
  refine zg_getR dX1_addOutput_31 flX1_30 (by decide) (by assumption) (by assumption) (by assumption) ?_
  refine zg_aload_n (i := 0) dX1_addOutput_34 rfl rfl ?_
  first | with_reducible refine zg_getIR dX1_addOutput_35 flX1_51 (by decide) (by assumption) (by assumption) (by omega) ?_ | refine zg_getI dX1_addOutput_35 flX1_51 (by decide) (by assumption) (by assumption) ?_
  refine zg_val f8 ?_
  refine zg_iload_n (i := 1) dX1_addOutput_38 rfl rfl ?_
  first | with_reducible refine zg_iastR dX1_addOutput_39 (by assumption) (by assumption) rfl (by omega) (by decide) ?_ | refine zg_iast dX1_addOutput_39 (by assumption) (by assumption) rfl (by omega) (by decide) ?_
  refine zg_aload_n (i := 0) dX1_addOutput_40 rfl rfl ?_
  refine zg_dup dX1_addOutput_41 ?_
  first | with_reducible refine zg_getIR dX1_addOutput_42 flX1_51 (by decide) (by assumption) (by assumption) (by omega) ?_ | refine zg_getI dX1_addOutput_42 flX1_51 (by decide) (by assumption) (by assumption) ?_
  refine zg_val (y := nI n) (by rw [zup_n (by omega)]; exact f8) ?_
  refine zg_iconst (v := nI 1) dX1_addOutput_45 (by decide) ?_
  first | with_reducible refine zg_iaddN dX1_addOutput_46 ?_ | refine zg_iadd dX1_addOutput_46 ?_
  refine zg_putI dX1_addOutput_47 flX1_51 (by decide) (by assumption) (by assumption) ?_
  refine zg_aload_n (i := 0) dX1_addOutput_50 rfl rfl ?_
  refine zg_dup dX1_addOutput_51 ?_
  first | with_reducible refine zg_getIR dX1_addOutput_52 flX1_54 (by decide) (by assumption) (by assumption) (by omega) ?_ | refine zg_getI dX1_addOutput_52 flX1_54 (by decide) (by assumption) (by assumption) ?_
  refine zg_val (y := mu b 9) (by rw [zup_s, upd_n (by omega), zup_n (by omega)]) ?_
  refine zg_iconst (v := nI 1) dX1_addOutput_55 (by decide) ?_
  first | with_reducible refine zg_iaddN dX1_addOutput_56 ?_ | refine zg_iadd dX1_addOutput_56 ?_
  refine zg_putI dX1_addOutput_57 flX1_54 (by decide) (by assumption) (by assumption) ?_
  refine zg_vret dX1_addOutput_60 rfl (hx _ ?_ ((zfr_up (by omega) (by omega)).trans ((zfr_up (by omega) (by omega)).trans (zfr_up (by omega) (by omega)))))
  have e250 : zn (qout2 w x) 250 = zn w 250 := by rw [eq2, zn, zn, upd_n (by omega), upd_n (by omega), upd_n (by omega)]
  have e267 : zn (qout2 w x) 267 = n + 1 := zn_of (by rw [eq2, upd_n (by omega), upd_n (by omega), upd_s]) (by omega)
  refine ⟨hV, fun j hj => ?_, fun j hj => ?_, ?_, fun j hj => ?_, ?_, fun j hj => ?_, ?_, fun j hj => ?_, ?_, ?_, fun q hq => ?_⟩
  · rw [zup_n (by omega), zup_n (by omega), zup_n (by omega), eq2, upd_n (by omega), upd_n (by omega), upd_n (by omega)]; exact g1 j hj
  · rw [zup_n (by omega), zup_n (by omega), zup_n (by omega), eq2, upd_n (by omega), upd_n (by omega), upd_n (by omega)]; exact g2 j hj
  · rw [zup_s, upd_n (by omega), zup_s, upd_n (by omega), zup_n (by omega), eq2, upd_n (by omega), upd_n (by omega), upd_n (by omega)]; exact g3
  · rw [zup_n (by omega), zup_n (by omega), zup_n (by omega), eq2, upd_n (by omega), upd_n (by omega), upd_n (by omega)]; exact g4 j hj
  · rw [zup_s, upd_n (by omega), zup_s, upd_n (by omega), zup_n (by omega), eq2, upd_n (by omega), upd_n (by omega), upd_n (by omega)]; exact g5
  · rw [e250] at hj; rw [zup_n (by omega), zup_n (by omega), zup_n (by omega), eq2, upd_n (by omega), upd_n (by omega), upd_n (by omega)]; exact g6 j hj
  · rw [zup_s, upd_n (by omega), zup_s, upd_s, eq2, upd_n (by omega), upd_n (by omega), upd_s]
  · rw [e267] at hj
    rw [zup_n (by omega), zup_n (by omega), zup_s, eq2, upd_n (show 268 + j ≠ 288 by omega)]
    by_cases hjn : j = n
    · rw [hjn, upd_s, upd_s]
    · rw [upd_n hjn, upd_n (by omega), upd_n (by omega)]; exact g8 j (by rw [zn_of hw (by omega)]; omega)
  · rw [zup_s, upd_s, eq2, upd_s, g9, n1]
  · rw [zup_s, upd_n (by omega), zup_s, upd_n (by omega), zup_n (by omega), eq2, upd_n (by omega), upd_n (by omega), upd_n (by omega)]; exact g10
  · exact PX_out (g11 q hq) (fun p2 a c => by rw [zup_n (by omega), zup_n (by omega), zup_n (by omega)]) (fun j a c => by rw [eq2, upd_n (by omega), upd_n (by omega), upd_n (by omega)])
set_option maxRecDepth 20000 in
theorem cx_addOutput {S : zS} {b : Nat} (hS : SS S b) {mu : zU} {v : Nat → Int32} {ol : List Nat} (hX : SX mu b v ol) (x : Int32) : zM yX1_addOutput cX1_addOutput 2 none 1 0 0 [.inr (b + 1), .inl x] S mu (zPv S (fun mu2 => SX mu2 b (qout v x) ol ∧ zfr mu mu2 b 19)) := by
  obtain ⟨hN, k0, k1, k2, k3, k4, k5, k6, r0, r1, r2, r3, r5, r7, hp⟩ := id hS
  have hN0 : b < S.1 := by omega
  have hN6 : b + 6 < S.1 := by omega
  have hl4 := hX.1.1.2.2
  have hVq := VI_qout hX.1 x
  obtain ⟨n, hn20, hv, -⟩ := hX.1.2.2.2.2.2.2.2
  have hin : zn v 250 ≤ 16 := by
    obtain ⟨n2, q1, q2, -⟩ := hX.1.2.2.2.2.2.2.1
    rw [zn_of q2 (by omega)]; exact q1
  have f8 : mu b 8 = nI n := hX.2.2.2.2.2.2.2.1.trans hv
  refine zM.ofG (by decide +kernel) (Nat.le_of_ble_eq_true rfl) ?_
  rw [qout] at hVq ⊢
  refine zg_aload_n (i := 0) dX1_addOutput_0 rfl rfl ?_
  first | with_reducible refine zg_getIR dX1_addOutput_1 flX1_51 (by decide) (by assumption) (by assumption) (by omega) ?_ | refine zg_getI dX1_addOutput_1 flX1_51 (by decide) (by assumption) (by assumption) ?_
  refine zg_val f8 ?_
  refine zg_bipush (v := nI 20) dX1_addOutput_4 (by decide) ?_
  first | with_reducible refine zg_icmpN_lt (tgt := 30) dX1_addOutput_6 (by decide) (by omega) (by omega) (fun c => ?_) (fun c => ?_) | refine zg_icmp_lt (tgt := 30) dX1_addOutput_6 (by decide) (fun c => ?_) (fun c => ?_)
  · have e1 : qout1 v = v := by rw [qout1, zn_of hv (by omega), if_neg (by omega)]
    rw [e1] at hVq ⊢
    exact lx_out30 hS hX.2 hl4 c hin hv hVq _ (fun mu2 h1 h2 => ⟨rfl, rfl, h1, h2⟩)
  · obtain rfl : n = 20 := by omega
    have e1 : qout1 v = fun j => if 268 ≤ j ∧ j < 287 then v (j + 1) else if j = 267 then nI 19 else v j := by rw [qout1, zn_of hv (by omega), if_pos rfl]
    have eo : ∀ j, (j < 267 ∨ 287 ≤ j) → qout1 v j = v j := fun j hj => by rw [e1]; show (if _ then _ else _) = _; rw [if_neg (by omega), if_neg (by omega)]
    have e19 : qout1 v 267 = nI 19 := by rw [e1]; show (if _ then _ else _) = _; rw [if_neg (by omega), if_pos rfl]
    obtain ⟨h0, g1, g2, g3, g4, g5, g6, g7, g8, g9, g10, g11⟩ := id hX
    rw [zn_of hv (by omega)] at g8
    refine zg_aload_n (i := 0) dX1_addOutput_9 rfl rfl ?_
    refine zg_getR dX1_addOutput_10 flX1_30 (by decide) (by assumption) (by assumption) (by assumption) ?_
    refine zg_iconst (v := nI 1) dX1_addOutput_13 (by decide) ?_
    refine zg_aload_n (i := 0) dX1_addOutput_14 rfl rfl ?_
    refine zg_getR dX1_addOutput_15 flX1_30 (by decide) (by assumption) (by assumption) (by assumption) ?_
    refine zg_iconst (v := nI 0) dX1_addOutput_18 (by decide) ?_
    refine zg_bipush (v := nI 19) dX1_addOutput_19 (by decide) ?_
    refine zg_copy dX1_addOutput_21 mlX1_38 (by assumption) (by assumption) (by assumption) (by assumption) rfl rfl rfl (by omega) (by omega) (by decide) (by decide) ⟨by decide, by decide⟩ ?_
    refine zg_aload_n (i := 0) dX1_addOutput_24 rfl rfl ?_
    refine zg_bipush (v := nI 19) dX1_addOutput_25 (by decide) ?_
    refine zg_putI dX1_addOutput_27 flX1_51 (by decide) (by assumption) (by assumption) ?_
    have hfr : zfr mu (zup (zrow mu (b + 6) (va_cpy (mu (b + 6)) (mu (b + 6)) 1 0 19)) b 8 (nI 19)) b 19 := fun q hq => by rw [zup_n (by omega), zrow_n (by omega)]
    refine lx_out30 hS (w := qout1 v) (n := 19) ⟨fun j hj => ?_, fun j hj => ?_, ?_, fun j hj => ?_, ?_, fun j hj => ?_, ?_, fun j hj => ?_, ?_, ?_, fun q hq => ?_⟩ hl4 (by omega) (by rw [zn, eo 250 (by omega)]; exact hin) e19 hVq _ (fun mu2 h1 h2 => ⟨rfl, rfl, h1, hfr.trans h2⟩)
    · rw [zup_n (by omega), zrow_n (by omega), eo _ (by omega)]; exact g1 j hj
    · rw [zup_n (by omega), zrow_n (by omega), eo _ (by omega)]; exact g2 j hj
    · rw [zup_s, upd_n (by omega), zrow_n (by omega), eo _ (by omega)]; exact g3
    · rw [zup_n (by omega), zrow_n (by omega), eo _ (by omega)]; exact g4 j hj
    · rw [zup_s, upd_n (by omega), zrow_n (by omega), eo _ (by omega)]; exact g5
    · rw [show zn (qout1 v) 250 = zn v 250 by rw [zn, zn, eo _ (by omega)]] at hj
      rw [zup_n (by omega), zrow_n (by omega), eo _ (by omega)]; exact g6 j hj
    · rw [zup_s, upd_s, e19]
    · rw [zn_of e19 (by omega)] at hj
      rw [zup_n (by omega), zrow_s, va_cpy, if_pos (by omega), g8 _ (by omega), e1]
      show _ = (if _ then _ else _)
      rw [if_pos (by omega)]
      congr 1
      omega
    · rw [zup_s, upd_n (by omega), zrow_n (by omega), eo _ (by omega)]; exact g9
    · rw [zup_s, upd_n (by omega), zrow_n (by omega), eo _ (by omega)]; exact g10
    · exact PX_out (g11 q hq) (fun p2 a c => by rw [zup_n (by omega), zrow_n (by omega)]) (fun j a c => eo j (by omega))
set_option maxRecDepth 20000 in
theorem cx_takeInput {S : zS} {b : Nat} (hS : SS S b) {mu : zU} {v : Nat → Int32} {ol : List Nat} {i : Nat} (hX : SX mu b v ol) (hi : i < ol.length) : zM yX1_takeInput cX1_takeInput 3 none 1 0 0 [.inr (b + 1), .inr (b + 7 + 3 * i + 1)] S mu (zPv S (fun mu2 => SX mu2 b (qin v (150 + 25 * i)) ol ∧ zfr mu mu2 b 19)) := by
  have hl4 := hX.1.1.2.2
  obtain ⟨hN, k0, k1, k2, k3, k4, k5, k6, r0, r1, r2, r3, r5, r7, hp⟩ := id hS
  have hN0 : b < S.1 := by omega
  have hN5 : b + 5 < S.1 := by omega
  obtain ⟨-, hPS⟩ := hp i (by omega)
  have kp0 := hPS.2.1
  have kpN : b + 7 + 3 * i < S.1 := by omega
  have hP0 := hX.2.2.2.2.2.2.2.2.2.2.2 i hi
  obtain ⟨n, hn16, hv, -⟩ := hX.1.2.2.2.2.2.2.1
  obtain ⟨h0, g1, g2, g3, g4, g5, g6, g7, g8, g9, g10, g11⟩ := id hX
  have hn20 : zn v 267 ≤ 20 := by
    obtain ⟨n2, q1, q2, -⟩ := h0.2.2.2.2.2.2.2
    rw [zn_of q2 (by omega)]; exact q1
  have f6 : mu b 6 = nI n := g5.trans hv
  rw [zn_of hv (by omega)] at g6
  refine zM.ofG (by decide +kernel) (Nat.le_of_ble_eq_true rfl) ?_
  rw [qin, zn_of hv (by omega)]
  refine zg_aload_n (i := 0) dX1_takeInput_0 rfl rfl ?_
  first | with_reducible refine zg_getIR dX1_takeInput_1 flX1_48 (by decide) (by assumption) (by assumption) (by omega) ?_ | refine zg_getI dX1_takeInput_1 flX1_48 (by decide) (by assumption) (by assumption) ?_
  refine zg_val f6 ?_
  first | with_reducible refine zg_ifN_gt (tgt := 13) dX1_takeInput_4 (by decide) (by omega) (fun c => ?_) (fun c => ?_) | refine zg_if_gt (tgt := 13) dX1_takeInput_4 (by decide) (fun c => ?_) (fun c => ?_)
  · rw [if_neg (by omega)]
    have eo : ∀ j, (j < 250 ∨ 267 ≤ j) → qinV v n j = v j := fun j hj => by rw [qinV, if_neg (by omega), if_neg (by omega), if_neg (by omega)]
    have e250 : qinV v n 250 = nI (n - 1) := by rw [qinV, if_neg (by omega), if_neg (by omega), if_pos rfl]
    refine zg_aload_n (i := 0) dX1_takeInput_13 rfl rfl ?_
    refine zg_getR dX1_takeInput_14 flX1_27 (by decide) (by assumption) (by assumption) (by assumption) ?_
    refine zg_iconst (v := nI 0) dX1_takeInput_17 (by decide) ?_
    first | with_reducible refine zg_ialdR dX1_takeInput_18 (by assumption) (by assumption) rfl (by omega) (by decide) ?_ | refine zg_iald dX1_takeInput_18 (by assumption) (by assumption) rfl (by omega) (by decide) ?_
    refine zg_val (y := v 251) (g6 0 (by omega)) ?_
    refine zg_istore_n (i := 2) (L2 := [_, _, _]) dX1_takeInput_19 rfl (by decide) rfl ?_
    refine zg_aload_n (i := 0) dX1_takeInput_20 rfl rfl ?_
    refine zg_dup dX1_takeInput_21 ?_
    first | with_reducible refine zg_getIR dX1_takeInput_22 flX1_48 (by decide) (by assumption) (by assumption) (by omega) ?_ | refine zg_getI dX1_takeInput_22 flX1_48 (by decide) (by assumption) (by assumption) ?_
    refine zg_val f6 ?_
    refine zg_iconst (v := nI 1) dX1_takeInput_25 (by decide) ?_
    first | with_reducible refine zg_isubN dX1_takeInput_26 (by omega) ?_ | refine zg_isub dX1_takeInput_26 ?_
    refine zg_putI dX1_takeInput_27 flX1_48 (by decide) (by assumption) (by assumption) ?_
    refine zg_aload_n (i := 0) dX1_takeInput_30 rfl rfl ?_
    refine zg_getR dX1_takeInput_31 flX1_27 (by decide) (by assumption) (by assumption) (by assumption) ?_
    refine zg_iconst (v := nI 1) dX1_takeInput_34 (by decide) ?_
    refine zg_aload_n (i := 0) dX1_takeInput_35 rfl rfl ?_
    refine zg_getR dX1_takeInput_36 flX1_27 (by decide) (by assumption) (by assumption) (by assumption) ?_
    refine zg_iconst (v := nI 0) dX1_takeInput_39 (by decide) ?_
    refine zg_aload_n (i := 0) dX1_takeInput_40 rfl rfl ?_
    first | with_reducible refine zg_getIR dX1_takeInput_41 flX1_48 (by decide) (by assumption) (by assumption) (by omega) ?_ | refine zg_getI dX1_takeInput_41 flX1_48 (by decide) (by assumption) (by assumption) ?_
    refine zg_val (y := nI (n - 1)) (by rw [zup_s, upd_s]) ?_
    refine zg_copy dX1_takeInput_44 mlX1_38 (by assumption) (by assumption) (by assumption) (by assumption) rfl rfl rfl (by omega) (by omega) (by decide) (by decide) ⟨by decide, by decide⟩ ?_
    have hSX2 : SX (zrow (zup mu b 6 (nI (n - 1))) (b + 5) (va_cpy (zup mu b 6 (nI (n - 1)) (b + 5)) (zup mu b 6 (nI (n - 1)) (b + 5)) 1 0 (n - 1))) b (qinV v n) ol := by
      refine SX_rest hX (VI_qinV h0 (by omega) hn16 hv) (fun q a c => by rw [zrow_n (by omega), zup_n (by omega)]) (fun j a c => eo j (by omega)) (fun j hj => ?_) (fun j hj => ?_) ?_ (fun j hj => ?_) ?_ (fun j hj => ?_) ?_ (fun j hj => ?_) ?_ ?_
      · rw [zrow_n (by omega), zup_n (by omega), eo _ (by omega)]; exact g1 j hj
      · rw [zrow_n (by omega), zup_n (by omega), eo _ (by omega)]; exact g2 j hj
      · rw [zrow_n (by omega), zup_s, upd_n (by omega), eo _ (by omega)]; exact g3
      · rw [zrow_n (by omega), zup_n (by omega), eo _ (by omega)]; exact g4 j hj
      · rw [zrow_n (by omega), zup_s, upd_s, e250]
      · rw [zn_of e250 (by omega)] at hj
        rw [zrow_s, va_cpy, if_pos (by omega), zup_n (by omega), g6 _ (by omega), qinV, if_pos (by omega)]
        congr 1
        omega
      · rw [zrow_n (by omega), zup_s, upd_n (by omega), eo _ (by omega)]; exact g7
      · rw [show zn (qinV v n) 267 = zn v 267 by rw [zn, zn, eo _ (by omega)]] at hj
        rw [zrow_n (by omega), zup_n (by omega), eo _ (by omega)]; exact g8 j hj
      · rw [zrow_n (by omega), zup_s, upd_n (by omega), eo _ (by omega)]; exact g9
      · rw [zrow_n (by omega), zup_s, upd_n (by omega), eo _ (by omega)]; exact g10
    have hfr : zfr mu (zrow (zup mu b 6 (nI (n - 1))) (b + 5) (va_cpy (zup mu b 6 (nI (n - 1)) (b + 5)) (zup mu b 6 (nI (n - 1)) (b + 5)) 1 0 (n - 1))) b 19 := fun q hq => by rw [zrow_n (by omega), zup_n (by omega)]
    generalize zrow (zup mu b 6 (nI (n - 1))) (b + 5) (va_cpy (zup mu b 6 (nI (n - 1)) (b + 5)) (zup mu b 6 (nI (n - 1)) (b + 5)) 1 0 (n - 1)) = mu3 at *
    have hP3 := hSX2.2.2.2.2.2.2.2.2.2.2.2 i hi
    refine zg_aload_n (i := 1) dX1_takeInput_47 rfl rfl ?_
    refine zg_iload_n (i := 2) dX1_takeInput_48 rfl rfl ?_
    refine zg_callVv (cx_push hPS hP3 _) dX1_takeInput_49 cvX0_push mlX1_114 rfl (by assumption) (by assumption) rfl (Nat.le_of_ble_eq_true rfl) ⟨by decide, by decide⟩ ⟨Nat.le_refl _, Nat.le_refl _⟩ (fun mu5 h5 => ?_)
    have hPO5 := PO_push hP3.px1 (v 251)
    exact zg_vret dX1_takeInput_52 rfl ⟨rfl, rfl, ⟨SX_ptr hSX2 hi h5.2 (fun j hj => hPO5.1 j (by omega)) h5.1, hfr.trans (zfr_sub h5.2 (by omega) (by omega))⟩⟩
  · rw [if_pos (by omega)]
    refine zg_aload_n (i := 1) dX1_takeInput_7 rfl rfl ?_
    refine zg_iconst (v := nI 2) dX1_takeInput_8 (by decide) ?_
    refine zg_callVv (cx_turn hPS hP0 (n := 2) (by omega)) dX1_takeInput_9 cvX0_turn mlX1_121 rfl (by assumption) (by assumption) rfl (Nat.le_of_ble_eq_true rfl) ⟨by decide, by decide⟩ ⟨Nat.le_refl _, Nat.le_refl _⟩ (fun mu2 h2 => ?_)
    have hPO5 := PO_turn hP0.px1 2
    exact zg_vret dX1_takeInput_12 rfl ⟨rfl, rfl, ⟨SX_ptr hX hi h2.2 (fun j hj => hPO5.1 j (by omega)) h2.1, zfr_sub h2.2 (by omega) (by omega)⟩⟩
set_option maxRecDepth 20000 in
theorem cx_copyP {S : zS} {k k2 : Nat} (hS : PS S k) (hS2 : PS S k2) (hd : k + 3 ≤ k2 ∨ k2 + 3 ≤ k) (mu : zU) : zM yX0_copyFrom cX0_copyFrom 2 none 1 0 0 [.inr (k + 1), .inr (k2 + 1)] S mu (zPv S (fun mu2 => (∀ v o, PX mu k2 v o → PX mu2 k v o) ∧ zfr mu mu2 k 3)) := by
  obtain ⟨hN2, k0, k1, kk2, r5, r7⟩ := hS
  have hN0 : k < S.1 := by omega
  have hN1 : k + 1 < S.1 := by omega
  obtain ⟨hM2, j0, j1, jj2, q5, q7⟩ := hS2
  have hM0 : k2 < S.1 := by omega
  have hM1 : k2 + 1 < S.1 := by omega
  refine zM.ofG (by decide +kernel) (Nat.le_of_ble_eq_true rfl) ?_
  refine zg_aload_n (i := 0) dX0_copyFrom_0 rfl rfl ?_
  refine zg_aload_n (i := 1) dX0_copyFrom_1 rfl rfl ?_
  first | with_reducible refine zg_getIR dX0_copyFrom_2 flX0_22 (by decide) (by assumption) (by assumption) (by omega) ?_ | refine zg_getI dX0_copyFrom_2 flX0_22 (by decide) (by assumption) (by assumption) ?_
  refine zg_putI dX0_copyFrom_5 flX0_22 (by decide) (by assumption) (by assumption) ?_
  refine zg_aload_n (i := 0) dX0_copyFrom_8 rfl rfl ?_
  refine zg_aload_n (i := 1) dX0_copyFrom_9 rfl rfl ?_
  first | with_reducible refine zg_getIR dX0_copyFrom_10 flX0_25 (by decide) (by assumption) (by assumption) (by omega) ?_ | refine zg_getI dX0_copyFrom_10 flX0_25 (by decide) (by assumption) (by assumption) ?_
  refine zg_val (y := mu k2 1) (by rw [zup_n (by omega)]) ?_
  refine zg_putI dX0_copyFrom_13 flX0_25 (by decide) (by assumption) (by assumption) ?_
  refine zg_aload_n (i := 0) dX0_copyFrom_16 rfl rfl ?_
  refine zg_aload_n (i := 1) dX0_copyFrom_17 rfl rfl ?_
  first | with_reducible refine zg_getIR dX0_copyFrom_18 flX0_28 (by decide) (by assumption) (by assumption) (by omega) ?_ | refine zg_getI dX0_copyFrom_18 flX0_28 (by decide) (by assumption) (by assumption) ?_
  refine zg_val (y := mu k2 2) (by rw [zup_n (by omega), zup_n (by omega)]) ?_
  refine zg_putI dX0_copyFrom_21 flX0_28 (by decide) (by assumption) (by assumption) ?_
  refine zg_aload_n (i := 0) dX0_copyFrom_24 rfl rfl ?_
  refine zg_aload_n (i := 1) dX0_copyFrom_25 rfl rfl ?_
  first | with_reducible refine zg_getIR dX0_copyFrom_26 flX0_31 (by decide) (by assumption) (by assumption) (by omega) ?_ | refine zg_getI dX0_copyFrom_26 flX0_31 (by decide) (by assumption) (by assumption) ?_
  refine zg_val (y := mu k2 3) (by rw [zup_n (by omega), zup_n (by omega), zup_n (by omega)]) ?_
  refine zg_putI dX0_copyFrom_29 flX0_31 (by decide) (by assumption) (by assumption) ?_
  refine zg_aload_n (i := 0) dX0_copyFrom_32 rfl rfl ?_
  refine zg_aload_n (i := 1) dX0_copyFrom_33 rfl rfl ?_
  first | with_reducible refine zg_getIR dX0_copyFrom_34 flX0_34 (by decide) (by assumption) (by assumption) (by omega) ?_ | refine zg_getI dX0_copyFrom_34 flX0_34 (by decide) (by assumption) (by assumption) ?_
  refine zg_val (y := mu k2 4) (by rw [zup_n (by omega), zup_n (by omega), zup_n (by omega), zup_n (by omega)]) ?_
  refine zg_putI dX0_copyFrom_37 flX0_34 (by decide) (by assumption) (by assumption) ?_
  refine zg_aload_n (i := 1) dX0_copyFrom_40 rfl rfl ?_
  refine zg_getR dX0_copyFrom_41 flX0_9 (by decide) (by assumption) (by assumption) (by assumption) ?_
  refine zg_iconst (v := nI 0) dX0_copyFrom_44 (by decide) ?_
  refine zg_aload_n (i := 0) dX0_copyFrom_45 rfl rfl ?_
  refine zg_getR dX0_copyFrom_46 flX0_9 (by decide) (by assumption) (by assumption) (by assumption) ?_
  refine zg_iconst (v := nI 0) dX0_copyFrom_49 (by decide) ?_
  refine zg_bipush (v := nI 16) dX0_copyFrom_50 (by decide) ?_
  refine zg_copy dX0_copyFrom_52 mlX0_40 (by assumption) (by assumption) (by assumption) (by assumption) rfl rfl rfl (by omega) (by omega) (by decide) (by decide) ⟨by decide, by decide⟩ ?_
  refine zg_aload_n (i := 0) dX0_copyFrom_55 rfl rfl ?_
  refine zg_aload_n (i := 1) dX0_copyFrom_56 rfl rfl ?_
  first | with_reducible refine zg_getIR dX0_copyFrom_57 flX0_37 (by decide) (by assumption) (by assumption) (by omega) ?_ | refine zg_getI dX0_copyFrom_57 flX0_37 (by decide) (by assumption) (by assumption) ?_
  refine zg_val (y := mu k2 6) (by rw [zrow_n (by omega), zup_n (by omega), zup_n (by omega), zup_n (by omega), zup_n (by omega), zup_n (by omega)]) ?_
  refine zg_putI dX0_copyFrom_60 flX0_37 (by decide) (by assumption) (by assumption) ?_
  refine zg_aload_n (i := 1) dX0_copyFrom_63 rfl rfl ?_
  refine zg_getR dX0_copyFrom_64 flX0_15 (by decide) (by assumption) (by assumption) (by assumption) ?_
  refine zg_iconst (v := nI 0) dX0_copyFrom_67 (by decide) ?_
  refine zg_aload_n (i := 0) dX0_copyFrom_68 rfl rfl ?_
  refine zg_getR dX0_copyFrom_69 flX0_15 (by decide) (by assumption) (by assumption) (by assumption) ?_
  refine zg_iconst (v := nI 0) dX0_copyFrom_72 (by decide) ?_
  refine zg_iconst (v := nI 3) dX0_copyFrom_73 (by decide) ?_
  refine zg_copy dX0_copyFrom_74 mlX0_40 (by assumption) (by assumption) (by assumption) (by assumption) rfl rfl rfl (by omega) (by omega) (by decide) (by decide) ⟨by decide, by decide⟩ ?_
  refine zg_aload_n (i := 0) dX0_copyFrom_77 rfl rfl ?_
  refine zg_aload_n (i := 1) dX0_copyFrom_78 rfl rfl ?_
  first | with_reducible refine zg_getIR dX0_copyFrom_79 flX0_18 (by decide) (by assumption) (by assumption) (by omega) ?_ | refine zg_getI dX0_copyFrom_79 flX0_18 (by decide) (by assumption) (by assumption) ?_
  refine zg_val (y := mu k2 8) (by rw [zrow_n (by omega), zup_n (by omega), zrow_n (by omega), zup_n (by omega), zup_n (by omega), zup_n (by omega), zup_n (by omega), zup_n (by omega)]) ?_
  refine zg_putI dX0_copyFrom_82 flX0_18 (by decide) (by assumption) (by assumption) ?_
  refine zg_vret dX0_copyFrom_85 rfl ⟨rfl, rfl, ?_⟩
  refine ⟨fun v o hX => ?_, fun q hq => ?_⟩
  · obtain ⟨x, y, dr, ss, sl, ns, s0, s1, s2, hP, a0, a1, a2, a3, a4, a5, a6, a7, a8⟩ := hX
    obtain ⟨z5, b1, b2, b3⟩ := hP.ns
    refine ⟨x, y, dr, ss, sl, ns, s0, s1, s2, hP, ?_, ?_, ?_, ?_, ?_, ?_, ?_, fun j hj => ?_, fun j hj => ?_⟩
    · simpa [zup, zrow, upd] using a0
    · simpa [zup, zrow, upd] using a1
    · simpa [zup, zrow, upd] using a2
    · simpa [zup, zrow, upd] using a3
    · simpa [zup, zrow, upd] using a4
    · simpa [zup, zrow, upd] using a5
    · simpa [zup, zrow, upd] using a6
    · rw [zup_n (by omega), zrow_s, va_cpy, if_pos (by omega), zup_n (by omega), zrow_n (by omega), zup_n (by omega), zup_n (by omega), zup_n (by omega), zup_n (by omega), zup_n (by omega), ← a7 j hj]
      congr 1
      omega
    · rw [zup_n (by omega), zrow_n (by omega), zup_n (by omega), zrow_s, va_cpy, if_pos (by omega), zup_n (by omega), zup_n (by omega), zup_n (by omega), zup_n (by omega), zup_n (by omega), ← a8 j hj]
      congr 1
      omega
  · rw [zup_n (by omega), zrow_n (by omega), zup_n (by omega), zrow_n (by omega), zup_n (by omega), zup_n (by omega), zup_n (by omega), zup_n (by omega), zup_n (by omega)]
