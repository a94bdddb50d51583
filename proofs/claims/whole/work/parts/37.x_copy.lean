/-! THE CLASS: copies and comparisons of states -/
set_option maxRecDepth 20000 in
theorem lx_copy40 {S : zS} {b d : Nat} (hS : SS S b) (hSd : SS S d) (hne : b + 19 ≤ d ∨ d + 19 ≤ b) (mu mu1 : zU) {n : Nat} (hn4 : n ≤ 4) (hsrc : zfr mu mu1 b 19) (h4 : mu1 b 4 = nI n) (Ph : Option zV → zS → zU → Prop)
    (hx : ∀ A : zU, zfr mu A b 19 → (∀ q, (q = b ∨ q = b + 1 ∨ q = b + 2 ∨ q = b + 5 ∨ q = b + 6) → A q = mu1 q) → (∀ j, j < n → A (b + 4) j = mu (d + 4) j) → (∀ j, j < n → ∀ v o, PX mu (d + 7 + 3 * j) v o → PX A (b + 7 + 3 * j) v o) → zG RX1 "copyFrom" cX1_copyFrom 3 none (zroom 2 0 0) 0 0 Ph 81 [some (.inr (b + 1)), some (.inr (d + 1)), some (.inl (nI n))] [] S (A) 0 0) :
    ∀ (t i : Nat) (A : zU), i + t = n → zfr mu A b 19 → (∀ q, (q = b ∨ q = b + 1 ∨ q = b + 2 ∨ q = b + 5 ∨ q = b + 6) → A q = mu1 q) → (∀ j, j < i → A (b + 4) j = mu (d + 4) j) → (∀ j, j < i → ∀ v o, PX mu (d + 7 + 3 * j) v o → PX A (b + 7 + 3 * j) v o) → zG RX1 "copyFrom" cX1_copyFrom 3 none (zroom 2 0 0) 0 0 Ph 40 [some (.inr (b + 1)), some (.inr (d + 1)), some (.inl (nI i))] [] S (A) 0 0 := by
  obtain ⟨hN, k0, k1, k2, k3, k4, k5, k6, r0, r1, r2, r3, r5, r7, hp⟩ := id hS
  have hN0 : b < S.1 := by omega
  have hN3 : b + 3 < S.1 := by omega
  have hN4 : b + 4 < S.1 := by omega
  obtain ⟨gN, j0, j1, j2, j3, j4, j5, j6, q0, q1, q2, q3, q5, q7, gp⟩ := id hSd
  have gN0 : d < S.1 := by omega
  have gN3 : d + 3 < S.1 := by omega
  have gN4 : d + 4 < S.1 := by omega
  intro t
  induction t with
  | zero =>
    intro i A hi h1 h2 h3 h5
    obtain rfl : i = n := by omega
    refine zg_iload_n (i := 2) dX1_copyFrom_40 rfl rfl ?_
    refine zg_aload_n (i := 0) dX1_copyFrom_41 rfl rfl ?_
    first | with_reducible refine zg_getIR dX1_copyFrom_42 flX1_34 (by decide) (by assumption) (by assumption) (by omega) ?_ | refine zg_getI dX1_copyFrom_42 flX1_34 (by decide) (by assumption) (by assumption) ?_
    refine zg_val (y := nI i) (by rw [h2 b (Or.inl rfl)]; exact h4) ?_
    first | with_reducible refine zg_icmpN_ge (tgt := 81) dX1_copyFrom_45 (by decide) (by omega) (by omega) (fun c => ?_) (fun c => ?_) | refine zg_icmp_ge (tgt := 81) dX1_copyFrom_45 (by decide) (fun c => ?_) (fun c => ?_)
    · exact hx A h1 h2 h3 h5
    · omega
  | succ t ih =>
    intro i A hi h1 h2 h3 h5
    obtain ⟨rp, hPS⟩ := hp i (by omega)
    obtain ⟨rq, hPSd⟩ := gp i (by omega)
    have kp0 := hPS.2.1
    have kpN : b + 7 + 3 * i < S.1 := by omega
    refine zg_iload_n (i := 2) dX1_copyFrom_40 rfl rfl ?_
    refine zg_aload_n (i := 0) dX1_copyFrom_41 rfl rfl ?_
    first | with_reducible refine zg_getIR dX1_copyFrom_42 flX1_34 (by decide) (by assumption) (by assumption) (by omega) ?_ | refine zg_getI dX1_copyFrom_42 flX1_34 (by decide) (by assumption) (by assumption) ?_
    refine zg_val (y := nI n) (by rw [h2 b (Or.inl rfl)]; exact h4) ?_
    first | with_reducible refine zg_icmpN_ge (tgt := 81) dX1_copyFrom_45 (by decide) (by omega) (by omega) (fun c => ?_) (fun c => ?_) | refine zg_icmp_ge (tgt := 81) dX1_copyFrom_45 (by decide) (fun c => ?_) (fun c => ?_)
    · omega
    · refine zg_aload_n (i := 0) dX1_copyFrom_48 rfl rfl ?_
      refine zg_getR dX1_copyFrom_49 flX1_20 (by decide) (by assumption) (by assumption) (by assumption) ?_
      refine zg_iload_n (i := 2) dX1_copyFrom_52 rfl rfl ?_
      first | refine zg_pald dX1_copyFrom_53 (by assumption) (by assumption) rfl (by omega) (by decide) (by assumption) ?_ | refine zg_sald dX1_copyFrom_53 (by assumption) (by assumption) rfl (by omega) (by decide) (by assumption) ?_
      refine zg_aload_n (i := 1) dX1_copyFrom_54 rfl rfl ?_
      refine zg_getR dX1_copyFrom_55 flX1_20 (by decide) (by assumption) (by assumption) (by assumption) ?_
      refine zg_iload_n (i := 2) dX1_copyFrom_58 rfl rfl ?_
      first | refine zg_pald dX1_copyFrom_59 (by assumption) (by assumption) rfl (by omega) (by decide) (by assumption) ?_ | refine zg_sald dX1_copyFrom_59 (by assumption) (by assumption) rfl (by omega) (by decide) (by assumption) ?_
      refine zg_callVv (cx_copyP hPS hPSd (by omega) A) dX1_copyFrom_60 cvX0_copyFrom mlX1_44 rfl (by assumption) (by assumption) rfl (Nat.le_of_ble_eq_true rfl) ⟨by decide, by decide⟩ ⟨Nat.le_refl _, Nat.le_refl _⟩ (fun A2 hA2 => ?_)
      obtain ⟨hcp, hf2⟩ := hA2
      refine zg_aload_n (i := 0) dX1_copyFrom_63 rfl rfl ?_
      refine zg_getR dX1_copyFrom_64 flX1_24 (by decide) (by assumption) (by assumption) (by assumption) ?_
      refine zg_iload_n (i := 2) dX1_copyFrom_67 rfl rfl ?_
      refine zg_aload_n (i := 1) dX1_copyFrom_68 rfl rfl ?_
      refine zg_getR dX1_copyFrom_69 flX1_24 (by decide) (by assumption) (by assumption) (by assumption) ?_
      refine zg_iload_n (i := 2) dX1_copyFrom_72 rfl rfl ?_
      first | with_reducible refine zg_ialdR dX1_copyFrom_73 (by assumption) (by assumption) rfl (by omega) (by decide) ?_ | refine zg_iald dX1_copyFrom_73 (by assumption) (by assumption) rfl (by omega) (by decide) ?_
      first | with_reducible refine zg_iastR dX1_copyFrom_74 (by assumption) (by assumption) rfl (by omega) (by decide) ?_ | refine zg_iast dX1_copyFrom_74 (by assumption) (by assumption) rfl (by omega) (by decide) ?_
      refine zg_iinc1 (L2 := [_, _, _]) dX1_copyFrom_75 (by decide) rfl rfl ?_
      refine zg_goto (tgt := 40) dX1_copyFrom_78 (by decide) ?_
      have hd4 : A2 (d + 4) = mu (d + 4) := by rw [hf2 _ (by omega), h1 _ (by omega)]
      refine ih (i + 1) _ (by omega) (h1.trans ((zfr_sub hf2 (by omega) (by omega)).trans (zfr_up (by omega) (by omega)))) (fun q hq => ?_) (fun j hj => ?_) (fun j hj v o hPX => ?_)
      · rw [zup_n (by omega), hf2 _ (by omega)]; exact h2 q hq
      · rw [zup_s]
        by_cases hji : j = i
        · rw [hji, upd_s, hd4]
        · rw [upd_n hji, hf2 _ (by omega)]; exact h3 j (by omega)
      · by_cases hji : j = i
        · subst hji
          exact PX_out (hcp v o (PX_out hPX (fun q a c2 => h1 q (by omega)) (fun _ _ _ => rfl))) (fun q a c2 => zup_n (by omega)) (fun _ _ _ => rfl)
        · exact PX_out (h5 j (by omega) v o hPX) (fun q a c2 => by rw [zup_n (by omega), hf2 _ (by omega)]) (fun _ _ _ => rfl)
set_option maxRecDepth 20000 in
theorem cx_copyS {S : zS} {b d : Nat} (hS : SS S b) (hSd : SS S d) (hne : b + 19 ≤ d ∨ d + 19 ≤ b) {mu : zU} {v : Nat → Int32} {ol : List Nat} (hX : SX mu d v ol) : zM yX1_copyFrom cX1_copyFrom 3 none 2 0 0 [.inr (b + 1), .inr (d + 1)] S mu (zPv S (fun mu2 => SX mu2 b v ol ∧ zfr mu mu2 b 19)) := by
  obtain ⟨hN, k0, k1, k2, k3, k4, k5, k6, r0, r1, r2, r3, r5, r7, hp⟩ := id hS
  have hN0 : b < S.1 := by omega
  have hN1 : b + 1 < S.1 := by omega
  have hN2 : b + 2 < S.1 := by omega
  have hN5 : b + 5 < S.1 := by omega
  have hN6 : b + 6 < S.1 := by omega
  obtain ⟨gN, j0, j1, j2, j3, j4, j5, j6, q0, q1, q2, q3, q5, q7, gp⟩ := id hSd
  have gN0 : d < S.1 := by omega
  have gN1 : d + 1 < S.1 := by omega
  have gN2 : d + 2 < S.1 := by omega
  have gN5 : d + 5 < S.1 := by omega
  have gN6 : d + 6 < S.1 := by omega
  obtain ⟨h0, g1, g2, g3, g4, g5, g6, g7, g8, g9, g10, g11⟩ := id hX
  have hl4 := h0.1.2.2
  have hn16 : zn v 250 ≤ 16 := by
    obtain ⟨n2, w1, w2, -⟩ := h0.2.2.2.2.2.2.1
    rw [zn_of w2 (by omega)]; exact w1
  have hn20 : zn v 267 ≤ 20 := by
    obtain ⟨n2, w1, w2, -⟩ := h0.2.2.2.2.2.2.2
    rw [zn_of w2 (by omega)]; exact w1
  refine zM.ofG (by decide +kernel) (Nat.le_of_ble_eq_true rfl) ?_
  refine zg_aload_n (i := 1) dX1_copyFrom_0 rfl rfl ?_
  refine zg_getR dX1_copyFrom_1 flX1_9 (by decide) (by assumption) (by assumption) (by assumption) ?_
  refine zg_iconst (v := nI 0) dX1_copyFrom_4 (by decide) ?_
  refine zg_aload_n (i := 0) dX1_copyFrom_5 rfl rfl ?_
  refine zg_getR dX1_copyFrom_6 flX1_9 (by decide) (by assumption) (by assumption) (by assumption) ?_
  refine zg_iconst (v := nI 0) dX1_copyFrom_9 (by decide) ?_
  refine zg_bipush (v := nI 72) dX1_copyFrom_10 (by decide) ?_
  refine zg_copy dX1_copyFrom_12 mlX1_38 (by assumption) (by assumption) (by assumption) (by assumption) rfl rfl rfl (by omega) (by omega) (by decide) (by decide) ⟨by decide, by decide⟩ ?_
  refine zg_aload_n (i := 1) dX1_copyFrom_15 rfl rfl ?_
  refine zg_getR dX1_copyFrom_16 flX1_15 (by decide) (by assumption) (by assumption) (by assumption) ?_
  refine zg_iconst (v := nI 0) dX1_copyFrom_19 (by decide) ?_
  refine zg_aload_n (i := 0) dX1_copyFrom_20 rfl rfl ?_
  refine zg_getR dX1_copyFrom_21 flX1_15 (by decide) (by assumption) (by assumption) (by assumption) ?_
  refine zg_iconst (v := nI 0) dX1_copyFrom_24 (by decide) ?_
  refine zg_bipush (v := nI 72) dX1_copyFrom_25 (by decide) ?_
  refine zg_copy dX1_copyFrom_27 mlX1_38 (by assumption) (by assumption) (by assumption) (by assumption) rfl rfl rfl (by omega) (by omega) (by decide) (by decide) ⟨by decide, by decide⟩ ?_
  refine zg_aload_n (i := 0) dX1_copyFrom_30 rfl rfl ?_
  refine zg_aload_n (i := 1) dX1_copyFrom_31 rfl rfl ?_
  first | with_reducible refine zg_getIR dX1_copyFrom_32 flX1_34 (by decide) (by assumption) (by assumption) (by omega) ?_ | refine zg_getI dX1_copyFrom_32 flX1_34 (by decide) (by assumption) (by assumption) ?_
  refine zg_val (y := nI ol.length) (by first | (rw [zrow_n (by omega), zrow_n (by omega)]; exact g3.trans h0.1.1) | (rw [zrow_n (by omega)]; exact g3.trans h0.1.1)) ?_
  refine zg_putI dX1_copyFrom_35 flX1_34 (by decide) (by assumption) (by assumption) ?_
  refine zg_iconst (v := nI 0) dX1_copyFrom_38 (by decide) ?_
  refine zg_istore_n (i := 2) (L2 := [_, _, _]) dX1_copyFrom_39 rfl (by decide) rfl ?_
  have hF : ∀ A1 : zU, A1 = zup (zrow (zrow mu (b + 1) (va_cpy (mu (d + 1)) (mu (b + 1)) 0 0 72)) (b + 2) (va_cpy (zrow mu (b + 1) (va_cpy (mu (d + 1)) (mu (b + 1)) 0 0 72) (d + 2)) (zrow mu (b + 1) (va_cpy (mu (d + 1)) (mu (b + 1)) 0 0 72) (b + 2)) 0 0 72)) b 4 (nI ol.length) → zfr mu A1 b 19 ∧ A1 b 4 = nI ol.length ∧ (∀ j, j < 72 → A1 (b + 1) j = v j) ∧ (∀ j, j < 72 → A1 (b + 2) j = v (72 + j)) := by
    intro A1 e
    subst e
    refine ⟨fun q hq => ?_, by rw [zup_s, upd_s], fun j hj => ?_, fun j hj => ?_⟩
    · rw [zup_n (by omega), zrow_n (by omega), zrow_n (by omega)]
    · rw [zup_n (by omega), zrow_n (by omega), zrow_s, va_cpy, if_pos (by omega), ← g1 j hj]
      congr 1
      omega
    · rw [zup_n (by omega), zrow_s, va_cpy, if_pos (by omega), zrow_n (by omega), ← g2 j hj]
      congr 1
      omega
  generalize hA1 : zup (zrow (zrow mu (b + 1) (va_cpy (mu (d + 1)) (mu (b + 1)) 0 0 72)) (b + 2) (va_cpy (zrow mu (b + 1) (va_cpy (mu (d + 1)) (mu (b + 1)) 0 0 72) (d + 2)) (zrow mu (b + 1) (va_cpy (mu (d + 1)) (mu (b + 1)) 0 0 72) (b + 2)) 0 0 72)) b 4 (nI ol.length) = mu1
  obtain ⟨hF0, hF4, hF1, hF2⟩ := hF mu1 hA1.symm
  clear hF hA1
  refine lx_copy40 hS hSd hne mu mu1 hl4 hF0 hF4 _ ?_ ol.length 0 mu1 (by omega) hF0 (fun _ _ => rfl) (fun j hj => absurd hj (by omega)) (fun j hj => absurd hj (by omega))
  intro A hA0 hA1 hA4 hA7
  have hd : ∀ q, d ≤ q → q < d + 19 → A q = mu q := fun q a c => hA0 q (by omega)
  refine zg_aload_n (i := 1) dX1_copyFrom_81 rfl rfl ?_
  refine zg_getR dX1_copyFrom_82 flX1_27 (by decide) (by assumption) (by assumption) (by assumption) ?_
  refine zg_iconst (v := nI 0) dX1_copyFrom_85 (by decide) ?_
  refine zg_aload_n (i := 0) dX1_copyFrom_86 rfl rfl ?_
  refine zg_getR dX1_copyFrom_87 flX1_27 (by decide) (by assumption) (by assumption) (by assumption) ?_
  refine zg_iconst (v := nI 0) dX1_copyFrom_90 (by decide) ?_
  refine zg_bipush (v := nI 16) dX1_copyFrom_91 (by decide) ?_
  refine zg_copy dX1_copyFrom_93 mlX1_38 (by assumption) (by assumption) (by assumption) (by assumption) rfl rfl rfl (by omega) (by omega) (by decide) (by decide) ⟨by decide, by decide⟩ ?_
  refine zg_aload_n (i := 0) dX1_copyFrom_96 rfl rfl ?_
  refine zg_aload_n (i := 1) dX1_copyFrom_97 rfl rfl ?_
  first | with_reducible refine zg_getIR dX1_copyFrom_98 flX1_48 (by decide) (by assumption) (by assumption) (by omega) ?_ | refine zg_getI dX1_copyFrom_98 flX1_48 (by decide) (by assumption) (by assumption) ?_
  refine zg_val (y := mu d 6) (by rw [hd _ (by omega) (by omega)]) ?_
  refine zg_putI dX1_copyFrom_101 flX1_48 (by decide) (by assumption) (by assumption) ?_
  refine zg_aload_n (i := 1) dX1_copyFrom_104 rfl rfl ?_
  refine zg_getR dX1_copyFrom_105 flX1_30 (by decide) (by assumption) (by assumption) (by assumption) ?_
  refine zg_iconst (v := nI 0) dX1_copyFrom_108 (by decide) ?_
  refine zg_aload_n (i := 0) dX1_copyFrom_109 rfl rfl ?_
  refine zg_getR dX1_copyFrom_110 flX1_30 (by decide) (by assumption) (by assumption) (by assumption) ?_
  refine zg_iconst (v := nI 0) dX1_copyFrom_113 (by decide) ?_
  refine zg_bipush (v := nI 20) dX1_copyFrom_114 (by decide) ?_
  refine zg_copy dX1_copyFrom_116 mlX1_38 (by assumption) (by assumption) (by assumption) (by assumption) rfl rfl rfl (by omega) (by omega) (by decide) (by decide) ⟨by decide, by decide⟩ ?_
  refine zg_aload_n (i := 0) dX1_copyFrom_119 rfl rfl ?_
  refine zg_aload_n (i := 1) dX1_copyFrom_120 rfl rfl ?_
  first | with_reducible refine zg_getIR dX1_copyFrom_121 flX1_51 (by decide) (by assumption) (by assumption) (by omega) ?_ | refine zg_getI dX1_copyFrom_121 flX1_51 (by decide) (by assumption) (by assumption) ?_
  refine zg_val (y := mu d 8) (by rw [zup_n (by omega), zrow_n (by omega), hd _ (by omega) (by omega)]) ?_
  refine zg_putI dX1_copyFrom_124 flX1_51 (by decide) (by assumption) (by assumption) ?_
  refine zg_aload_n (i := 0) dX1_copyFrom_127 rfl rfl ?_
  refine zg_aload_n (i := 1) dX1_copyFrom_128 rfl rfl ?_
  first | with_reducible refine zg_getIR dX1_copyFrom_129 flX1_54 (by decide) (by assumption) (by assumption) (by omega) ?_ | refine zg_getI dX1_copyFrom_129 flX1_54 (by decide) (by assumption) (by assumption) ?_
  refine zg_val (y := mu d 9) (by rw [zup_n (by omega), zrow_n (by omega), zup_n (by omega), zrow_n (by omega), hd _ (by omega) (by omega)]) ?_
  refine zg_putI dX1_copyFrom_132 flX1_54 (by decide) (by assumption) (by assumption) ?_
  refine zg_aload_n (i := 0) dX1_copyFrom_135 rfl rfl ?_
  refine zg_aload_n (i := 1) dX1_copyFrom_136 rfl rfl ?_
  first | with_reducible refine zg_getIR dX1_copyFrom_137 flX1_57 (by decide) (by assumption) (by assumption) (by omega) ?_ | refine zg_getI dX1_copyFrom_137 flX1_57 (by decide) (by assumption) (by assumption) ?_
  refine zg_val (y := mu d 10) (by rw [zup_n (by omega), zup_n (by omega), zrow_n (by omega), zup_n (by omega), zrow_n (by omega), hd _ (by omega) (by omega)]) ?_
  refine zg_putI dX1_copyFrom_140 flX1_57 (by decide) (by assumption) (by assumption) ?_
  refine zg_vret dX1_copyFrom_143 rfl ⟨rfl, rfl, ?_⟩
  refine ⟨⟨h0, fun j hj => ?_, fun j hj => ?_, ?_, fun j hj => ?_, ?_, fun j hj => ?_, ?_, fun j hj => ?_, ?_, ?_, fun q hq => ?_⟩, fun q hq => ?_⟩
  · rw [zup_n (by omega), zup_n (by omega), zup_n (by omega), zrow_n (by omega), zup_n (by omega), zrow_n (by omega), hA1 _ (by omega)]; exact hF1 j hj
  · rw [zup_n (by omega), zup_n (by omega), zup_n (by omega), zrow_n (by omega), zup_n (by omega), zrow_n (by omega), hA1 _ (by omega)]; exact hF2 j hj
  · rw [zup_s, upd_n (by omega), zup_s, upd_n (by omega), zup_s, upd_n (by omega), zrow_n (by omega), zup_s, upd_n (by omega), zrow_n (by omega), hA1 _ (by omega), hF4]; exact h0.1.1.symm
  · rw [zup_n (by omega), zup_n (by omega), zup_n (by omega), zrow_n (by omega), zup_n (by omega), zrow_n (by omega), hA4 j hj]; exact g4 j hj
  · rw [zup_s, upd_n (by omega), zup_s, upd_n (by omega), zup_s, upd_n (by omega), zrow_n (by omega), zup_s, upd_s]; exact g5
  · rw [zup_n (by omega), zup_n (by omega), zup_n (by omega), zrow_n (by omega), zup_n (by omega), zrow_s, va_cpy, if_pos (by omega), hd _ (by omega) (by omega), ← g6 j hj]
    congr 1
    omega
  · rw [zup_s, upd_n (by omega), zup_s, upd_n (by omega), zup_s, upd_s]; exact g7
  · rw [zup_n (by omega), zup_n (by omega), zup_n (by omega), zrow_s, va_cpy, if_pos (by omega), zup_n (by omega), zrow_n (by omega), hd _ (by omega) (by omega), ← g8 j hj]
    congr 1
    omega
  · rw [zup_s, upd_n (by omega), zup_s, upd_s]; exact g9
  · rw [zup_s, upd_s]; exact g10
  · exact PX_out (hA7 q hq _ _ (g11 q hq)) (fun p2 a c => by rw [zup_n (by omega), zup_n (by omega), zup_n (by omega), zrow_n (by omega), zup_n (by omega), zrow_n (by omega)]) (fun _ _ _ => rfl)
  · rw [zup_n (by omega), zup_n (by omega), zup_n (by omega), zrow_n (by omega), zup_n (by omega), zrow_n (by omega)]; exact hA0 q hq
