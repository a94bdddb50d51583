/-! THE CONSTRUCTORS: a state -/
set_option maxRecDepth 20000 in
theorem cx_X1_init {S : zS} {b : Nat} {mu : zU} (hw : zwf S) (hN : S.1 = b + 1) (hk : S.2.1 b = (0, 1)) (hm : mu b = fun _ => nI 0) : zM yX1_init cX1_init 2 none 2 18 300 [.inr (b + 1)] S mu (fun v T mu2 => v = none ∧ T.1 = b + 19 ∧ zEx S T mu mu2 b ∧ SS T b ∧ SX mu2 b qv0 [0]) := by
  refine zM.ofG (by decide +kernel) (Nat.le_of_ble_eq_true rfl) ?_
  show zG RX1 "<init>" cX1_init 2 none (zroom 2 18 300) 18 300 _ 0 [some (.inr (b + 1)), none] [] S mu 0 0
  have hC := zCN_nil (mu := mu) hw (show b < S.1 by omega)
  refine zg_aload_n (i := 0) dX1_init_0 rfl rfl ?_
  refine zg_obj dX1_init_1 mlX1_3 (by decide) ⟨by decide, by decide⟩ ?_
  refine zg_aload_n (i := 0) dX1_init_4 rfl rfl ?_
  refine zg_bipush (v := nI 72) dX1_init_5 (by decide) ?_
  refine zg_newi dX1_init_7 (by decide) hC.2.1 (zok_r hC.lt (zok_n (zok_nil _))) (zok_r hC.lt (zok_nil _)) (by decide) (by decide) ?_
  refine zg_mk hC dX1_init_9 flX1_9 (by decide) hk rfl rfl (by decide) (fun S mu hC => ?_)
  refine zg_aload_n (i := 0) dX1_init_12 rfl rfl ?_
  refine zg_bipush (v := nI 72) dX1_init_13 (by decide) ?_
  refine zg_newi dX1_init_15 (by decide) hC.2.1 (zok_r hC.lt (zok_n (zok_nil _))) (zok_r hC.lt (zok_nil _)) (by decide) (by decide) ?_
  refine zg_mk hC dX1_init_17 flX1_15 (by decide) hk rfl rfl (by decide) (fun S mu hC => ?_)
  refine zg_aload_n (i := 0) dX1_init_20 rfl rfl ?_
  refine zg_iconst (v := nI 4) dX1_init_21 (by decide) ?_
  refine zg_newp dX1_init_22 clX1_18 (by decide) hC.2.1 (zok_r hC.lt (zok_n (zok_nil _))) (zok_r hC.lt (zok_nil _)) (by decide) (by decide) ?_
  refine zg_mk hC dX1_init_25 flX1_20 (by decide) hk rfl rfl (by decide) (fun S mu hC => ?_)
  refine zg_aload_n (i := 0) dX1_init_28 rfl rfl ?_
  refine zg_iconst (v := nI 4) dX1_init_29 (by decide) ?_
  refine zg_newi dX1_init_30 (by decide) hC.2.1 (zok_r hC.lt (zok_n (zok_nil _))) (zok_r hC.lt (zok_nil _)) (by decide) (by decide) ?_
  refine zg_mk hC dX1_init_32 flX1_24 (by decide) hk rfl rfl (by decide) (fun S mu hC => ?_)
  refine zg_aload_n (i := 0) dX1_init_35 rfl rfl ?_
  refine zg_bipush (v := nI 16) dX1_init_36 (by decide) ?_
  refine zg_newi dX1_init_38 (by decide) hC.2.1 (zok_r hC.lt (zok_n (zok_nil _))) (zok_r hC.lt (zok_nil _)) (by decide) (by decide) ?_
  refine zg_mk hC dX1_init_40 flX1_27 (by decide) hk rfl rfl (by decide) (fun S mu hC => ?_)
  refine zg_aload_n (i := 0) dX1_init_43 rfl rfl ?_
  refine zg_bipush (v := nI 20) dX1_init_44 (by decide) ?_
  refine zg_newi dX1_init_46 (by decide) hC.2.1 (zok_r hC.lt (zok_n (zok_nil _))) (zok_r hC.lt (zok_nil _)) (by decide) (by decide) ?_
  refine zg_mk hC dX1_init_48 flX1_30 (by decide) hk rfl rfl (by decide) (fun S1 mu1 hC => ?_)
  obtain ⟨h1, h2, h3, h4, h5, h6, h7, h8⟩ := hC
  have h1 : S1.1 = b + 7 := by rw [h1, hN]; rfl
  have hk2 : S1.2.1 b = (0, 1) := (h4 b h3).trans hk
  have a0 := h8 0 0 (1, 72) rfl
  have a1 := h8 1 1 (1, 72) rfl
  have a2 := h8 2 2 (3, 4) rfl
  have a3 := h8 3 3 (1, 4) rfl
  have a4 := h8 4 5 (1, 16) rfl
  have a5 := h8 5 7 (1, 20) rfl
  have z0 := h7 0 (by decide)
  have z1 := h7 1 (by decide)
  have z2 := h7 2 (by decide)
  have z3 := h7 3 (by decide)
  have z4 := h7 4 (by decide)
  have z5 := h7 5 (by decide)
  rw [hN] at a0 a1 a2 a3 a4 a5 z0 z1 z2 z3 z4 z5 h3 h4 h5 h6
  have zb : mu1 b = fun _ => nI 0 := (h6 b h3).trans hm
  have q0 : (fun _ : Nat => nI 0) = qfil 0 := by
    funext j
    rw [qfil, if_neg (by omega)]
  refine zg_iconst (v := nI 0) dX1_init_51 (by decide) ?_
  refine zg_istore_n (i := 1) (L2 := [_, _]) dX1_init_52 rfl (by decide) rfl ?_
  refine lx_X1i53 (mu1 := mu1) _ (by omega) hk2 a0.1 a1.1 a0.2 a1.2 (fun mu2 f1 f2 f3 => ?_) 72 0 mu1 rfl (fun _ _ _ => rfl) (z0.trans q0) (z1.trans q0)
  refine zg_iconst (v := nI 0) dX1_init_81 (by decide) ?_
  refine zg_istore_n (i := 1) (L2 := [_, _]) dX1_init_82 rfl (by decide) rfl ?_
  refine lx_X1i83 (S1 := S1) (mu1 := mu2) _ hk2 a2.1 a2.2 (fun T mu3 hT => ?_) 4 0 S1 mu2 rfl ⟨by omega, h2, fun _ _ => rfl, fun _ _ _ => rfl, fun _ _ => rfl, fun t ht => absurd ht (Nat.not_lt_zero t)⟩
  obtain ⟨t1, t2, t3, t4, t5, t6⟩ := hT
  have hN0 : b < T.1 := by omega
  have hkT : T.2.1 b = (0, 1) := (t3 b (by omega)).trans hk2
  refine zg_aload_n (i := 0) dX1_init_107 rfl rfl ?_
  refine zg_iconst (v := nI 1) dX1_init_108 (by decide) ?_
  refine zg_putI dX1_init_109 flX1_34 (by decide) (by assumption) (by assumption) ?_
  refine zg_vret dX1_init_112 rfl ⟨rfl, by omega, ⟨t2, by omega, fun q hq => ?_, fun q hq hqb => ⟨?_, ?_⟩⟩, ?_, ?_⟩
  · rw [hN] at hq
    rw [t3 q (by omega)]; exact h4 q hq
  · rw [hN] at hq
    rw [t4 q (by omega) (by omega)]; exact h5 q hq hqb
  · rw [hN] at hq
    rw [zup_n hqb, t5 q (by omega), f1 q (by omega) (by omega)]; exact h6 q hq
  · have hb : T.2.2 b = S1.2.2 b := t4 b (by omega) (by omega)
    refine ⟨by omega, hkT, (t3 _ (by omega)).trans a0.1, (t3 _ (by omega)).trans a1.1, (t3 _ (by omega)).trans a2.1, (t3 _ (by omega)).trans a3.1, (t3 _ (by omega)).trans a4.1, (t3 _ (by omega)).trans a5.1, by rw [hb]; exact a0.2, by rw [hb]; exact a1.2, by rw [hb]; exact a2.2, by rw [hb]; exact a3.2, by rw [hb]; exact a4.2, by rw [hb]; exact a5.2, fun i hi => ⟨(t6 i hi).1, (t6 i hi).2.1⟩⟩
  · have e1 : mu3 (b + 1) = qfil 72 := (t5 _ (by omega)).trans f2
    have e2 : mu3 (b + 2) = qfil 72 := (t5 _ (by omega)).trans f3
    have e0 : mu3 b = fun _ => nI 0 := by rw [t5 _ (by omega), f1 _ (by omega) (by omega)]; exact zb
    have e4 : mu3 (b + 4) = fun _ => nI 0 := by rw [t5 _ (by omega), f1 _ (by omega) (by omega)]; exact z3
    have v250 : zn qv0 250 = 0 := zn_of (qv0_0 (by omega) (by omega)) (by decide)
    have v267 : zn qv0 267 = 0 := zn_of (qv0_0 (by omega) (by omega)) (by decide)
    have zz : ∀ q, q ≠ b → zup mu3 b 4 (nI 1) q = mu3 q := fun q hq => zup_n hq
    refine ⟨qv0_VI, fun j hj => ?_, fun j hj => ?_, ?_, fun j hj => ?_, ?_, fun j hj => ?_, ?_, fun j hj => ?_, ?_, ?_, fun i hi => ?_⟩
    · rw [zz _ (by omega), e1, qv0_g (by omega), qfil, if_pos hj]
    · rw [zz _ (by omega), e2, qv0_g (by omega), qfil, if_pos hj]
    · rw [zup_s, upd_s, qv0_1 (by omega)]
    · have hj : j < 1 := hj
      rw [zz _ (by omega), e4, qv0_0 (by omega) (by omega)]
    · rw [zup_s, upd_n (by omega), e0, qv0_0 (by omega) (by omega)]
    · rw [v250] at hj; omega
    · rw [zup_s, upd_n (by omega), e0, qv0_0 (by omega) (by omega)]
    · rw [v267] at hj; omega
    · rw [zup_s, upd_n (by omega), e0, qv0_0 (by omega) (by omega)]
    · rw [zup_s, upd_n (by omega), e0, qv0_0 (by omega) (by omega)]
    · have hi : i < 1 := hi
      obtain rfl : i = 0 := by omega
      exact PFr_PX (PFr_ex (t6 0 (by omega)).2.2 (fun q _ _ => zz q (by omega)))
