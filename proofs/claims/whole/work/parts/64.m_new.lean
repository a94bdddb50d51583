/-! THE CONSTRUCTORS: the reference -/
set_option maxRecDepth 20000 in
theorem lm_X3i90 {S : zS} {m : Nat} {mu1 : zU} (Ph : Option zV → zS → zU → Prop) (hN : m + 10 < S.1) (hk : S.2.1 m = (0, 3)) (hk1 : S.2.1 (m + 1) = (1, 289)) (hr0 : S.2.2 m 0 = m + 1 + 1)
    (hx : zG RX3 "<init>" cX3_init 2 none (zroom 1 10 3636) 10 3636 Ph 110 [some (.inr (m + 1)), some (.inl (nI 72))] [] S (zrow mu1 (m + 1) (qfil 72)) 10 3636) :
    ∀ (d i : Nat), i + d = 72 → zG RX3 "<init>" cX3_init 2 none (zroom 1 10 3636) 10 3636 Ph 90 [some (.inr (m + 1)), some (.inl (nI i))] [] S (zrow mu1 (m + 1) (qfil i)) 10 3636 := by
  have hN0 : m < S.1 := by omega
  have hN1 : m + 1 < S.1 := by omega
  intro d
  induction d with
  | zero =>
    intro i hid
    obtain rfl : i = 72 := by omega
    refine zg_iload_n (i := 1) dX3_init_90 rfl rfl ?_
    refine zg_bipush (v := nI 72) dX3_init_91 (by decide) ?_
    first | with_reducible refine zg_icmpN_ge (tgt := 110) dX3_init_93 (by decide) (by omega) (by omega) (fun c => ?_) (fun c => ?_) | refine zg_icmp_ge (tgt := 110) dX3_init_93 (by decide) (fun c => ?_) (fun c => ?_)
    · exact hx
    · omega
  | succ d ih =>
    intro i hid
    refine zg_iload_n (i := 1) dX3_init_90 rfl rfl ?_
    refine zg_bipush (v := nI 72) dX3_init_91 (by decide) ?_
    first | with_reducible refine zg_icmpN_ge (tgt := 110) dX3_init_93 (by decide) (by omega) (by omega) (fun c => ?_) (fun c => ?_) | refine zg_icmp_ge (tgt := 110) dX3_init_93 (by decide) (fun c => ?_) (fun c => ?_)
    · omega
    · refine zg_aload_n (i := 0) dX3_init_96 rfl rfl ?_
      refine zg_getR dX3_init_97 flX3_7 (by decide) (by assumption) (by assumption) (by assumption) ?_
      refine zg_iload_n (i := 1) dX3_init_100 rfl rfl ?_
      refine zg_bipush (v := nI 32) dX3_init_101 (by decide) ?_
      refine zg_iastR dX3_init_103 hk1 hN1 rfl (by omega) (by decide) ?_
      refine zg_mu (mu2 := zrow mu1 (m + 1) (qfil (i + 1))) (by rw [qfil_up]) ?_
      refine zg_iinc1 (L2 := [_, _]) dX3_init_104 (by decide) rfl rfl ?_
      refine zg_goto (tgt := 90) dX3_init_107 (by decide) ?_
      exact ih (i + 1) (by omega)
set_option maxRecDepth 20000 in
theorem cm_X3_init {S : zS} {m : Nat} {mu : zU} (hw : zwf S) (hN : S.1 = m + 1) (hk : S.2.1 m = (0, 3)) (hm : mu m = fun _ => nI 0) : zM yX3_init cX3_init 2 none 1 10 3636 [.inr (m + 1)] S mu (fun v T mu2 => v = none ∧ T.1 = m + 11 ∧ zEx S T mu mu2 m ∧ MS T m ∧ MR mu2 m qv0 0 (fun _ => nI 0) (fun _ => nI 0) 0 (fun _ _ => nI 0) (fun _ => nI 0) (fun _ _ => nI 0)) := by
  refine zM.ofG (by decide +kernel) (Nat.le_of_ble_eq_true rfl) ?_
  show zG RX3 "<init>" cX3_init 2 none (zroom 1 10 3636) 10 3636 _ 0 [some (.inr (m + 1)), none] [] S mu 0 0
  have hC := zCN_nil (mu := mu) hw (show m < S.1 by omega)
  refine zg_aload_n (i := 0) dX3_init_0 rfl rfl ?_
  refine zg_obj dX3_init_1 mlX3_1 (by decide) ⟨by decide, by decide⟩ ?_
  refine zg_aload_n (i := 0) dX3_init_4 rfl rfl ?_
  refine zg_sipush (v := nI 289) dX3_init_5 (by decide) ?_
  refine zg_newi dX3_init_8 (by decide) hC.2.1 (zok_r hC.lt (zok_n (zok_nil _))) (zok_r hC.lt (zok_nil _)) (Nat.le_of_ble_eq_true rfl) (Nat.le_of_ble_eq_true rfl) ?_
  refine zg_mk hC dX3_init_10 flX3_7 (by decide) hk rfl rfl (by decide) (fun S mu hC => ?_)
  refine zg_aload_n (i := 0) dX3_init_13 rfl rfl ?_
  refine zg_sipush (v := nI 289) dX3_init_14 (by decide) ?_
  refine zg_newi dX3_init_17 (by decide) hC.2.1 (zok_r hC.lt (zok_n (zok_nil _))) (zok_r hC.lt (zok_nil _)) (Nat.le_of_ble_eq_true rfl) (Nat.le_of_ble_eq_true rfl) ?_
  refine zg_mk hC dX3_init_19 flX3_13 (by decide) hk rfl rfl (by decide) (fun S mu hC => ?_)
  refine zg_aload_n (i := 0) dX3_init_22 rfl rfl ?_
  refine zg_sipush (v := nI 289) dX3_init_23 (by decide) ?_
  refine zg_newi dX3_init_26 (by decide) hC.2.1 (zok_r hC.lt (zok_n (zok_nil _))) (zok_r hC.lt (zok_nil _)) (Nat.le_of_ble_eq_true rfl) (Nat.le_of_ble_eq_true rfl) ?_
  refine zg_mk hC dX3_init_28 flX3_16 (by decide) hk rfl rfl (by decide) (fun S mu hC => ?_)
  refine zg_aload_n (i := 0) dX3_init_31 rfl rfl ?_
  refine zg_sipush (v := nI 289) dX3_init_32 (by decide) ?_
  refine zg_newi dX3_init_35 (by decide) hC.2.1 (zok_r hC.lt (zok_n (zok_nil _))) (zok_r hC.lt (zok_nil _)) (Nat.le_of_ble_eq_true rfl) (Nat.le_of_ble_eq_true rfl) ?_
  refine zg_mk hC dX3_init_37 flX3_19 (by decide) hk rfl rfl (by decide) (fun S mu hC => ?_)
  refine zg_aload_n (i := 0) dX3_init_40 rfl rfl ?_
  refine zg_sipush (v := nI 1734) dX3_init_41 (by decide) ?_
  refine zg_newi dX3_init_44 (by decide) hC.2.1 (zok_r hC.lt (zok_n (zok_nil _))) (zok_r hC.lt (zok_nil _)) (Nat.le_of_ble_eq_true rfl) (Nat.le_of_ble_eq_true rfl) ?_
  refine zg_mk hC dX3_init_46 flX3_22 (by decide) hk rfl rfl (by decide) (fun S mu hC => ?_)
  refine zg_aload_n (i := 0) dX3_init_49 rfl rfl ?_
  refine zg_sipush (v := nI 578) dX3_init_50 (by decide) ?_
  refine zg_newi dX3_init_53 (by decide) hC.2.1 (zok_r hC.lt (zok_n (zok_nil _))) (zok_r hC.lt (zok_nil _)) (Nat.le_of_ble_eq_true rfl) (Nat.le_of_ble_eq_true rfl) ?_
  refine zg_mk hC dX3_init_55 flX3_25 (by decide) hk rfl rfl (by decide) (fun S mu hC => ?_)
  refine zg_aload_n (i := 0) dX3_init_58 rfl rfl ?_
  refine zg_iconst (v := nI 2) dX3_init_59 (by decide) ?_
  refine zg_newz dX3_init_60 (by decide) hC.2.1 (zok_r hC.lt (zok_n (zok_nil _))) (zok_r hC.lt (zok_nil _)) (Nat.le_of_ble_eq_true rfl) (Nat.le_of_ble_eq_true rfl) ?_
  refine zg_mk hC dX3_init_62 flX3_28 (by decide) hk rfl rfl (by decide) (fun S mu hC => ?_)
  refine zg_aload_n (i := 0) dX3_init_65 rfl rfl ?_
  refine zg_bipush (v := nI 72) dX3_init_66 (by decide) ?_
  refine zg_newz dX3_init_68 (by decide) hC.2.1 (zok_r hC.lt (zok_n (zok_nil _))) (zok_r hC.lt (zok_nil _)) (Nat.le_of_ble_eq_true rfl) (Nat.le_of_ble_eq_true rfl) ?_
  refine zg_mk hC dX3_init_70 flX3_32 (by decide) hk rfl rfl (by decide) (fun S mu hC => ?_)
  refine zg_aload_n (i := 0) dX3_init_73 rfl rfl ?_
  refine zg_bipush (v := nI 90) dX3_init_74 (by decide) ?_
  refine zg_newi dX3_init_76 (by decide) hC.2.1 (zok_r hC.lt (zok_n (zok_nil _))) (zok_r hC.lt (zok_nil _)) (Nat.le_of_ble_eq_true rfl) (Nat.le_of_ble_eq_true rfl) ?_
  refine zg_mk hC dX3_init_78 flX3_35 (by decide) hk rfl rfl (by decide) (fun S mu hC => ?_)
  refine zg_aload_n (i := 0) dX3_init_81 rfl rfl ?_
  refine zg_iconst (v := nI 4) dX3_init_82 (by decide) ?_
  refine zg_newi dX3_init_83 (by decide) hC.2.1 (zok_r hC.lt (zok_n (zok_nil _))) (zok_r hC.lt (zok_nil _)) (Nat.le_of_ble_eq_true rfl) (Nat.le_of_ble_eq_true rfl) ?_
  refine zg_mk hC dX3_init_85 flX3_38 (by decide) hk rfl rfl (by decide) (fun S1 mu1 hC => ?_)
  obtain ⟨h1, h2, h3, h4, h5, h6, h7, h8⟩ := hC
  have h1 : S1.1 = m + 11 := by rw [h1, hN]; rfl
  have hk2 : S1.2.1 m = (0, 3) := (h4 m h3).trans hk
  have a0 := h8 0 0 (1, 289) rfl
  have a1 := h8 1 1 (1, 289) rfl
  have a2 := h8 2 2 (1, 289) rfl
  have a3 := h8 3 3 (1, 289) rfl
  have a4 := h8 4 4 (1, 1734) rfl
  have a5 := h8 5 6 (1, 578) rfl
  have a6 := h8 6 7 (2, 2) rfl
  have a7 := h8 7 8 (2, 72) rfl
  have a8 := h8 8 9 (1, 90) rfl
  have a9 := h8 9 11 (1, 4) rfl
  have z0 := h7 0 (by decide)
  have z6 := h7 6 (by decide)
  have z7 := h7 7 (by decide)
  rw [hN] at a0 a1 a2 a3 a4 a5 a6 a7 a8 a9 z0 z6 z7 h3 h4 h5 h6
  have zm : mu1 m = fun _ => nI 0 := (h6 m h3).trans hm
  have q0 : (fun _ : Nat => nI 0) = qfil 0 := by
    funext j
    rw [qfil, if_neg (by omega)]
  have hMS : MS S1 m := ⟨⟨by omega, hk2, a0.1, a1.1, a2.1, a3.1, a4.1, a5.1, a6.1, a7.1, a8.1, a9.1⟩, a0.2, a1.2, a2.2, a3.2, a4.2, a5.2, a6.2, a7.2, a8.2, a9.2⟩
  have hN0 : m < S1.1 := by omega
  refine zg_iconst (v := nI 0) dX3_init_88 (by decide) ?_
  refine zg_istore_n (i := 1) (L2 := [_, _]) dX3_init_89 rfl (by decide) rfl ?_
  refine zg_mu (mu2 := zrow mu1 (m + 1) (qfil 0)) (by rw [← q0, ← z0, zrow_self]) ?_
  refine lm_X3i90 _ (by omega) hk2 a0.1 a0.2 ?_ 72 0 rfl
  refine zg_aload_n (i := 0) dX3_init_110 rfl rfl ?_
  refine zg_callVv (As := []) (rest := []) (cm_begin hMS mu1 (qfil 72)) dX3_init_111 cvX3_begin mlX3_41 rfl hk2 hN0 rfl (Nat.le_of_ble_eq_true rfl) ⟨by decide, by decide⟩ ⟨Nat.le_of_ble_eq_true rfl, Nat.le_of_ble_eq_true rfl⟩ (fun mu2 hm2 => ?_)
  subst hm2
  have zz : ∀ q, q ≠ m + 1 → zrow mu1 (m + 1) (qbegin (qfil 72)) q = mu1 q := fun q hq => zrow_n hq
  refine zg_vret dX3_init_114 rfl ⟨rfl, h1, ⟨h2, by omega, fun q hq => ?_, fun q hq hqm => ⟨?_, ?_⟩⟩, hMS, ?_⟩
  · rw [hN] at hq; exact h4 q hq
  · rw [hN] at hq; exact h5 q hq hqm
  · rw [hN] at hq
    rw [zz q (by omega)]; exact h6 q hq
  · refine ⟨fun j hj => by rw [zrow_s]; rfl, ⟨by rw [zz m (by omega), zm], by omega, fun j hj => absurd hj (Nat.not_lt_zero j)⟩, fun j hj => by rw [zz _ (by omega)]; exact congrFun z7 j, ⟨by rw [zz m (by omega), zm], by omega, fun i j hi => absurd hi (Nat.not_lt_zero i)⟩, fun q hq => ⟨by rw [zz _ (by omega)]; exact congrFun z6 q, fun e => absurd (show nI 0 = nI 1 from e) (by decide)⟩⟩
