/-! THE CLASS: the calls that change it -/
theorem XR_now {S : zS} {mu mu2 : zU} {x tl uc : Nat} {pm : Nat → Nat} {v w tx bp kp : Nat → Int32} {us sn : Nat → Nat → Int32} (hS : XS S x pm) (h : XR mu x pm v tl tx bp uc us kp sn) (hm : ∀ q, (q < x + 3 ∨ x + 22 ≤ q) → q < x + 177 → mu2 q = mu q) {ol : List Nat} (hw : SX mu2 (x + 3) w ol) : XR mu2 x pm w tl tx bp uc us kp sn := by
  have := h.2.2.2.1.2.1
  exact XR_st h (fun i hi => (hS.2.2.2.1 i (by omega)).2.2) hm hw
def XP (S T : zS) (x : Nat) (mu mu2 : zU) (F : (Nat → Nat) → Prop) : Prop := XT S T x ∧ zfr mu mu2 x 215 ∧ ∃ pm2, XS T x pm2 ∧ F pm2
set_option maxRecDepth 20000 in
theorem cx_feed {S : zS} {x : Nat} {pm : Nat → Nat} (hS : XS S x pm) {mu : zU} {tl uc n : Nat} {v tx bp kp : Nat → Int32} {us sn : Nat → Nat → Int32} (hX : XR mu x pm v tl tx bp uc us kp sn) (hn : v 250 = nI n) (h16 : n ≤ 16) (e : Int32) : zM yX2_feed cX2_feed 2 (some .int) 4 0 0 [.inr (x + 1), .inl e] S mu (zTi S (fun r T mu2 => XP S T x mu mu2 (fun pm2 => (n = 16 ∧ r = -3 ∧ XR mu2 x pm2 v tl tx bp uc us kp sn) ∨ (n < 16 ∧ r = nI (n + 1) ∧ XR mu2 x pm2 (qfeed v n e) tl tx bp (ucN uc) (usN uc us v) kp sn)))) := by
  have hN0 : x < S.1 := hS.lt (i := 0) (by decide)
  have hNs : x + 3 < S.1 := hS.lt (by decide)
  have xk0 := hS.1.2.1
  have xr4 := hS.2.1.2.2.1
  have sk0 := hS.2.2.1.1.2.1
  obtain ⟨⟨ol, hSX⟩, -⟩ := id hX
  refine zM.ofG (by decide +kernel) (Nat.le_of_ble_eq_true rfl) ?_
  refine zg_aload_n (i := 0) dX2_feed_0 rfl rfl ?_
  refine zg_getR dX2_feed_1 flX2_20 (by decide) (by assumption) (by assumption) (by assumption) ?_
  first | with_reducible refine zg_getIR dX2_feed_4 flX2_54 (by decide) (by assumption) (by assumption) (by omega) ?_ | refine zg_getI dX2_feed_4 flX2_54 (by decide) (by assumption) (by assumption) ?_
  refine zg_val (hSX.2.2.2.2.2.1.trans hn) ?_
  refine zg_bipush (v := nI 16) dX2_feed_7 (by decide) ?_
  first | with_reducible refine zg_icmpN_lt (tgt := 15) dX2_feed_9 (by decide) (by omega) (by omega) (fun c => ?_) (fun c => ?_) | refine zg_icmp_lt (tgt := 15) dX2_feed_9 (by decide) (fun c => ?_) (fun c => ?_)
  · refine zg_aload_n (i := 0) dX2_feed_15 rfl rfl ?_
    refine zg_callTv (cx_keepForUndo hS hX) dX2_feed_16 cvX2_keepForUndo mlX2_48 rfl (by assumption) (by assumption) rfl (Nat.le_of_ble_eq_true rfl) ⟨by decide, by decide⟩ ⟨Nat.le_refl _, Nat.le_refl _⟩ (fun T mu2 h2 => ?_)
    obtain ⟨hT, pm2, hS2, hX2, hf⟩ := h2
    obtain ⟨⟨ol2, hSX2⟩, -⟩ := id hX2
    have tN0 : x < T.1 := hS2.lt (i := 0) (by decide)
    have tNs : x + 3 < T.1 := hS2.lt (by decide)
    have tk0 := hS2.1.2.1
    have tr4 := hS2.2.1.2.2.1
    have tsk0 := hS2.2.2.1.1.2.1
    refine zg_aload_n (i := 0) dX2_feed_19 rfl rfl ?_
    refine zg_getR dX2_feed_20 flX2_20 (by decide) (by assumption) (by assumption) (by assumption) ?_
    refine zg_iload_n (i := 1) dX2_feed_23 rfl rfl ?_
    refine zg_callVv (cx_addInput hS2.2.2.1.1 hSX2 hn c e) dX2_feed_24 cvX1_addInput mlX2_66 rfl (by assumption) (by assumption) rfl (Nat.le_of_ble_eq_true rfl) ⟨by decide, by decide⟩ ⟨Nat.le_refl _, Nat.le_refl _⟩ (fun mu3 h3 => ?_)
    obtain ⟨h4, h5⟩ := h3
    refine zg_aload_n (i := 0) dX2_feed_27 rfl rfl ?_
    refine zg_getR dX2_feed_28 flX2_20 (by decide) (by assumption) (by assumption) (by assumption) ?_
    first | with_reducible refine zg_getIR dX2_feed_31 flX2_54 (by decide) (by assumption) (by assumption) (by omega) ?_ | refine zg_getI dX2_feed_31 flX2_54 (by decide) (by assumption) (by assumption) ?_
    refine zg_val (y := nI (n + 1)) (by rw [h4.2.2.2.2.2.1, qfeed, upd_n (by omega), upd_s]) ?_
    exact zg_iret dX2_feed_34 rfl ⟨_, rfl, hT.1, hT, fun q hq => by rw [h5 q (by omega), hf q hq], pm2, hS2, Or.inr ⟨c, rfl, XR_now hS2 hX2 (fun q a b => h5 q (by omega)) h4⟩⟩
  · refine zg_bipush (v := -3) dX2_feed_12 (by decide) ?_
    exact zg_iret dX2_feed_14 rfl ⟨_, rfl, rfl, XT.rf S x, zfr.rf _ _ _, pm, hS, Or.inl ⟨by omega, rfl, hX⟩⟩
set_option maxRecDepth 20000 in
theorem cx_rewind {S : zS} {x : Nat} {pm : Nat → Nat} (hS : XS S x pm) {mu : zU} {tl uc : Nat} {v tx bp kp : Nat → Int32} {us sn : Nat → Nat → Int32} (hX : XR mu x pm v tl tx bp uc us kp sn) : zM yX2_rewind cX2_rewind 2 (some .int) 4 0 0 [.inr (x + 1)] S mu (zTi S (fun r T mu2 => XP S T x mu mu2 (fun pm2 => r = v 144 ∧ XR mu2 x pm2 (qbegin v) tl tx bp (ucN uc) (usN uc us v) kp sn))) := by
  have hN0 : x < S.1 := hS.lt (i := 0) (by decide)
  have hNs : x + 3 < S.1 := hS.lt (by decide)
  have xk0 := hS.1.2.1
  have xr4 := hS.2.1.2.2.1
  have sk0 := hS.2.2.1.1.2.1
  obtain ⟨⟨ol, hSX⟩, -⟩ := id hX
  refine zM.ofG (by decide +kernel) (Nat.le_of_ble_eq_true rfl) ?_
  refine zg_aload_n (i := 0) dX2_rewind_0 rfl rfl ?_
  refine zg_getR dX2_rewind_1 flX2_20 (by decide) (by assumption) (by assumption) (by assumption) ?_
  first | with_reducible refine zg_getIR dX2_rewind_4 flX2_63 (by decide) (by assumption) (by assumption) (by omega) ?_ | refine zg_getI dX2_rewind_4 flX2_63 (by decide) (by assumption) (by assumption) ?_
  refine zg_val (hSX.2.2.2.2.2.2.2.2.2.2.1) ?_
  refine zg_istore_n (i := 1) (L2 := [_, _]) dX2_rewind_7 rfl (by decide) rfl ?_
  refine zg_aload_n (i := 0) dX2_rewind_8 rfl rfl ?_
  refine zg_callTv (cx_keepForUndo hS hX) dX2_rewind_9 cvX2_keepForUndo mlX2_48 rfl (by assumption) (by assumption) rfl (Nat.le_of_ble_eq_true rfl) ⟨by decide, by decide⟩ ⟨Nat.le_refl _, Nat.le_refl _⟩ (fun T mu2 h2 => ?_)
  obtain ⟨hT, pm2, hS2, hX2, hf⟩ := h2
  obtain ⟨⟨ol2, hSX2⟩, -⟩ := id hX2
  have tN0 : x < T.1 := hS2.lt (i := 0) (by decide)
  have tNs : x + 3 < T.1 := hS2.lt (by decide)
  have tk0 := hS2.1.2.1
  have tr4 := hS2.2.1.2.2.1
  have tsk0 := hS2.2.2.1.1.2.1
  refine zg_aload_n (i := 0) dX2_rewind_12 rfl rfl ?_
  refine zg_getR dX2_rewind_13 flX2_20 (by decide) (by assumption) (by assumption) (by assumption) ?_
  refine zg_callVv (cx_beginRun hS2.2.2.1.1 hSX2) dX2_rewind_16 cvX1_beginRun mlX2_57 rfl (by assumption) (by assumption) rfl (Nat.le_of_ble_eq_true rfl) ⟨by decide, by decide⟩ ⟨Nat.le_refl _, Nat.le_refl _⟩ (fun mu3 h3 => ?_)
  obtain ⟨h4, h5⟩ := h3
  refine zg_iload_n (i := 1) dX2_rewind_19 rfl rfl ?_
  exact zg_iret dX2_rewind_20 rfl ⟨_, rfl, hT.1, hT, fun q hq => by rw [h5 q (by omega), hf q hq], pm2, hS2, rfl, XR_now hS2 hX2 (fun q a b => h5 q (by omega)) h4⟩
set_option maxRecDepth 20000 in
theorem cx_poke {S : zS} {x : Nat} {pm : Nat → Nat} (hS : XS S x pm) {mu : zU} {tl uc : Nat} {v tx bp kp : Nat → Int32} {us sn : Nat → Nat → Int32} (hX : XR mu x pm v tl tx bp uc us kp sn) (a b c : Int32) : zM yX2_poke cX2_poke 6 (some .int) 4 0 0 [.inr (x + 1), .inl a, .inl b, .inl c] S mu (zTi S (fun r T mu2 => XP S T x mu mu2 (fun pm2 => (¬ (∃ cx cy, cx < 12 ∧ cy < 6 ∧ a = nI cx ∧ b = nI cy ∧ nI 32 ≤ c ∧ c ≤ nI 126) ∧ r = -1 ∧ XR mu2 x pm2 v tl tx bp uc us kp sn) ∨ (∃ cx cy, cx < 12 ∧ cy < 6 ∧ a = nI cx ∧ b = nI cy ∧ (nI 32 ≤ c ∧ c ≤ nI 126) ∧ r = v (72 + 12 * cy + cx) ∧ XR mu2 x pm2 (upd v (72 + 12 * cy + cx) c) tl tx bp (ucN uc) (usN uc us v) kp sn)))) := by
  have hN0 : x < S.1 := hS.lt (i := 0) (by decide)
  have xk0 := hS.1.2.1
  refine zM.ofG (by decide +kernel) (Nat.le_of_ble_eq_true rfl) ?_
  refine zg_iload_n (i := 1) dX2_poke_0 rfl rfl ?_
  refine zg_iload_n (i := 2) dX2_poke_1 rfl rfl ?_
  refine zg_callSi (cx_isCell S mu a b) dX2_poke_2 ctX2_isCell mlX2_70 rfl rfl (Nat.le_of_ble_eq_true rfl) ⟨by decide, by decide⟩ ⟨Nat.le_refl _, Nat.le_refl _⟩ (fun r mu2 h2 => ?_)
  obtain ⟨rfl, rfl⟩ := h2
  rcases atC_cs a b with ⟨cx, cy, hx, hy, rfl, rfl⟩ | ⟨h1, h2⟩
  · rw [if_pos (cellC hx hy)]
    first | with_reducible refine zg_ifN_eq (tgt := 15) dX2_poke_5 (by decide) (by omega) (fun c1 => ?_) (fun c1 => ?_) | refine zg_if_eq (tgt := 15) dX2_poke_5 (by decide) (fun c1 => ?_) (fun c1 => ?_)
    · exact absurd c1 (by decide)
    · refine zg_iload_n (i := 3) dX2_poke_8 rfl rfl ?_
      refine zg_callSi (cx_isCode S mu2 c) dX2_poke_9 ctX2_isCode mlX2_74 rfl rfl (Nat.le_of_ble_eq_true rfl) ⟨by decide, by decide⟩ ⟨Nat.le_refl _, Nat.le_refl _⟩ (fun r mu3 h3 => ?_)
      obtain ⟨rfl, rfl⟩ := h3
      by_cases hc : nI 32 ≤ c ∧ c ≤ nI 126
      · rw [if_pos hc]
        first | with_reducible refine zg_ifN_ne (tgt := 17) dX2_poke_12 (by decide) (by omega) (fun c2 => ?_) (fun c2 => ?_) | refine zg_if_ne (tgt := 17) dX2_poke_12 (by decide) (fun c2 => ?_) (fun c2 => ?_)
        · refine zg_aload_n (i := 0) dX2_poke_17 rfl rfl ?_
          refine zg_callTv (cx_keepForUndo hS hX) dX2_poke_18 cvX2_keepForUndo mlX2_48 rfl (by assumption) (by assumption) rfl (Nat.le_of_ble_eq_true rfl) ⟨by decide, by decide⟩ ⟨Nat.le_refl _, Nat.le_refl _⟩ (fun T mu4 h4 => ?_)
          obtain ⟨hT, pm2, hS2, hX2, hf⟩ := h4
          obtain ⟨⟨ol2, hSX2⟩, -⟩ := id hX2
          have tN0 : x < T.1 := hS2.lt (i := 0) (by decide)
          have tNs : x + 3 < T.1 := hS2.lt (by decide)
          have tNs2 : x + 3 + 2 < T.1 := hS2.lt3 (by decide)
          have tk0 := hS2.1.2.1
          have tr4 := hS2.2.1.2.2.1
          obtain ⟨-, tsk0, -, tsk2, -, -, -, -, -, tsr1, -⟩ := hS2.2.2.1.1
          have hj : 12 * cy + cx < 72 := by omega
          refine zg_bipush (v := nI 12) dX2_poke_21 (by decide) ?_
          refine zg_iload_n (i := 2) dX2_poke_23 rfl rfl ?_
          first | with_reducible refine zg_imulN dX2_poke_24 ?_ | refine zg_imul dX2_poke_24 ?_
          refine zg_iload_n (i := 1) dX2_poke_25 rfl rfl ?_
          first | with_reducible refine zg_iaddN dX2_poke_26 ?_ | refine zg_iadd dX2_poke_26 ?_
          refine zg_istore (L2 := [_, _, _, _, _, _]) dX2_poke_27 (by decide) rfl ?_
          refine zg_aload_n (i := 0) dX2_poke_29 rfl rfl ?_
          refine zg_getR dX2_poke_30 flX2_20 (by decide) (by assumption) (by assumption) (by assumption) ?_
          refine zg_getR dX2_poke_33 flX2_78 (by decide) (by assumption) (by assumption) (by assumption) ?_
          refine zg_iload dX2_poke_36 rfl ?_
          first | with_reducible refine zg_ialdR dX2_poke_38 (by assumption) (by assumption) rfl (by omega) (by decide) ?_ | refine zg_iald dX2_poke_38 (by assumption) (by assumption) rfl (by omega) (by decide) ?_
          refine zg_val (y := v (72 + 12 * cy + cx)) (by rw [hSX2.2.2.1 _ hj, Nat.add_assoc]) ?_
          refine zg_istore (L2 := [_, _, _, _, _, _]) dX2_poke_39 (by decide) rfl ?_
          refine zg_aload_n (i := 0) dX2_poke_41 rfl rfl ?_
          refine zg_getR dX2_poke_42 flX2_20 (by decide) (by assumption) (by assumption) (by assumption) ?_
          refine zg_getR dX2_poke_45 flX2_78 (by decide) (by assumption) (by assumption) (by assumption) ?_
          refine zg_iload dX2_poke_48 rfl ?_
          refine zg_iload_n (i := 3) dX2_poke_50 rfl rfl ?_
          first | with_reducible refine zg_iastR dX2_poke_51 (by assumption) (by assumption) rfl (by omega) (by decide) ?_ | refine zg_iast dX2_poke_51 (by assumption) (by assumption) rfl (by omega) (by decide) ?_
          refine zg_iload dX2_poke_52 rfl ?_
          have hg := SX_grid hSX2 hj c
          rw [← Nat.add_assoc] at hg
          exact zg_iret dX2_poke_54 rfl ⟨_, rfl, hT.1, hT, fun q hq => by rw [zup_n (by omega), hf q hq], pm2, hS2, Or.inr ⟨cx, cy, hx, hy, rfl, rfl, hc, rfl, XR_now hS2 hX2 (fun q a b => by rw [zup_n (by omega)]) hg⟩⟩
        · exact absurd c2 (by decide)
      · rw [if_neg hc]
        first | with_reducible refine zg_ifN_ne (tgt := 17) dX2_poke_12 (by decide) (by omega) (fun c2 => ?_) (fun c2 => ?_) | refine zg_if_ne (tgt := 17) dX2_poke_12 (by decide) (fun c2 => ?_) (fun c2 => ?_)
        · exact absurd rfl c2
        · refine zg_iconst (v := -1) dX2_poke_15 (by decide) ?_
          refine zg_iret dX2_poke_16 rfl ⟨_, rfl, rfl, XT.rf S x, zfr.rf _ _ _, pm, hS, Or.inl ⟨?_, rfl, hX⟩⟩
          rintro ⟨cx', cy', -, -, -, -, h9⟩
          exact hc h9
  · rw [if_neg h1]
    first | with_reducible refine zg_ifN_eq (tgt := 15) dX2_poke_5 (by decide) (by omega) (fun c1 => ?_) (fun c1 => ?_) | refine zg_if_eq (tgt := 15) dX2_poke_5 (by decide) (fun c1 => ?_) (fun c1 => ?_)
    · refine zg_iconst (v := -1) dX2_poke_15 (by decide) ?_
      refine zg_iret dX2_poke_16 rfl ⟨_, rfl, rfl, XT.rf S x, zfr.rf _ _ _, pm, hS, Or.inl ⟨?_, rfl, hX⟩⟩
      rintro ⟨cx', cy', w1, w2, w3, w4, -⟩
      exact h1 (by rw [w3, w4]; exact cellC w1 w2)
    · exact absurd rfl c1
set_option maxRecDepth 20000 in
theorem cx_undo {S : zS} {x : Nat} {pm : Nat → Nat} (hS : XS S x pm) {mu : zU} {tl uc : Nat} {v tx bp kp : Nat → Int32} {us sn : Nat → Nat → Int32} (hX : XR mu x pm v tl tx bp uc us kp sn) : zM yX2_undo cX2_undo 1 (some .int) 3 0 0 [.inr (x + 1)] S mu (zPi S (fun r mu2 => ((uc = 0 ∧ r = -2 ∧ mu2 = mu) ∨ (1 ≤ uc ∧ r = nI (uc - 1) ∧ XR mu2 x pm (us (uc - 1)) tl tx bp (uc - 1) us kp sn)) ∧ zfr mu mu2 x 215)) := by
  have hN0 : x < S.1 := hS.lt (i := 0) (by decide)
  have hNs : x + 3 < S.1 := hS.lt (by decide)
  have hN22 : x + 22 < S.1 := hS.lt (by decide)
  have xk0 := hS.1.2.1
  have xk22 := hS.1.2.2.2.2.1
  have xr4 := hS.2.1.2.2.1
  have xr5 := hS.2.1.2.2.2.1
  have sk0 := hS.2.2.1.1.2.1
  obtain ⟨-, -, -, ⟨u1, u2, u3⟩, -⟩ := id hX
  refine zM.ofG (by decide +kernel) (Nat.le_of_ble_eq_true rfl) ?_
  refine zg_aload_n (i := 0) dX2_undo_0 rfl rfl ?_
  first | with_reducible refine zg_getIR dX2_undo_1 flX2_88 (by decide) (by assumption) (by assumption) (by omega) ?_ | refine zg_getI dX2_undo_1 flX2_88 (by decide) (by assumption) (by assumption) ?_
  refine zg_val u1 ?_
  first | with_reducible refine zg_ifN_gt (tgt := 10) dX2_undo_4 (by decide) (by omega) (fun c => ?_) (fun c => ?_) | refine zg_if_gt (tgt := 10) dX2_undo_4 (by decide) (fun c => ?_) (fun c => ?_)
  · obtain ⟨-, hr, hpm⟩ := hS.2.2.2.1 (uc - 1) (by omega)
    have hSu := (hS.2.2.2.1 (pm (uc - 1)) hpm).1
    obtain ⟨ol2, h5⟩ := u3 (uc - 1) (by omega)
    refine zg_aload_n (i := 0) dX2_undo_10 rfl rfl ?_
    refine zg_dup dX2_undo_11 ?_
    first | with_reducible refine zg_getIR dX2_undo_12 flX2_88 (by decide) (by assumption) (by assumption) (by omega) ?_ | refine zg_getI dX2_undo_12 flX2_88 (by decide) (by assumption) (by assumption) ?_
    refine zg_val u1 ?_
    refine zg_iconst (v := nI 1) dX2_undo_15 (by decide) ?_
    first | with_reducible refine zg_isubN dX2_undo_16 (by omega) ?_ | refine zg_isub dX2_undo_16 ?_
    refine zg_putI dX2_undo_17 flX2_88 (by decide) (by assumption) (by assumption) ?_
    refine zg_aload_n (i := 0) dX2_undo_20 rfl rfl ?_
    refine zg_getR dX2_undo_21 flX2_20 (by decide) (by assumption) (by assumption) (by assumption) ?_
    refine zg_aload_n (i := 0) dX2_undo_24 rfl rfl ?_
    refine zg_getR dX2_undo_25 flX2_24 (by decide) (by assumption) (by assumption) (by assumption) ?_
    refine zg_aload_n (i := 0) dX2_undo_28 rfl rfl ?_
    first | with_reducible refine zg_getIR dX2_undo_29 flX2_88 (by decide) (by assumption) (by assumption) (by omega) ?_ | refine zg_getI dX2_undo_29 flX2_88 (by decide) (by assumption) (by assumption) ?_
    refine zg_val (y := nI (uc - 1)) (by rw [zup_s, upd_s]) ?_
    first | refine zg_pald dX2_undo_32 (by assumption) (by assumption) rfl (by omega) (by decide) (by assumption) ?_ | refine zg_sald dX2_undo_32 (by assumption) (by assumption) rfl (by omega) (by decide) (by assumption) ?_
    refine zg_callVv (cx_copyS hS.2.2.1.1 hSu (Or.inl (by omega)) (SX_mv h5 (fun q a b => by rw [zup_n (by omega)]))) dX2_undo_33 cvX1_copyFrom mlX2_91 rfl (by assumption) (by assumption) rfl (Nat.le_of_ble_eq_true rfl) ⟨by decide, by decide⟩ ⟨Nat.le_refl _, Nat.le_refl _⟩ (fun mu2 h2 => ?_)
    obtain ⟨h3, h4⟩ := h2
    have hx6 : mu2 x 6 = nI (uc - 1) := by rw [h4 x (by omega), zup_s, upd_s]
    refine zg_aload_n (i := 0) dX2_undo_36 rfl rfl ?_
    first | with_reducible refine zg_getIR dX2_undo_37 flX2_88 (by decide) (by assumption) (by assumption) (by omega) ?_ | refine zg_getI dX2_undo_37 flX2_88 (by decide) (by assumption) (by assumption) ?_
    refine zg_val hx6 ?_
    refine zg_iret dX2_undo_40 rfl ⟨_, rfl, rfl, Or.inr ⟨by omega, rfl, ?_⟩, fun q hq => by rw [h4 q (by omega), zup_n (by omega)]⟩
    have hA : XR (zup mu x 6 (nI (uc - 1))) x pm v tl tx bp (uc - 1) us kp sn := XR_un hX (fun q a b => by rw [zup_n a]) (fun j hj => by rw [zup_s, upd_n hj]) (by rw [zup_s, upd_s]) (by omega) (fun i hi => by obtain ⟨ol3, h6⟩ := u3 i (by omega); exact ⟨ol3, SX_mv h6 (fun q a b => by rw [zup_n (by omega)])⟩)
    exact XR_now hS hA (fun q a b => h4 q (by omega)) h3
  · refine zg_bipush (v := -2) dX2_undo_7 (by decide) ?_
    exact zg_iret dX2_undo_9 rfl ⟨_, rfl, rfl, ⟨Or.inl ⟨by omega, rfl, rfl⟩, zfr.rf _ _ _⟩⟩
set_option maxRecDepth 20000 in
theorem cx_clearText {S : zS} {x : Nat} {pm : Nat → Nat} (hS : XS S x pm) {mu : zU} {tl uc : Nat} {v tx bp kp : Nat → Int32} {us sn : Nat → Nat → Int32} (hX : XR mu x pm v tl tx bp uc us kp sn) : zM yX2_clearText cX2_clearText 2 (some .int) 0 0 0 [.inr (x + 1)] S mu (zPi S (fun r mu2 => r = nI tl ∧ XR mu2 x pm v 0 tx bp uc us kp sn ∧ zfr mu mu2 x 215)) := by
  have hN0 : x < S.1 := hS.lt (i := 0) (by decide)
  have xk0 := hS.1.2.1
  obtain ⟨⟨ol, v1⟩, ⟨t1, t2, t3⟩, ⟨b1, b2⟩, ⟨u1, u2, u3⟩, s1⟩ := id hX
  refine zM.ofG (by decide +kernel) (Nat.le_of_ble_eq_true rfl) ?_
  refine zg_aload_n (i := 0) dX2_clearText_0 rfl rfl ?_
  first | with_reducible refine zg_getIR dX2_clearText_1 flX2_40 (by decide) (by assumption) (by assumption) (by omega) ?_ | refine zg_getI dX2_clearText_1 flX2_40 (by decide) (by assumption) (by assumption) ?_
  refine zg_val t1 ?_
  refine zg_istore_n (i := 1) (L2 := [_, _]) dX2_clearText_4 rfl (by decide) rfl ?_
  refine zg_aload_n (i := 0) dX2_clearText_5 rfl rfl ?_
  refine zg_iconst (v := nI 0) dX2_clearText_6 (by decide) ?_
  refine zg_putI dX2_clearText_7 flX2_40 (by decide) (by assumption) (by assumption) ?_
  refine zg_iload_n (i := 1) dX2_clearText_10 rfl rfl ?_
  refine zg_iret dX2_clearText_11 rfl ⟨_, rfl, rfl, rfl, ⟨⟨ol, SX_mv v1 (fun q a b => by rw [zup_n (by omega)])⟩, ⟨by rw [zup_s, upd_s], by omega, fun j hj => absurd hj (by omega)⟩, ⟨fun j hj => ?_, ?_⟩, ⟨?_, u2, fun i hi => ?_⟩, fun q hq => ⟨?_, (s1 q hq).2.1, fun e => ?_⟩⟩, fun q hq => by rw [zup_n (by omega)]⟩
  · rw [zup_n (by omega)]; exact b1 j hj
  · rw [zup_s, upd_n (by omega)]; exact b2
  · rw [zup_s, upd_n (by omega)]; exact u1
  · obtain ⟨ol2, h2⟩ := u3 i hi
    exact ⟨ol2, SX_mv h2 (fun q a b => by rw [zup_n (by omega)])⟩
  · rw [zup_n (by omega)]; exact (s1 q hq).1
  · obtain ⟨ol2, h2⟩ := (s1 q hq).2.2 e
    exact ⟨ol2, SX_mv h2 (fun q a b => by rw [zup_n (by omega)])⟩
