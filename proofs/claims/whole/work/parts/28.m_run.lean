/-! THE REFERENCE: rewind, feed, poke, undo, runs -/
theorem MR_keep {mu : zU} {m tl uc : Nat} {v tx bp kp : Nat → Int32} {us sn : Nat → Nat → Int32} (h : MR mu m v tl tx bp uc us kp sn) {mu2 : zU} (h1 : ∀ q, q ≠ m + 2 → q ≠ m + 3 → q ≠ m + 4 → q ≠ m + 10 → q ≠ m + 1 → mu2 q = mu q) {w : Nat → Int32} (h2 : ∀ j, j < 289 → mu2 (m + 1) j = w j) : MR mu2 m w tl tx bp uc us kp sn := by
  obtain ⟨v1, ⟨t1, t2, t3⟩, b1, ⟨u1, u2, u3⟩, s1⟩ := h
  refine ⟨h2, ⟨?_, t2, fun j hj => ?_⟩, fun j hj => ?_, ⟨?_, u2, fun i j hi hj => ?_⟩, fun q hq => ⟨?_, fun e j hj => ?_⟩⟩
  · rw [h1 _ (by omega) (by omega) (by omega) (by omega) (by omega)]; exact t1
  · rw [h1 _ (by omega) (by omega) (by omega) (by omega) (by omega)]; exact t3 j hj
  · rw [h1 _ (by omega) (by omega) (by omega) (by omega) (by omega)]; exact b1 j hj
  · rw [h1 _ (by omega) (by omega) (by omega) (by omega) (by omega)]; exact u1
  · rw [h1 _ (by omega) (by omega) (by omega) (by omega) (by omega)]; exact u3 i j hi hj
  · rw [h1 _ (by omega) (by omega) (by omega) (by omega) (by omega)]; exact (s1 q hq).1
  · rw [h1 _ (by omega) (by omega) (by omega) (by omega) (by omega)]; exact (s1 q hq).2 e j hj
set_option maxRecDepth 20000 in
theorem cm_rewind {S : zS} {m : Nat} (hS : MS S m) {mu : zU} {tl uc : Nat} {v tx bp kp : Nat → Int32} {us sn : Nat → Nat → Int32} (hM : MR mu m v tl tx bp uc us kp sn) (hv : mu (m + 1) = v) : zM yX3_rewind cX3_rewind 2 (some .int) 1 0 0 [.inr (m + 1)] S mu (zPi S (fun r mu2 => r = v 144 ∧ MR mu2 m (qbegin v) tl tx bp (ucN uc) (usN uc us v) kp sn ∧ zfrm mu mu2 m)) := by
  have hN0 : m < S.1 := hS.lt (i := 0) (by decide)
  have hN1 : m + 1 < S.1 := hS.lt (by decide)
  obtain ⟨⟨-, k0, k1, -⟩, r0, -⟩ := id hS
  have huc := hM.2.2.2.1.2.1
  have h5 := hM.2.2.2.1.1
  refine zM.ofG (by decide +kernel) (Nat.le_of_ble_eq_true rfl) ?_
  refine zg_aload_n (i := 0) dX3_rewind_0 rfl rfl ?_
  refine zg_callVv (cm_remember hS mu) dX3_rewind_1 cvX3_remember mlX3_59 rfl (by assumption) (by assumption) rfl (Nat.le_of_ble_eq_true rfl) ⟨by decide, by decide⟩ ⟨Nat.le_refl _, Nat.le_refl _⟩ (fun mu2 h2 => ?_)
  subst h2
  refine zg_aload_n (i := 0) dX3_rewind_4 rfl rfl ?_
  refine zg_getR dX3_rewind_5 flX3_7 (by decide) (by assumption) (by assumption) (by assumption) ?_
  refine zg_sipush (v := nI 144) dX3_rewind_8 (by decide) ?_
  first | with_reducible refine zg_ialdR dX3_rewind_11 (by assumption) (by assumption) rfl (by omega) (by decide) ?_ | refine zg_iald dX3_rewind_11 (by assumption) (by assumption) rfl (by omega) (by decide) ?_
  refine zg_val (y := v 144) (by rw [zrow_n (by omega), hv]) ?_
  refine zg_istore_n (i := 1) (L2 := [_, _]) dX3_rewind_12 rfl (by decide) rfl ?_
  refine zg_aload_n (i := 0) dX3_rewind_13 rfl rfl ?_
  refine zg_mu (zrow_self (zrow mu (m + 2) (cpi (mu (m + 2)) (mu (m + 1)) 0 289)) (m + 1)).symm ?_
  refine zg_callVv (cm_begin hS _ _) dX3_rewind_14 cvX3_begin mlX3_41 rfl (by assumption) (by assumption) rfl (Nat.le_of_ble_eq_true rfl) ⟨by decide, by decide⟩ ⟨Nat.le_refl _, Nat.le_refl _⟩ (fun mu2 h2 => ?_)
  subst h2
  rw [zrow_n (show m + 1 ≠ m + 2 by omega), hv]
  refine zg_aload_n (i := 0) dX3_rewind_17 rfl rfl ?_
  refine zg_callVv (cm_saveBefore hS _ huc (by rw [zrow_n (by omega), zrow_n (by omega)]; exact h5)) dX3_rewind_18 cvX3_saveBefore mlX3_62 rfl (by assumption) (by assumption) rfl (Nat.le_of_ble_eq_true rfl) ⟨by decide, by decide⟩ ⟨Nat.le_refl _, Nat.le_refl _⟩ (fun mu3 h3 => ?_)
  refine zg_iload_n (i := 1) dX3_rewind_21 rfl rfl ?_
  refine zg_iret dX3_rewind_22 rfl ⟨_, rfl, rfl, rfl, MR_save hM (fun q h1 h2 _ => by rw [zrow_n h1, zrow_n h2]) (fun j hj => ?_) (fun j hj => by rw [zrow_s]) h3, SB_fr (fun q hq => by rw [zrow_n (by omega), zrow_n (by omega)]) h3⟩
  rw [zrow_n (by omega), zrow_s, cpi_in (by omega) (by omega), Nat.sub_zero]
def qfeed (v : Nat → Int32) (n : Nat) (x : Int32) : Nat → Int32 := upd (upd v 250 (nI (n + 1))) (250 + (n + 1)) x
set_option maxRecDepth 20000 in
theorem cm_feed {S : zS} {m : Nat} (hS : MS S m) {mu : zU} {tl uc n : Nat} {v tx bp kp : Nat → Int32} {us sn : Nat → Nat → Int32} (hM : MR mu m v tl tx bp uc us kp sn) (hv : mu (m + 1) = v) (hn : v 250 = nI n) (h16 : n ≤ 16) (x : Int32) : zM yX3_feed cX3_feed 2 (some .int) 1 0 0 [.inr (m + 1), .inl x] S mu (zPi S (fun r mu2 => ((n = 16 ∧ r = -3 ∧ mu2 = mu) ∨ (n < 16 ∧ r = nI (n + 1) ∧ MR mu2 m (qfeed v n x) tl tx bp (ucN uc) (usN uc us v) kp sn)) ∧ zfrm mu mu2 m)) := by
  have hN0 : m < S.1 := hS.lt (i := 0) (by decide)
  have hN1 : m + 1 < S.1 := hS.lt (by decide)
  obtain ⟨⟨-, k0, k1, -⟩, r0, -⟩ := id hS
  have huc := hM.2.2.2.1.2.1
  have h5 := hM.2.2.2.1.1
  refine zM.ofG (by decide +kernel) (Nat.le_of_ble_eq_true rfl) ?_
  refine zg_aload_n (i := 0) dX3_feed_0 rfl rfl ?_
  refine zg_getR dX3_feed_1 flX3_7 (by decide) (by assumption) (by assumption) (by assumption) ?_
  refine zg_sipush (v := nI 250) dX3_feed_4 (by decide) ?_
  first | with_reducible refine zg_ialdR dX3_feed_7 (by assumption) (by assumption) rfl (by omega) (by decide) ?_ | refine zg_iald dX3_feed_7 (by assumption) (by assumption) rfl (by omega) (by decide) ?_
  refine zg_val (y := nI n) (by rw [hv]; exact hn) ?_
  refine zg_bipush (v := nI 16) dX3_feed_8 (by decide) ?_
  first | with_reducible refine zg_icmpN_ne (tgt := 16) dX3_feed_10 (by decide) (by omega) (by omega) (fun c => ?_) (fun c => ?_) | refine zg_icmp_ne (tgt := 16) dX3_feed_10 (by decide) (fun c => ?_) (fun c => ?_)
  · refine zg_aload_n (i := 0) dX3_feed_16 rfl rfl ?_
    refine zg_callVv (cm_remember hS mu) dX3_feed_17 cvX3_remember mlX3_59 rfl (by assumption) (by assumption) rfl (Nat.le_of_ble_eq_true rfl) ⟨by decide, by decide⟩ ⟨Nat.le_refl _, Nat.le_refl _⟩ (fun mu2 h2 => ?_)
    subst h2
    refine zg_mu (zrow_self (zrow mu (m + 2) (cpi (mu (m + 2)) (mu (m + 1)) 0 289)) (m + 1)).symm ?_
    rw [zrow_n (show m + 1 ≠ m + 2 by omega), hv]
    refine zg_aload_n (i := 0) dX3_feed_20 rfl rfl ?_
    refine zg_getR dX3_feed_21 flX3_7 (by decide) (by assumption) (by assumption) (by assumption) ?_
    refine zg_sipush (v := nI 250) dX3_feed_24 (by decide) ?_
    refine zg_dup2 dX3_feed_27 ?_
    first | with_reducible refine zg_ialdR dX3_feed_28 (by assumption) (by assumption) rfl (by omega) (by decide) ?_ | refine zg_iald dX3_feed_28 (by assumption) (by assumption) rfl (by omega) (by decide) ?_
    refine zg_val hn ?_
    refine zg_iconst (v := nI 1) dX3_feed_29 (by decide) ?_
    first | with_reducible refine zg_iaddN dX3_feed_30 ?_ | refine zg_iadd dX3_feed_30 ?_
    first | with_reducible refine zg_iastR dX3_feed_31 (by assumption) (by assumption) rfl (by omega) (by decide) ?_ | refine zg_iast dX3_feed_31 (by assumption) (by assumption) rfl (by omega) (by decide) ?_
    refine zg_aload_n (i := 0) dX3_feed_32 rfl rfl ?_
    refine zg_getR dX3_feed_33 flX3_7 (by decide) (by assumption) (by assumption) (by assumption) ?_
    refine zg_sipush (v := nI 250) dX3_feed_36 (by decide) ?_
    refine zg_aload_n (i := 0) dX3_feed_39 rfl rfl ?_
    refine zg_getR dX3_feed_40 flX3_7 (by decide) (by assumption) (by assumption) (by assumption) ?_
    refine zg_sipush (v := nI 250) dX3_feed_43 (by decide) ?_
    first | with_reducible refine zg_ialdR dX3_feed_46 (by assumption) (by assumption) rfl (by omega) (by decide) ?_ | refine zg_iald dX3_feed_46 (by assumption) (by assumption) rfl (by omega) (by decide) ?_
    refine zg_val (y := nI (n + 1)) (by rw [upd_s]) ?_
    first | with_reducible refine zg_iaddN dX3_feed_47 ?_ | refine zg_iadd dX3_feed_47 ?_
    refine zg_iload_n (i := 1) dX3_feed_48 rfl rfl ?_
    first | with_reducible refine zg_iastR dX3_feed_49 (by assumption) (by assumption) rfl (by omega) (by decide) ?_ | refine zg_iast dX3_feed_49 (by assumption) (by assumption) rfl (by omega) (by decide) ?_
    refine zg_aload_n (i := 0) dX3_feed_50 rfl rfl ?_
    refine zg_callVv (cm_saveBefore hS _ huc (by rw [zrow_n (by omega), zrow_n (by omega)]; exact h5)) dX3_feed_51 cvX3_saveBefore mlX3_62 rfl (by assumption) (by assumption) rfl (Nat.le_of_ble_eq_true rfl) ⟨by decide, by decide⟩ ⟨Nat.le_refl _, Nat.le_refl _⟩ (fun mu3 h3 => ?_)
    have hnow : mu3 (m + 1) 250 = nI (n + 1) := by rw [h3.1 _ (by omega) (by omega), zrow_s, upd_n (by omega), upd_s]
    refine zg_aload_n (i := 0) dX3_feed_54 rfl rfl ?_
    refine zg_getR dX3_feed_55 flX3_7 (by decide) (by assumption) (by assumption) (by assumption) ?_
    refine zg_sipush (v := nI 250) dX3_feed_58 (by decide) ?_
    first | with_reducible refine zg_ialdR dX3_feed_61 (by assumption) (by assumption) rfl (by omega) (by decide) ?_ | refine zg_iald dX3_feed_61 (by assumption) (by assumption) rfl (by omega) (by decide) ?_
    refine zg_val hnow ?_
    refine zg_iret dX3_feed_62 rfl ⟨_, rfl, rfl, Or.inr ⟨by omega, rfl, MR_save hM (fun q h1 h2 _ => by rw [zrow_n h1, zrow_n h2]) (fun j hj => ?_) (fun j hj => by rw [zrow_s]; rfl) h3⟩, SB_fr (fun q hq => by rw [zrow_n (by omega), zrow_n (by omega)]) h3⟩
    rw [zrow_n (by omega), zrow_s, cpi_in (by omega) (by omega), Nat.sub_zero]
  · refine zg_bipush (v := -3) dX3_feed_13 (by decide) ?_
    exact zg_iret dX3_feed_15 rfl ⟨_, rfl, rfl, ⟨Or.inl ⟨c, rfl, rfl⟩, fun _ _ => rfl⟩⟩
set_option maxRecDepth 20000 in
theorem cm_poke {S : zS} {m : Nat} (hS : MS S m) {mu : zU} {tl uc : Nat} {v tx bp kp : Nat → Int32} {us sn : Nat → Nat → Int32} (hM : MR mu m v tl tx bp uc us kp sn) (hv : mu (m + 1) = v) (x y c : Int32) : zM yX3_poke cX3_poke 6 (some .int) 2 0 0 [.inr (m + 1), .inl x, .inl y, .inl c] S mu (zPi S (fun r mu2 => ((¬ (∃ cx cy, cx < 12 ∧ cy < 6 ∧ x = nI cx ∧ y = nI cy ∧ nI 32 ≤ c ∧ c ≤ nI 126) ∧ r = -1 ∧ mu2 = mu) ∨ (∃ cx cy, cx < 12 ∧ cy < 6 ∧ x = nI cx ∧ y = nI cy ∧ (nI 32 ≤ c ∧ c ≤ nI 126) ∧ r = v (72 + 12 * cy + cx) ∧ MR mu2 m (upd v (72 + 12 * cy + cx) c) tl tx bp (ucN uc) (usN uc us v) kp sn)) ∧ zfrm mu mu2 m)) := by
  have hN0 : m < S.1 := hS.lt (i := 0) (by decide)
  have hN1 : m + 1 < S.1 := hS.lt (by decide)
  obtain ⟨⟨-, k0, k1, -⟩, r0, -⟩ := id hS
  have huc := hM.2.2.2.1.2.1
  have h5 := hM.2.2.2.1.1
  refine zM.ofG (by decide +kernel) (Nat.le_of_ble_eq_true rfl) ?_
  refine zg_iload_n (i := 1) dX3_poke_0 rfl rfl ?_
  refine zg_iload_n (i := 2) dX3_poke_1 rfl rfl ?_
  refine zg_callSi (cm_isCell S mu x y) dX3_poke_2 ctX3_isCell mlX3_65 rfl rfl (Nat.le_of_ble_eq_true rfl) ⟨by decide, by decide⟩ ⟨Nat.le_refl _, Nat.le_refl _⟩ (fun r mu2 h2 => ?_)
  obtain ⟨rfl, rfl⟩ := h2
  rcases atC_cs x y with ⟨cx, cy, hx, hy, rfl, rfl⟩ | ⟨h1, h2⟩
  · rw [if_pos (cellC hx hy)]
    first | with_reducible refine zg_ifN_eq (tgt := 19) dX3_poke_5 (by decide) (by omega) (fun c1 => ?_) (fun c1 => ?_) | refine zg_if_eq (tgt := 19) dX3_poke_5 (by decide) (fun c1 => ?_) (fun c1 => ?_)
    · exact absurd c1 (by decide)
    · refine zg_iload_n (i := 3) dX3_poke_8 rfl rfl ?_
      refine zg_bipush (v := nI 32) dX3_poke_9 (by decide) ?_
      refine zg_bipush (v := nI 126) dX3_poke_11 (by decide) ?_
      refine zg_callSi (cm_in S mu2 c (nI 32) (nI 126)) dX3_poke_13 ctX3_in mlX3_44 rfl rfl (Nat.le_of_ble_eq_true rfl) ⟨by decide, by decide⟩ ⟨Nat.le_refl _, Nat.le_refl _⟩ (fun r mu3 h3 => ?_)
      obtain ⟨rfl, rfl⟩ := h3
      by_cases hc : nI 32 ≤ c ∧ c ≤ nI 126
      · rw [if_pos hc]
        first | with_reducible refine zg_ifN_ne (tgt := 21) dX3_poke_16 (by decide) (by omega) (fun c2 => ?_) (fun c2 => ?_) | refine zg_if_ne (tgt := 21) dX3_poke_16 (by decide) (fun c2 => ?_) (fun c2 => ?_)
        · refine zg_aload_n (i := 0) dX3_poke_21 rfl rfl ?_
          refine zg_callVv (cm_remember hS mu3) dX3_poke_22 cvX3_remember mlX3_59 rfl (by assumption) (by assumption) rfl (Nat.le_of_ble_eq_true rfl) ⟨by decide, by decide⟩ ⟨Nat.le_refl _, Nat.le_refl _⟩ (fun mu4 h4 => ?_)
          subst h4
          refine zg_mu (zrow_self (zrow mu3 (m + 2) (cpi (mu3 (m + 2)) (mu3 (m + 1)) 0 289)) (m + 1)).symm ?_
          rw [zrow_n (show m + 1 ≠ m + 2 by omega), hv]
          refine zg_bipush (v := nI 72) dX3_poke_25 (by decide) ?_
          refine zg_bipush (v := nI 12) dX3_poke_27 (by decide) ?_
          refine zg_iload_n (i := 2) dX3_poke_29 rfl rfl ?_
          first | with_reducible refine zg_imulN dX3_poke_30 ?_ | refine zg_imul dX3_poke_30 ?_
          first | with_reducible refine zg_iaddN dX3_poke_31 ?_ | refine zg_iadd dX3_poke_31 ?_
          refine zg_iload_n (i := 1) dX3_poke_32 rfl rfl ?_
          first | with_reducible refine zg_iaddN dX3_poke_33 ?_ | refine zg_iadd dX3_poke_33 ?_
          refine zg_istore (L2 := [_, _, _, _, _, _]) dX3_poke_34 (by decide) rfl ?_
          refine zg_aload_n (i := 0) dX3_poke_36 rfl rfl ?_
          refine zg_getR dX3_poke_37 flX3_7 (by decide) (by assumption) (by assumption) (by assumption) ?_
          refine zg_iload dX3_poke_40 rfl ?_
          first | with_reducible refine zg_ialdR dX3_poke_42 (by assumption) (by assumption) rfl (by omega) (by decide) ?_ | refine zg_iald dX3_poke_42 (by assumption) (by assumption) rfl (by omega) (by decide) ?_
          refine zg_istore (L2 := [_, _, _, _, _, _]) dX3_poke_43 (by decide) rfl ?_
          refine zg_aload_n (i := 0) dX3_poke_45 rfl rfl ?_
          refine zg_getR dX3_poke_46 flX3_7 (by decide) (by assumption) (by assumption) (by assumption) ?_
          refine zg_iload dX3_poke_49 rfl ?_
          refine zg_iload_n (i := 3) dX3_poke_51 rfl rfl ?_
          first | with_reducible refine zg_iastR dX3_poke_52 (by assumption) (by assumption) rfl (by omega) (by decide) ?_ | refine zg_iast dX3_poke_52 (by assumption) (by assumption) rfl (by omega) (by decide) ?_
          refine zg_aload_n (i := 0) dX3_poke_53 rfl rfl ?_
          refine zg_callVv (cm_saveBefore hS _ huc (by rw [zrow_n (by omega), zrow_n (by omega)]; exact h5)) dX3_poke_54 cvX3_saveBefore mlX3_62 rfl (by assumption) (by assumption) rfl (Nat.le_of_ble_eq_true rfl) ⟨by decide, by decide⟩ ⟨Nat.le_refl _, Nat.le_refl _⟩ (fun mu5 h6 => ?_)
          refine zg_iload dX3_poke_57 rfl ?_
          refine zg_iret dX3_poke_59 rfl ⟨_, rfl, rfl, Or.inr ⟨cx, cy, hx, hy, rfl, rfl, hc, rfl, MR_save hM (fun q h1 h2 _ => by rw [zrow_n h1, zrow_n h2]) (fun j hj => ?_) (fun j hj => by rw [zrow_s]) h6⟩, SB_fr (fun q hq => by rw [zrow_n (by omega), zrow_n (by omega)]) h6⟩
          rw [zrow_n (by omega), zrow_s, cpi_in (by omega) (by omega), Nat.sub_zero]
        · exact absurd c2 (by decide)
      · rw [if_neg hc]
        first | with_reducible refine zg_ifN_ne (tgt := 21) dX3_poke_16 (by decide) (by omega) (fun c2 => ?_) (fun c2 => ?_) | refine zg_if_ne (tgt := 21) dX3_poke_16 (by decide) (fun c2 => ?_) (fun c2 => ?_)
        · exact absurd rfl c2
        · refine zg_iconst (v := -1) dX3_poke_19 (by decide) ?_
          refine zg_iret dX3_poke_20 rfl ⟨_, rfl, rfl, Or.inl ⟨?_, rfl, rfl⟩, fun _ _ => rfl⟩
          rintro ⟨cx', cy', -, -, -, -, h9⟩
          exact hc h9
  · rw [if_neg h1]
    first | with_reducible refine zg_ifN_eq (tgt := 19) dX3_poke_5 (by decide) (by omega) (fun c1 => ?_) (fun c1 => ?_) | refine zg_if_eq (tgt := 19) dX3_poke_5 (by decide) (fun c1 => ?_) (fun c1 => ?_)
    · refine zg_iconst (v := -1) dX3_poke_19 (by decide) ?_
      refine zg_iret dX3_poke_20 rfl ⟨_, rfl, rfl, Or.inl ⟨?_, rfl, rfl⟩, fun _ _ => rfl⟩
      rintro ⟨cx', cy', w1, w2, w3, w4, -⟩
      exact h1 (by rw [w3, w4]; exact cellC w1 w2)
    · exact absurd rfl c1
set_option maxRecDepth 20000 in
theorem cm_undo {S : zS} {m : Nat} (hS : MS S m) {mu : zU} {tl uc : Nat} {v tx bp kp : Nat → Int32} {us sn : Nat → Nat → Int32} (hM : MR mu m v tl tx bp uc us kp sn) : zM yX3_undo cX3_undo 2 (some .int) 0 0 0 [.inr (m + 1)] S mu (zPi S (fun r mu2 => ((uc = 0 ∧ r = -2 ∧ mu2 = mu) ∨ (1 ≤ uc ∧ r = nI (uc - 1) ∧ MR mu2 m (us (uc - 1)) tl tx bp (uc - 1) us kp sn)) ∧ zfrm mu mu2 m)) := by
  have hN0 : m < S.1 := hS.lt (i := 0) (by decide)
  have hN1 : m + 1 < S.1 := hS.lt (by decide)
  obtain ⟨⟨-, k0, k1, -⟩, r0, -⟩ := id hS
  obtain ⟨v1, ⟨t1, t2, t3⟩, b1, ⟨u1, u2, u3⟩, s1⟩ := id hM
  refine zM.ofG (by decide +kernel) (Nat.le_of_ble_eq_true rfl) ?_
  refine zg_aload_n (i := 0) dX3_undo_0 rfl rfl ?_
  first | with_reducible refine zg_getIR dX3_undo_1 flX3_48 (by decide) (by assumption) (by assumption) (by omega) ?_ | refine zg_getI dX3_undo_1 flX3_48 (by decide) (by assumption) (by assumption) ?_
  refine zg_val u1 ?_
  first | with_reducible refine zg_ifN_ne (tgt := 10) dX3_undo_4 (by decide) (by omega) (fun c => ?_) (fun c => ?_) | refine zg_if_ne (tgt := 10) dX3_undo_4 (by decide) (fun c => ?_) (fun c => ?_)
  · refine zg_aload_n (i := 0) dX3_undo_10 rfl rfl ?_
    refine zg_dup dX3_undo_11 ?_
    first | with_reducible refine zg_getIR dX3_undo_12 flX3_48 (by decide) (by assumption) (by assumption) (by omega) ?_ | refine zg_getI dX3_undo_12 flX3_48 (by decide) (by assumption) (by assumption) ?_
    refine zg_val u1 ?_
    refine zg_iconst (v := nI 1) dX3_undo_15 (by decide) ?_
    first | with_reducible refine zg_isubN dX3_undo_16 (by omega) ?_ | refine zg_isub dX3_undo_16 ?_
    refine zg_putI dX3_undo_17 flX3_48 (by decide) (by assumption) (by assumption) ?_
    refine zg_iconst (v := nI 0) dX3_undo_20 (by decide) ?_
    refine zg_istore_n (i := 1) (L2 := [_, _]) dX3_undo_21 rfl (by decide) rfl ?_
    refine zg_mu (mu2 := zrow (zup mu m 5 (nI (uc - 1))) (m + 1) (cpi (zup mu m 5 (nI (uc - 1)) (m + 1)) (fun j => zup mu m 5 (nI (uc - 1)) (m + 5) (289 * (uc - 1) + j)) 0 0)) (by rw [cpi_0, zrow_self]) ?_
    refine lm_undo hS (zup mu m 5 (nI (uc - 1))) _ (uc := uc - 1) (by omega) (by rw [zup_s, upd_s]) _ ?_ 289 0 rfl
    refine zg_aload_n (i := 0) dX3_undo_56 rfl rfl ?_
    first | with_reducible refine zg_getIR dX3_undo_57 flX3_48 (by decide) (by assumption) (by assumption) (by omega) ?_ | refine zg_getI dX3_undo_57 flX3_48 (by decide) (by assumption) (by assumption) ?_
    refine zg_val (y := nI (uc - 1)) (by first | rw [zup_s, upd_s] | rw [zrow_n (by omega), zup_s, upd_s]) ?_
    refine zg_iret dX3_undo_60 rfl ⟨_, rfl, rfl, Or.inr ⟨by omega, rfl, fun j hj => ?_, ⟨?_, t2, fun j hj => ?_⟩, fun j hj => ?_, ⟨?_, by omega, fun i j hi hj => ?_⟩, fun q hq => ⟨?_, fun e j hj => ?_⟩⟩, fun q hq => ?_⟩
    · rw [zrow_s, cpi_in (by omega) (by omega), Nat.sub_zero, zup_n (by omega)]; exact u3 _ j (by omega) hj
    · rw [zrow_n (by omega), zup_s, upd_n (by omega)]; exact t1
    · rw [zrow_n (by omega), zup_n (by omega)]; exact t3 j hj
    · rw [zrow_n (by omega), zup_n (by omega)]; exact b1 j hj
    · rw [zrow_n (by omega), zup_s, upd_s]
    · rw [zrow_n (by omega), zup_n (by omega)]; exact u3 i j (by omega) hj
    · rw [zrow_n (by omega), zup_n (by omega)]; exact (s1 q hq).1
    · rw [zrow_n (by omega), zup_n (by omega)]; exact (s1 q hq).2 e j hj
    · rw [zrow_n (by omega), zup_n (by omega)]
  · refine zg_bipush (v := -2) dX3_undo_7 (by decide) ?_
    exact zg_iret dX3_undo_9 rfl ⟨_, rfl, rfl, ⟨Or.inl ⟨c, rfl, rfl⟩, fun _ _ => rfl⟩⟩
def qit (v : Nat → Int32) : Nat → Nat → Int32
  | 0 => v
  | n + 1 => qstep (qit v n)
theorem VI_it {v : Nat → Int32} {ol : List Nat} (h : VI v ol) : ∀ n, ∃ ol2, VI (qit v n) ol2
  | 0 => ⟨ol, h⟩
  | n + 1 => by
    obtain ⟨ol2, h2⟩ := VI_it h n
    exact VI_step h2
def qhalt (v : Nat → Int32) : Bool := qhb v (zn v 145)
theorem qhalt_len {v : Nat → Int32} {ol : List Nat} (h : VI v ol) : qhalt v = qhb v ol.length := by rw [qhalt, zn_of h.1.1 (by have := h.1.2.2; omega)]
def HL (v : Nat → Int32) (lim : Nat) (r : Int32) : Prop := (∃ n, n ≤ lim ∧ qhalt (qit v n) = true ∧ (∀ k, k < n → qhalt (qit v k) = false) ∧ r = nI n) ∨ ((∀ k, k ≤ lim → qhalt (qit v k) = false) ∧ r = -9)
theorem HL_one {v : Nat → Int32} {lim : Nat} {r s : Int32} (h1 : HL v lim r) (h2 : HL v lim s) : r = s := by
  rcases h1 with ⟨n, a1, a2, a3, rfl⟩ | ⟨a1, rfl⟩ <;> rcases h2 with ⟨n', b1, b2, b3, rfl⟩ | ⟨b1, rfl⟩
  · have : n = n' := by
      rcases Nat.lt_trichotomy n n' with h | h | h
      · exact absurd a2 (by rw [b3 n h]; decide)
      · exact h
      · exact absurd b2 (by rw [a3 n' h]; decide)
    rw [this]
  · exact absurd a2 (by rw [b1 n a1]; decide)
  · exact absurd b2 (by rw [a1 n' b1]; decide)
  · rfl
set_option maxRecDepth 20000 in
theorem lm_halts28 {S : zS} {m : Nat} (hS : MS S m) (mu : zU) {v : Nat → Int32} {ol : List Nat} {lim n : Nat} {l3 : Option zV} (hV : VI v ol) (hlim : lim ≤ 200) (hn : n ≤ lim) (hno : ∀ k, k < n → qhalt (qit v k) = false) (hend : n = lim ∨ qhalt (qit v n) = true) (hv : ∀ j, j < 289 → mu (m + 3) j = v j) (Ph : Option zV → zS → zU → Prop) (hx : ∀ r w, HL v lim r → (∀ j, j < 289 → w j = v j) → Ph (some (.inl r)) S (zrow mu (m + 1) w)) :
    zG RX3 "halts" cX3_halts 4 (some .int) (zroom 7 0 0) 0 0 Ph 28 [some (.inr (m + 1)), some (.inl (nI lim)), some (.inl (nI n)), l3] [] S (zrow mu (m + 1) (qit v n)) 0 0 := by
  have hN0 : m < S.1 := hS.lt (i := 0) (by decide)
  have k0 := hS.1.2.1
  obtain ⟨ol2, hV2⟩ := VI_it hV n
  have hfin : ∀ r, HL v lim r → zG RX3 "halts" cX3_halts 4 (some .int) (zroom 7 0 0) 0 0 Ph 41 [some (.inr (m + 1)), some (.inl (nI lim)), some (.inl (nI n)), l3] [.inl r] S (zrow mu (m + 1) (qit v n)) 0 0 := by
    intro r hr
    refine zg_istore_n (i := 3) (L2 := [_, _, _, _]) dX3_halts_41 rfl (by decide) rfl ?_
    refine zg_aload_n (i := 0) dX3_halts_42 rfl rfl ?_
    refine zg_callVv (cm_takeBack hS _) dX3_halts_43 cvX3_takeBack mlX3_164 rfl (by assumption) (by assumption) rfl (Nat.le_of_ble_eq_true rfl) ⟨by decide, by decide⟩ ⟨Nat.le_refl _, Nat.le_refl _⟩ (fun mu2 h2 => ?_)
    subst h2
    refine zg_iload_n (i := 3) dX3_halts_46 rfl rfl ?_
    rw [zrow_row]
    exact zg_iret dX3_halts_47 rfl (hx r _ hr (fun j hj => by rw [cpi_in (by omega) (by omega), zrow_n (by omega), Nat.sub_zero]; exact hv j hj))
  refine zg_aload_n (i := 0) dX3_halts_28 rfl rfl ?_
  refine zg_callVi (cm_isHalted hS mu hV2.1.1 hV2.1.2.2) dX3_halts_29 cvX3_isHalted mlX3_144 rfl (by assumption) (by assumption) rfl (Nat.le_of_ble_eq_true rfl) ⟨by decide, by decide⟩ ⟨Nat.le_refl _, Nat.le_refl _⟩ (fun r mu2 h2 => ?_)
  obtain ⟨rfl, rfl⟩ := h2
  have hq := qhalt_len hV2
  by_cases hb : qhb (qit v n) ol2.length = true
  · rw [if_pos hb]
    first | with_reducible refine zg_ifN_eq (tgt := 39) dX3_halts_32 (by decide) (by omega) (fun c => ?_) (fun c => ?_) | refine zg_if_eq (tgt := 39) dX3_halts_32 (by decide) (fun c => ?_) (fun c => ?_)
    · exact absurd c (by decide)
    · refine zg_iload_n (i := 2) dX3_halts_35 rfl rfl ?_
      refine zg_goto (tgt := 41) dX3_halts_36 (by decide) ?_
      exact hfin _ (Or.inl ⟨n, hn, by rw [hq, hb], hno, rfl⟩)
  · rw [if_neg hb]
    first | with_reducible refine zg_ifN_eq (tgt := 39) dX3_halts_32 (by decide) (by omega) (fun c => ?_) (fun c => ?_) | refine zg_if_eq (tgt := 39) dX3_halts_32 (by decide) (fun c => ?_) (fun c => ?_)
    · refine zg_bipush (v := -9) dX3_halts_39 (by decide) ?_
      refine hfin _ (Or.inr ⟨fun k hk => ?_, rfl⟩)
      have hb' : qhalt (qit v n) = false := by rw [hq]; simpa using hb
      rcases Nat.lt_or_ge k n with h1 | h1
      · exact hno k h1
      · rcases hend with h2 | h2
        · rw [show k = n by omega]; exact hb'
        · rw [hb'] at h2; cases h2
    · exact absurd rfl c
set_option maxRecDepth 20000 in
theorem lm_halts6 {S : zS} {m : Nat} (hS : MS S m) {v : Nat → Int32} {ol : List Nat} {lim : Nat} {l3 : Option zV} (hV : VI v ol) (hlim : lim ≤ 200) (mu0 : zU) (Ph : Option zV → zS → zU → Prop) (hx : ∀ A r w, (∀ q, q ≠ m + 10 → A q = mu0 q) → HL v lim r → (∀ j, j < 289 → w j = v j) → Ph (some (.inl r)) S (zrow A (m + 1) w)) (hv : ∀ j, j < 289 → mu0 (m + 3) j = v j) :
    ∀ (t n : Nat) (mu : zU), n + t = lim → (∀ k, k < n → qhalt (qit v k) = false) → (∀ q, q ≠ m + 10 → mu q = mu0 q) → zG RX3 "halts" cX3_halts 4 (some .int) (zroom 7 0 0) 0 0 Ph 6 [some (.inr (m + 1)), some (.inl (nI lim)), some (.inl (nI n)), l3] [] S (zrow mu (m + 1) (qit v n)) 0 0 := by
  have hN0 : m < S.1 := hS.lt (i := 0) (by decide)
  have k0 := hS.1.2.1
  intro t
  induction t with
  | zero =>
    intro n mu hn hno hmu
    refine zg_iload_n (i := 2) dX3_halts_6 rfl rfl ?_
    refine zg_iload_n (i := 1) dX3_halts_7 rfl rfl ?_
    first | with_reducible refine zg_icmpN_ge (tgt := 28) dX3_halts_8 (by decide) (by omega) (by omega) (fun c => ?_) (fun c => ?_) | refine zg_icmp_ge (tgt := 28) dX3_halts_8 (by decide) (fun c => ?_) (fun c => ?_)
    · exact lm_halts28 hS mu hV hlim (by omega) hno (Or.inl (by omega)) (fun j hj => by rw [hmu _ (by omega)]; exact hv j hj) Ph (fun r w h1 h2 => hx mu r w hmu h1 h2)
    · omega
  | succ t ih =>
    intro n mu hn hno hmu
    obtain ⟨ol2, hV2⟩ := VI_it hV n
    have hq := qhalt_len hV2
    refine zg_iload_n (i := 2) dX3_halts_6 rfl rfl ?_
    refine zg_iload_n (i := 1) dX3_halts_7 rfl rfl ?_
    first | with_reducible refine zg_icmpN_ge (tgt := 28) dX3_halts_8 (by decide) (by omega) (by omega) (fun c => ?_) (fun c => ?_) | refine zg_icmp_ge (tgt := 28) dX3_halts_8 (by decide) (fun c => ?_) (fun c => ?_)
    · omega
    · refine zg_aload_n (i := 0) dX3_halts_11 rfl rfl ?_
      refine zg_callVi (cm_isHalted hS mu hV2.1.1 hV2.1.2.2) dX3_halts_12 cvX3_isHalted mlX3_144 rfl (by assumption) (by assumption) rfl (Nat.le_of_ble_eq_true rfl) ⟨by decide, by decide⟩ ⟨Nat.le_refl _, Nat.le_refl _⟩ (fun r mu2 h2 => ?_)
      obtain ⟨rfl, rfl⟩ := h2
      by_cases hb : qhb (qit v n) ol2.length = true
      · rw [if_pos hb]
        first | with_reducible refine zg_ifN_ne (tgt := 28) dX3_halts_15 (by decide) (by omega) (fun c2 => ?_) (fun c2 => ?_) | refine zg_if_ne (tgt := 28) dX3_halts_15 (by decide) (fun c2 => ?_) (fun c2 => ?_)
        · exact lm_halts28 hS mu hV hlim (by omega) hno (Or.inr (by rw [hq, hb])) (fun j hj => by rw [hmu _ (by omega)]; exact hv j hj) Ph (fun r w h1 h2 => hx mu r w hmu h1 h2)
        · exact absurd c2 (by decide)
      · rw [if_neg hb]
        first | with_reducible refine zg_ifN_ne (tgt := 28) dX3_halts_15 (by decide) (by omega) (fun c2 => ?_) (fun c2 => ?_) | refine zg_if_ne (tgt := 28) dX3_halts_15 (by decide) (fun c2 => ?_) (fun c2 => ?_)
        · exact absurd rfl c2
        · refine zg_aload_n (i := 0) dX3_halts_18 rfl rfl ?_
          refine zg_callVv (cm_step hS mu hV2) dX3_halts_19 cvX3_step mlX3_148 rfl (by assumption) (by assumption) rfl (Nat.le_of_ble_eq_true rfl) ⟨by decide, by decide⟩ ⟨Nat.le_refl _, Nat.le_refl _⟩ (fun mu3 h3 => ?_)
          obtain ⟨A, hA, rfl⟩ := h3
          refine zg_iinc1 (L2 := [_, _, _, _]) dX3_halts_22 (by decide) rfl rfl ?_
          refine zg_goto (tgt := 6) dX3_halts_25 (by decide) ?_
          refine ih (n + 1) A (by omega) (fun k hk => ?_) (fun q hq2 => by rw [hA q hq2, hmu q hq2])
          rcases Nat.lt_or_ge k n with h1 | h1
          · exact hno k h1
          · rw [show k = n by omega, hq]; simpa using hb
set_option maxRecDepth 20000 in
theorem cm_halts {S : zS} {m : Nat} (hS : MS S m) (mu : zU) {ol : List Nat} (hV : VI (mu (m + 1)) ol) {lim : Nat} (hlim : lim ≤ 200) : zM yX3_halts cX3_halts 4 (some .int) 7 0 0 [.inr (m + 1), .inl (nI lim)] S mu (zPi S (fun r mu2 => HL (mu (m + 1)) lim r ∧ (∀ j, j < 289 → mu2 (m + 1) j = mu (m + 1) j) ∧ ∀ q, q ≠ m + 1 → q ≠ m + 3 → q ≠ m + 10 → mu2 q = mu q)) := by
  have hN0 : m < S.1 := hS.lt (i := 0) (by decide)
  have k0 := hS.1.2.1
  refine zM.ofG (by decide +kernel) (Nat.le_of_ble_eq_true rfl) ?_
  refine zg_aload_n (i := 0) dX3_halts_0 rfl rfl ?_
  refine zg_callVv (cm_setAside hS mu) dX3_halts_1 cvX3_setAside mlX3_161 rfl (by assumption) (by assumption) rfl (Nat.le_of_ble_eq_true rfl) ⟨by decide, by decide⟩ ⟨Nat.le_refl _, Nat.le_refl _⟩ (fun mu2 h2 => ?_)
  subst h2
  refine zg_iconst (v := nI 0) dX3_halts_4 (by decide) ?_
  refine zg_istore_n (i := 2) (L2 := [_, _, _, _]) dX3_halts_5 rfl (by decide) rfl ?_
  refine zg_mu (zrow_self (zrow mu (m + 3) (cpi (mu (m + 3)) (mu (m + 1)) 0 289)) (m + 1)).symm ?_
  rw [zrow_n (show m + 1 ≠ m + 3 by omega)]
  refine lm_halts6 hS hV hlim (zrow mu (m + 3) (cpi (mu (m + 3)) (mu (m + 1)) 0 289)) _ ?_ (fun j hj => by rw [zrow_s, cpi_in (by omega) (by omega), Nat.sub_zero]) lim 0 _ (by omega) (fun k hk => absurd hk (by omega)) (fun _ _ => rfl)
  intro A r w h1 h2 h3
  exact ⟨_, rfl, rfl, h2, fun j hj => by rw [zrow_s]; exact h3 j hj, fun q a c d => by rw [zrow_n a, h1 q d, zrow_n c]⟩
