/-! THE CLASS: append, save, restore; breakpoints; runs -/
set_option maxRecDepth 20000 in
theorem cx_append {S : zS} {x : Nat} {pm : Nat → Nat} (hS : XS S x pm) {mu : zU} {tl uc : Nat} {v tx bp kp : Nat → Int32} {us sn : Nat → Nat → Int32} (hX : XR mu x pm v tl tx bp uc us kp sn) (c : Int32) : zM yX2_append cX2_append 2 (some .int) 0 0 0 [.inr (x + 1), .inl c] S mu (zPi S (fun r mu2 => ((¬ (nI 0 ≤ c ∧ c ≤ nI 255) ∧ r = -1 ∧ mu2 = mu) ∨ ((nI 0 ≤ c ∧ c ≤ nI 255) ∧ tl = 90 ∧ r = -3 ∧ mu2 = mu) ∨ ((nI 0 ≤ c ∧ c ≤ nI 255) ∧ tl < 90 ∧ r = nI (tl + 1) ∧ XR mu2 x pm v (tl + 1) (upd tx tl c) bp uc us kp sn)) ∧ zfr mu mu2 x 215)) := by
  have hN0 : x < S.1 := hS.lt (i := 0) (by decide)
  have hN1 : x + 1 < S.1 := hS.lt (by decide)
  have xk0 := hS.1.2.1
  have xk1 := hS.1.2.2.1
  have xr0 := hS.2.1.1
  obtain ⟨⟨ol, v1⟩, ⟨t1, t2, t3⟩, ⟨b1, b2⟩, ⟨u1, u2, u3⟩, s1⟩ := id hX
  refine zM.ofG (by decide +kernel) (Nat.le_of_ble_eq_true rfl) ?_
  refine zg_iload_n (i := 1) dX2_append_0 rfl rfl ?_
  refine zg_if_lt (tgt := 11) dX2_append_1 (by decide) (fun h1 => ?_) (fun h1 => ?_)
  · refine zg_iconst (v := -1) dX2_append_11 (by decide) ?_
    exact zg_iret dX2_append_12 rfl ⟨_, rfl, rfl, ⟨Or.inl ⟨fun z => Int32.not_lt.mpr z.1 h1, rfl, rfl⟩, zfr.rf _ _ _⟩⟩
  · refine zg_iload_n (i := 1) dX2_append_4 rfl rfl ?_
    refine zg_sipush (v := nI 255) dX2_append_5 (by decide) ?_
    refine zg_icmp_le (tgt := 13) dX2_append_8 (by decide) (fun h2 => ?_) (fun h2 => ?_)
    · have hc : nI 0 ≤ c ∧ c ≤ nI 255 := ⟨Int32.not_lt.mp h1, h2⟩
      refine zg_aload_n (i := 0) dX2_append_13 rfl rfl ?_
      first | with_reducible refine zg_getIR dX2_append_14 flX2_40 (by decide) (by assumption) (by assumption) (by omega) ?_ | refine zg_getI dX2_append_14 flX2_40 (by decide) (by assumption) (by assumption) ?_
      refine zg_val t1 ?_
      refine zg_bipush (v := nI 90) dX2_append_17 (by decide) ?_
      first | with_reducible refine zg_icmpN_lt (tgt := 25) dX2_append_19 (by decide) (by omega) (by omega) (fun h3 => ?_) (fun h3 => ?_) | refine zg_icmp_lt (tgt := 25) dX2_append_19 (by decide) (fun h3 => ?_) (fun h3 => ?_)
      · refine zg_aload_n (i := 0) dX2_append_25 rfl rfl ?_
        refine zg_getR dX2_append_26 flX2_9 (by decide) (by assumption) (by assumption) (by assumption) ?_
        refine zg_aload_n (i := 0) dX2_append_29 rfl rfl ?_
        first | with_reducible refine zg_getIR dX2_append_30 flX2_40 (by decide) (by assumption) (by assumption) (by omega) ?_ | refine zg_getI dX2_append_30 flX2_40 (by decide) (by assumption) (by assumption) ?_
        refine zg_val t1 ?_
        refine zg_iload_n (i := 1) dX2_append_33 rfl rfl ?_
        first | with_reducible refine zg_iastR dX2_append_34 (by assumption) (by assumption) rfl (by omega) (by decide) ?_ | refine zg_iast dX2_append_34 (by assumption) (by assumption) rfl (by omega) (by decide) ?_
        refine zg_aload_n (i := 0) dX2_append_35 rfl rfl ?_
        refine zg_dup dX2_append_36 ?_
        first | with_reducible refine zg_getIR dX2_append_37 flX2_40 (by decide) (by assumption) (by assumption) (by omega) ?_ | refine zg_getI dX2_append_37 flX2_40 (by decide) (by assumption) (by assumption) ?_
        refine zg_val (y := nI tl) (by first | exact t1 | (rw [zup_n (by omega)]; exact t1)) ?_
        refine zg_iconst (v := nI 1) dX2_append_40 (by decide) ?_
        first | with_reducible refine zg_iaddN dX2_append_41 ?_ | refine zg_iadd dX2_append_41 ?_
        refine zg_putI dX2_append_42 flX2_40 (by decide) (by assumption) (by assumption) ?_
        refine zg_aload_n (i := 0) dX2_append_45 rfl rfl ?_
        first | with_reducible refine zg_getIR dX2_append_46 flX2_40 (by decide) (by assumption) (by assumption) (by omega) ?_ | refine zg_getI dX2_append_46 flX2_40 (by decide) (by assumption) (by assumption) ?_
        refine zg_val (y := nI (tl + 1)) (by rw [zup_s, upd_s]) ?_
        refine zg_iret dX2_append_49 rfl ⟨_, rfl, rfl, Or.inr (Or.inr ⟨hc, h3, rfl, ⟨ol, SX_mv v1 (fun q a b => by rw [zup_n (by omega), zup_n (by omega)])⟩, ⟨by rw [zup_s, upd_s], by omega, fun j hj => ?_⟩, ⟨fun j hj => ?_, ?_⟩, ⟨?_, u2, fun i hi => ?_⟩, fun q hq => ⟨?_, (s1 q hq).2.1, fun e => ?_⟩⟩), fun q hq => by rw [zup_n (by omega), zup_n (by omega)]⟩
        · rw [zup_n (by omega), zup_s]
          by_cases hjt : j = tl
          · rw [hjt, upd_s, upd_s]
          · rw [upd_n hjt, upd_n hjt]; exact t3 j (by omega)
        · rw [zup_n (by omega), zup_n (by omega)]; exact b1 j hj
        · rw [zup_s, upd_n (by omega), zup_n (by omega)]; exact b2
        · rw [zup_s, upd_n (by omega), zup_n (by omega)]; exact u1
        · obtain ⟨ol2, h2⟩ := u3 i hi
          exact ⟨ol2, SX_mv h2 (fun q a b => by rw [zup_n (by omega), zup_n (by omega)])⟩
        · rw [zup_n (by omega), zup_n (by omega)]; exact (s1 q hq).1
        · obtain ⟨ol2, h2⟩ := (s1 q hq).2.2 e
          exact ⟨ol2, SX_mv h2 (fun q a b => by rw [zup_n (by omega), zup_n (by omega)])⟩
      · refine zg_bipush (v := -3) dX2_append_22 (by decide) ?_
        exact zg_iret dX2_append_24 rfl ⟨_, rfl, rfl, ⟨Or.inr (Or.inl ⟨hc, by omega, rfl, rfl⟩), zfr.rf _ _ _⟩⟩
    · refine zg_iconst (v := -1) dX2_append_11 (by decide) ?_
      exact zg_iret dX2_append_12 rfl ⟨_, rfl, rfl, ⟨Or.inl ⟨fun z => h2 z.2, rfl, rfl⟩, zfr.rf _ _ _⟩⟩
set_option maxRecDepth 20000 in
theorem cx_save {S : zS} {x : Nat} {pm : Nat → Nat} (hS : XS S x pm) {mu : zU} {tl uc : Nat} {v tx bp kp : Nat → Int32} {us sn : Nat → Nat → Int32} (hX : XR mu x pm v tl tx bp uc us kp sn) (e : Int32) : zM yX2_save cX2_save 2 (some .int) 3 0 0 [.inr (x + 1), .inl e] S mu (zPi S (fun r mu2 => ((¬ (0 ≤ e ∧ e < nI 2) ∧ r = -1 ∧ mu2 = mu) ∨ (∃ s, s < 2 ∧ e = nI s ∧ r = v 144 ∧ XR mu2 x pm v tl tx bp uc us (upd kp s (nI 1)) (snN s v sn))) ∧ zfr mu mu2 x 215)) := by
  have hN0 : x < S.1 := hS.lt (i := 0) (by decide)
  have hNs : x + 3 < S.1 := hS.lt (by decide)
  have hN137 : x + 137 < S.1 := hS.lt (by decide)
  have hN176 : x + 176 < S.1 := hS.lt (by decide)
  obtain ⟨-, xk0, -, -, -, xk137, xk176⟩ := hS.1
  obtain ⟨-, -, xr4, -, xr7, xr8, -⟩ := hS.2.1
  have sk0 := hS.2.2.1.1.2.1
  obtain ⟨⟨ol, v1⟩, ⟨t1, t2, t3⟩, ⟨b1, b2⟩, ⟨u1, u2, u3⟩, s1⟩ := id hX
  refine zM.ofG (by decide +kernel) (Nat.le_of_ble_eq_true rfl) ?_
  refine zg_iload_n (i := 1) dX2_save_0 rfl rfl ?_
  refine zg_if_lt (tgt := 9) dX2_save_1 (by decide) (fun h1 => ?_) (fun h1 => ?_)
  · refine zg_iconst (v := -1) dX2_save_9 (by decide) ?_
    exact zg_iret dX2_save_10 rfl ⟨_, rfl, rfl, ⟨Or.inl ⟨fun z => Int32.not_lt.mpr z.1 h1, rfl, rfl⟩, zfr.rf _ _ _⟩⟩
  · refine zg_iload_n (i := 1) dX2_save_4 rfl rfl ?_
    refine zg_iconst (v := nI 2) dX2_save_5 (by decide) ?_
    refine zg_icmp_lt (tgt := 11) dX2_save_6 (by decide) (fun h2 => ?_) (fun h2 => ?_)
    · obtain ⟨s, hs, rfl⟩ := atN_ix (p := e) (n := 2) (by omega) ⟨Int32.not_lt.mp h1, h2⟩
      obtain ⟨hr, hSs⟩ := hS.2.2.2.2.2 s hs
      have ks0 := hSs.2.1
      have ksN : x + 138 + 19 * s < S.1 := by have := hSs.1; omega
      refine zg_aload_n (i := 0) dX2_save_11 rfl rfl ?_
      refine zg_getR dX2_save_12 flX2_28 (by decide) (by assumption) (by assumption) (by assumption) ?_
      refine zg_iload_n (i := 1) dX2_save_15 rfl rfl ?_
      first | refine zg_pald dX2_save_16 (by assumption) (by assumption) rfl (by omega) (by decide) (by assumption) ?_ | refine zg_sald dX2_save_16 (by assumption) (by assumption) rfl (by omega) (by decide) (by assumption) ?_
      refine zg_aload_n (i := 0) dX2_save_17 rfl rfl ?_
      refine zg_getR dX2_save_18 flX2_20 (by decide) (by assumption) (by assumption) (by assumption) ?_
      refine zg_callVv (cx_copyS hSs hS.2.2.1.1 (Or.inr (by omega)) v1) dX2_save_21 cvX1_copyFrom mlX2_91 rfl (by assumption) (by assumption) rfl (Nat.le_of_ble_eq_true rfl) ⟨by decide, by decide⟩ ⟨Nat.le_refl _, Nat.le_refl _⟩ (fun mu2 h3 => ?_)
      obtain ⟨h4, h5⟩ := h3
      refine zg_aload_n (i := 0) dX2_save_24 rfl rfl ?_
      refine zg_getR dX2_save_25 flX2_31 (by decide) (by assumption) (by assumption) (by assumption) ?_
      refine zg_iload_n (i := 1) dX2_save_28 rfl rfl ?_
      refine zg_iconst (v := nI 1) dX2_save_29 (by decide) ?_
      refine zg_zast dX2_save_30 (by assumption) (by assumption) rfl (by omega) (by decide) (by first | assumption | (left; rfl) | (right; rfl)) ?_
      refine zg_aload_n (i := 0) dX2_save_31 rfl rfl ?_
      refine zg_getR dX2_save_32 flX2_20 (by decide) (by assumption) (by assumption) (by assumption) ?_
      first | with_reducible refine zg_getIR dX2_save_35 flX2_63 (by decide) (by assumption) (by assumption) (by omega) ?_ | refine zg_getI dX2_save_35 flX2_63 (by decide) (by assumption) (by assumption) ?_
      refine zg_val (y := v 144) (by first | (rw [zup_n (by omega), h5 _ (by omega)]; exact v1.2.2.2.2.2.2.2.2.2.2.1) | (rw [h5 _ (by omega)]; exact v1.2.2.2.2.2.2.2.2.2.2.1)) ?_
      refine zg_iret dX2_save_38 rfl ⟨_, rfl, rfl, Or.inr ⟨s, hs, rfl, rfl, ⟨ol, SX_mv v1 (fun q a b => by rw [zup_n (by omega), h5 q (by omega)])⟩, ⟨?_, t2, fun j hj => ?_⟩, ⟨fun j hj => ?_, ?_⟩, ⟨?_, u2, fun i hi => ?_⟩, fun q hq => ⟨?_, ?_, fun e => ?_⟩⟩, fun q hq => by rw [zup_n (by omega), h5 q (by omega)]⟩
      · rw [zup_n (by omega), h5 _ (by omega)]; exact t1
      · rw [zup_n (by omega), h5 _ (by omega)]; exact t3 j hj
      · rw [zup_n (by omega), h5 _ (by omega)]; exact b1 j hj
      · rw [zup_n (by omega), h5 _ (by omega)]; exact b2
      · rw [zup_n (by omega), h5 _ (by omega)]; exact u1
      · obtain ⟨ol2, h6⟩ := u3 i hi
        have := (hS.2.2.2.1 i (by omega)).2.2
        exact ⟨ol2, SX_mv h6 (fun q a b => by rw [zup_n (by omega), h5 q (by omega)])⟩
      · rw [zup_s]
        by_cases hqs : q = s
        · rw [hqs, upd_s, upd_s]
        · rw [upd_n hqs, upd_n hqs, h5 _ (by omega)]; exact (s1 q hq).1
      · by_cases hqs : q = s
        · rw [hqs, upd_s]; exact Or.inr rfl
        · rw [upd_n hqs]; exact (s1 q hq).2.1
      · rw [snN]
        by_cases hqs : q = s
        · rw [if_pos hqs, hqs]
          exact ⟨ol, SX_mv h4 (fun q a b => by rw [zup_n (by omega)])⟩
        · rw [if_neg hqs]
          rw [upd_n hqs] at e
          obtain ⟨ol2, h6⟩ := (s1 q hq).2.2 e
          exact ⟨ol2, SX_mv h6 (fun q2 a b => by rw [zup_n (by omega), h5 q2 (by omega)])⟩
    · refine zg_iconst (v := -1) dX2_save_9 (by decide) ?_
      exact zg_iret dX2_save_10 rfl ⟨_, rfl, rfl, ⟨Or.inl ⟨fun z => h2 z.2, rfl, rfl⟩, zfr.rf _ _ _⟩⟩
set_option maxRecDepth 20000 in
theorem cx_restore {S : zS} {x : Nat} {pm : Nat → Nat} (hS : XS S x pm) {mu : zU} {tl uc : Nat} {v tx bp kp : Nat → Int32} {us sn : Nat → Nat → Int32} (hX : XR mu x pm v tl tx bp uc us kp sn) (e : Int32) : zM yX2_restore cX2_restore 2 (some .int) 3 0 0 [.inr (x + 1), .inl e] S mu (zPi S (fun r mu2 => ((¬ (0 ≤ e ∧ e < nI 2) ∧ r = -1 ∧ mu2 = mu) ∨ (∃ s, s < 2 ∧ e = nI s ∧ ((kp s = nI 0 ∧ r = -2 ∧ mu2 = mu) ∨ (kp s = nI 1 ∧ r = sn s 144 ∧ XR mu2 x pm (sn s) tl tx bp 0 us kp sn)))) ∧ zfr mu mu2 x 215)) := by
  have hN0 : x < S.1 := hS.lt (i := 0) (by decide)
  have hNs : x + 3 < S.1 := hS.lt (by decide)
  have hN137 : x + 137 < S.1 := hS.lt (by decide)
  have hN176 : x + 176 < S.1 := hS.lt (by decide)
  obtain ⟨-, xk0, -, -, -, xk137, xk176⟩ := hS.1
  obtain ⟨-, -, xr4, -, xr7, xr8, -⟩ := hS.2.1
  have sk0 := hS.2.2.1.1.2.1
  obtain ⟨⟨ol, v1⟩, ⟨t1, t2, t3⟩, ⟨b1, b2⟩, ⟨u1, u2, u3⟩, s1⟩ := id hX
  refine zM.ofG (by decide +kernel) (Nat.le_of_ble_eq_true rfl) ?_
  refine zg_iload_n (i := 1) dX2_restore_0 rfl rfl ?_
  refine zg_if_lt (tgt := 9) dX2_restore_1 (by decide) (fun h1 => ?_) (fun h1 => ?_)
  · refine zg_iconst (v := -1) dX2_restore_9 (by decide) ?_
    exact zg_iret dX2_restore_10 rfl ⟨_, rfl, rfl, ⟨Or.inl ⟨fun z => Int32.not_lt.mpr z.1 h1, rfl, rfl⟩, zfr.rf _ _ _⟩⟩
  · refine zg_iload_n (i := 1) dX2_restore_4 rfl rfl ?_
    refine zg_iconst (v := nI 2) dX2_restore_5 (by decide) ?_
    refine zg_icmp_lt (tgt := 11) dX2_restore_6 (by decide) (fun h2 => ?_) (fun h2 => ?_)
    · obtain ⟨s, hs, rfl⟩ := atN_ix (p := e) (n := 2) (by omega) ⟨Int32.not_lt.mp h1, h2⟩
      obtain ⟨hr, hSs⟩ := hS.2.2.2.2.2 s hs
      refine zg_aload_n (i := 0) dX2_restore_11 rfl rfl ?_
      refine zg_getR dX2_restore_12 flX2_31 (by decide) (by assumption) (by assumption) (by assumption) ?_
      refine zg_iload_n (i := 1) dX2_restore_15 rfl rfl ?_
      refine zg_zald dX2_restore_16 (by assumption) (by assumption) rfl (by omega) (by decide) ?_
      rcases (s1 s hs).2.1 with h5 | h5
      · refine zg_val (y := nI 0) ((s1 s hs).1.trans h5) ?_
        first | with_reducible refine zg_ifN_ne (tgt := 23) dX2_restore_17 (by decide) (by omega) (fun c2 => ?_) (fun c2 => ?_) | refine zg_if_ne (tgt := 23) dX2_restore_17 (by decide) (fun c2 => ?_) (fun c2 => ?_)
        · exact absurd rfl c2
        · refine zg_bipush (v := -2) dX2_restore_20 (by decide) ?_
          exact zg_iret dX2_restore_22 rfl ⟨_, rfl, rfl, ⟨Or.inr ⟨s, hs, rfl, Or.inl ⟨h5, rfl, rfl⟩⟩, zfr.rf _ _ _⟩⟩
      · refine zg_val (y := nI 1) ((s1 s hs).1.trans h5) ?_
        obtain ⟨ol2, h6⟩ := (s1 s hs).2.2 h5
        first | with_reducible refine zg_ifN_ne (tgt := 23) dX2_restore_17 (by decide) (by omega) (fun c2 => ?_) (fun c2 => ?_) | refine zg_if_ne (tgt := 23) dX2_restore_17 (by decide) (fun c2 => ?_) (fun c2 => ?_)
        · refine zg_aload_n (i := 0) dX2_restore_23 rfl rfl ?_
          refine zg_getR dX2_restore_24 flX2_20 (by decide) (by assumption) (by assumption) (by assumption) ?_
          refine zg_aload_n (i := 0) dX2_restore_27 rfl rfl ?_
          refine zg_getR dX2_restore_28 flX2_28 (by decide) (by assumption) (by assumption) (by assumption) ?_
          refine zg_iload_n (i := 1) dX2_restore_31 rfl rfl ?_
          first | refine zg_pald dX2_restore_32 (by assumption) (by assumption) rfl (by omega) (by decide) (by assumption) ?_ | refine zg_sald dX2_restore_32 (by assumption) (by assumption) rfl (by omega) (by decide) (by assumption) ?_
          refine zg_callVv (cx_copyS hS.2.2.1.1 hSs (Or.inl (by omega)) h6) dX2_restore_33 cvX1_copyFrom mlX2_91 rfl (by assumption) (by assumption) rfl (Nat.le_of_ble_eq_true rfl) ⟨by decide, by decide⟩ ⟨Nat.le_refl _, Nat.le_refl _⟩ (fun mu2 h3 => ?_)
          obtain ⟨h4, h7⟩ := h3
          refine zg_aload_n (i := 0) dX2_restore_36 rfl rfl ?_
          refine zg_iconst (v := nI 0) dX2_restore_37 (by decide) ?_
          refine zg_putI dX2_restore_38 flX2_88 (by decide) (by assumption) (by assumption) ?_
          refine zg_aload_n (i := 0) dX2_restore_41 rfl rfl ?_
          refine zg_getR dX2_restore_42 flX2_20 (by decide) (by assumption) (by assumption) (by assumption) ?_
          first | with_reducible refine zg_getIR dX2_restore_45 flX2_63 (by decide) (by assumption) (by assumption) (by omega) ?_ | refine zg_getI dX2_restore_45 flX2_63 (by decide) (by assumption) (by assumption) ?_
          refine zg_val (y := sn s 144) (by first | (rw [zup_n (by omega)]; exact h4.2.2.2.2.2.2.2.2.2.2.1) | exact h4.2.2.2.2.2.2.2.2.2.2.1) ?_
          have hA : XR mu2 x pm (sn s) tl tx bp uc us kp sn := XR_now hS hX (fun q a b => h7 q (by omega)) h4
          exact zg_iret dX2_restore_48 rfl ⟨_, rfl, rfl, Or.inr ⟨s, hs, rfl, Or.inr ⟨h5, rfl, XR_un hA (fun q a b => by rw [zup_n a]) (fun j hj => by rw [zup_s, upd_n hj]) (by rw [zup_s, upd_s]) (by omega) (fun i hi => absurd hi (by omega))⟩⟩, fun q hq => by rw [zup_n (by omega), h7 q (by omega)]⟩
        · exact absurd c2 (by decide)
    · refine zg_iconst (v := -1) dX2_restore_9 (by decide) ?_
      exact zg_iret dX2_restore_10 rfl ⟨_, rfl, rfl, ⟨Or.inl ⟨fun z => h2 z.2, rfl, rfl⟩, zfr.rf _ _ _⟩⟩
theorem qbk_mono {v bp : Nat → Int32} {i : Nat} (h : qbk v bp i = true) : ∀ n, i ≤ n → qbk v bp n = true
  | 0, hn => by rw [show i = 0 by omega] at h; exact h
  | n + 1, hn => by
    by_cases hi : i = n + 1
    · rw [← hi]; exact h
    · rw [qbk, qbk_mono h n (by omega)]; rfl
set_option maxRecDepth 20000 in
theorem lx_atb2 {S : zS} {x : Nat} {pm : Nat → Nat} (hS : XS S x pm) {mu : zU} {v bp : Nat → Int32} {ol : List Nat} (hX : SX mu (x + 3) v ol) (hb : ∀ j, j < 72 → mu (x + 2) j = bp j) (Ph : Option zV → zS → zU → Prop) (hx : Ph (some (.inl (if qbk v bp ol.length then nI 1 else nI 0))) S mu) :
    ∀ (t i : Nat) (l2 : Option zV), i + t = ol.length → qbk v bp i = false → zG RX2 "atBreakpoint" cX2_atBreakpoint 3 (some .boolean) (zroom 1 0 0) 0 0 Ph 2 [some (.inr (x + 1)), some (.inl (nI i)), l2] [] S (mu) 0 0 := by
  have hN0 : x < S.1 := hS.lt (i := 0) (by decide)
  have hN2 : x + 2 < S.1 := hS.lt (by decide)
  have hNs : x + 3 < S.1 := hS.lt (by decide)
  have hNs3 : x + 3 + 3 < S.1 := hS.lt3 (by decide)
  have xk0 := hS.1.2.1
  have xk2 := hS.1.2.2.2.1
  have xr2 := hS.2.1.2.1
  have xr4 := hS.2.1.2.2.1
  obtain ⟨-, k0, k1, k2, k3, k4, k5, k6, r0, r1, r2, r3, r5, r7, hp⟩ := hS.2.2.1.1
  obtain ⟨h0, g1, g2, g3, g4, g5, g6, g7, g8, g9, g10, g11⟩ := id hX
  obtain ⟨⟨x145, xl1, xl4⟩, -⟩ := id h0
  intro t
  induction t with
  | zero =>
    intro i l2 hit hq
    obtain rfl : i = ol.length := by omega
    refine zg_iload_n (i := 1) dX2_atBreakpoint_2 rfl rfl ?_
    refine zg_aload_n (i := 0) dX2_atBreakpoint_3 rfl rfl ?_
    refine zg_getR dX2_atBreakpoint_4 flX2_20 (by decide) (by assumption) (by assumption) (by assumption) ?_
    first | with_reducible refine zg_getIR dX2_atBreakpoint_7 flX2_116 (by decide) (by assumption) (by assumption) (by omega) ?_ | refine zg_getI dX2_atBreakpoint_7 flX2_116 (by decide) (by assumption) (by assumption) ?_
    refine zg_val (g3.trans x145) ?_
    first | with_reducible refine zg_icmpN_ge (tgt := 57) dX2_atBreakpoint_10 (by decide) (by omega) (by omega) (fun c => ?_) (fun c => ?_) | refine zg_icmp_ge (tgt := 57) dX2_atBreakpoint_10 (by decide) (fun c => ?_) (fun c => ?_)
    · refine zg_iconst (v := nI 0) dX2_atBreakpoint_57 (by decide) ?_
      rw [if_neg (by rw [hq]; decide)] at hx
      exact zg_zret dX2_atBreakpoint_58 rfl (Or.inl rfl) hx
    · omega
  | succ t ih =>
    intro i l2 hit hq
    obtain ⟨rp, hPS⟩ := hp i (by omega)
    have kp0 := hPS.2.1
    have kpN : x + 3 + 7 + 3 * i < S.1 := by have := hPS.1; omega
    obtain ⟨px, py, dr, ss, sl, ns, s0, s1, s2, hP, hR⟩ := g11 i (by omega)
    have hxy : px < 12 ∧ py < 6 := ⟨hP.2.2.2.2.2.2.2.2.2.1.1, hP.2.2.2.2.2.2.2.2.2.1.2.1⟩
    have z0 : zn v (150 + 25 * i) = px := zn_of hP.1 (by omega)
    have z1 : zn v (151 + 25 * i) = py := by rw [show 151 + 25 * i = 150 + 25 * i + 1 by omega]; exact zn_of hP.2.1 (by omega)
    refine zg_iload_n (i := 1) dX2_atBreakpoint_2 rfl rfl ?_
    refine zg_aload_n (i := 0) dX2_atBreakpoint_3 rfl rfl ?_
    refine zg_getR dX2_atBreakpoint_4 flX2_20 (by decide) (by assumption) (by assumption) (by assumption) ?_
    first | with_reducible refine zg_getIR dX2_atBreakpoint_7 flX2_116 (by decide) (by assumption) (by assumption) (by omega) ?_ | refine zg_getI dX2_atBreakpoint_7 flX2_116 (by decide) (by assumption) (by assumption) ?_
    refine zg_val (g3.trans x145) ?_
    first | with_reducible refine zg_icmpN_ge (tgt := 57) dX2_atBreakpoint_10 (by decide) (by omega) (by omega) (fun c => ?_) (fun c => ?_) | refine zg_icmp_ge (tgt := 57) dX2_atBreakpoint_10 (by decide) (fun c => ?_) (fun c => ?_)
    · omega
    · refine zg_aload_n (i := 0) dX2_atBreakpoint_13 rfl rfl ?_
      refine zg_getR dX2_atBreakpoint_14 flX2_20 (by decide) (by assumption) (by assumption) (by assumption) ?_
      refine zg_getR dX2_atBreakpoint_17 flX2_125 (by decide) (by assumption) (by assumption) (by assumption) ?_
      refine zg_iload_n (i := 1) dX2_atBreakpoint_20 rfl rfl ?_
      first | refine zg_pald dX2_atBreakpoint_21 (by assumption) (by assumption) rfl (by omega) (by decide) (by assumption) ?_ | refine zg_sald dX2_atBreakpoint_21 (by assumption) (by assumption) rfl (by omega) (by decide) (by assumption) ?_
      refine zg_astore_n (i := 2) (L2 := [_, _, _]) dX2_atBreakpoint_22 rfl (by decide) rfl ?_
      refine zg_aload_n (i := 2) dX2_atBreakpoint_23 rfl rfl ?_
      first | with_reducible refine zg_getIR dX2_atBreakpoint_24 flX2_137 (by decide) (by assumption) (by assumption) (by omega) ?_ | refine zg_getI dX2_atBreakpoint_24 flX2_137 (by decide) (by assumption) (by assumption) ?_
      refine zg_val (y := v (153 + 25 * i)) (by rw [hR.2.2.2.1]; congr 1; omega) ?_
      refine zg_if_ne (tgt := 51) dX2_atBreakpoint_27 (by decide) (fun c2 => ?_) (fun c2 => ?_)
      · refine zg_iinc1 (L2 := [_, _, _]) dX2_atBreakpoint_51 (by decide) rfl rfl ?_
        refine zg_goto (tgt := 2) dX2_atBreakpoint_54 (by decide) ?_
        exact ih (i + 1) _ (by omega) (by rw [qbk, hq]; simp [c2])
      · refine zg_aload_n (i := 2) dX2_atBreakpoint_30 rfl rfl ?_
        first | with_reducible refine zg_getIR dX2_atBreakpoint_31 flX2_140 (by decide) (by assumption) (by assumption) (by omega) ?_ | refine zg_getI dX2_atBreakpoint_31 flX2_140 (by decide) (by assumption) (by assumption) ?_
        refine zg_val (y := v (154 + 25 * i)) (by rw [hR.2.2.2.2.1]; congr 1; omega) ?_
        refine zg_if_ne (tgt := 51) dX2_atBreakpoint_34 (by decide) (fun c3 => ?_) (fun c3 => ?_)
        · refine zg_iinc1 (L2 := [_, _, _]) dX2_atBreakpoint_51 (by decide) rfl rfl ?_
          refine zg_goto (tgt := 2) dX2_atBreakpoint_54 (by decide) ?_
          exact ih (i + 1) _ (by omega) (by rw [qbk, hq]; simp [c3])
        · refine zg_aload_n (i := 0) dX2_atBreakpoint_37 rfl rfl ?_
          refine zg_getR dX2_atBreakpoint_38 flX2_13 (by decide) (by assumption) (by assumption) (by assumption) ?_
          refine zg_aload_n (i := 2) dX2_atBreakpoint_41 rfl rfl ?_
          refine zg_callVi (cx_cell hPS (hR.1.trans hP.1) (hR.2.1.trans hP.2.1)) dX2_atBreakpoint_42 cvX0_cell mlX2_129 rfl (by assumption) (by assumption) rfl (Nat.le_of_ble_eq_true rfl) ⟨by decide, by decide⟩ ⟨Nat.le_refl _, Nat.le_refl _⟩ (fun r mu3 h3 => ?_)
          obtain ⟨rfl, rfl⟩ := h3
          refine zg_zald dX2_atBreakpoint_45 (by assumption) (by assumption) rfl (by omega) (by decide) ?_
          refine zg_val (hb _ (by omega)) ?_
          refine zg_if_eq (tgt := 51) dX2_atBreakpoint_46 (by decide) (fun c4 => ?_) (fun c4 => ?_)
          · refine zg_iinc1 (L2 := [_, _, _]) dX2_atBreakpoint_51 (by decide) rfl rfl ?_
            refine zg_goto (tgt := 2) dX2_atBreakpoint_54 (by decide) ?_
            exact ih (i + 1) _ (by omega) (by rw [qbk, hq, z0, z1]; simp [c4])
          · refine zg_iconst (v := nI 1) dX2_atBreakpoint_49 (by decide) ?_
            rw [if_pos (qbk_mono (i := i + 1) (by rw [qbk, hq, z0, z1]; simp [c2, c3, c4]) _ (by omega))] at hx
            exact zg_zret dX2_atBreakpoint_50 rfl (Or.inr rfl) hx
set_option maxRecDepth 20000 in
theorem cx_atBreakpoint {S : zS} {x : Nat} {pm : Nat → Nat} (hS : XS S x pm) {mu : zU} {v bp : Nat → Int32} {ol : List Nat} (hX : SX mu (x + 3) v ol) (hb : ∀ j, j < 72 → mu (x + 2) j = bp j) : zM yX2_atBreakpoint cX2_atBreakpoint 3 (some .boolean) 1 0 0 [.inr (x + 1)] S mu (zPi S (fun r mu2 => mu2 = mu ∧ r = if qatb v bp then nI 1 else nI 0)) := by
  have hq : qatb v bp = qbk v bp ol.length := by rw [qatb, zn_of hX.1.1.1 (by have := hX.1.1.2.2; omega)]
  rw [hq]
  refine zM.ofG (by decide +kernel) (Nat.le_of_ble_eq_true rfl) ?_
  refine zg_iconst (v := nI 0) dX2_atBreakpoint_0 (by decide) ?_
  refine zg_istore_n (i := 1) (L2 := [_, _, _]) dX2_atBreakpoint_1 rfl (by decide) rfl ?_
  exact lx_atb2 hS hX hb _ ⟨_, rfl, rfl, rfl, rfl⟩ ol.length 0 _ (by omega) rfl
set_option maxRecDepth 20000 in
theorem lx_adv28 {S : zS} {x : Nat} {pm : Nat → Nat} (hS : XS S x pm) {tl uc lim : Nat} {v tx bp kp : Nat → Int32} {us sn : Nat → Nat → Int32} {br : Bool} (hlim : lim ≤ 200) (hl1 : 1 ≤ lim) (h0 : qhalt v = false) (mu0 : zU) (Ph : Option zV → zS → zU → Prop) (hx : ∀ mu n, XR mu x pm (qit v n) tl tx bp uc us kp sn → zfr mu0 mu x 215 → AD v bp lim br n → Ph (some (.inl (nI n))) S mu) :
    ∀ (t n : Nat) (mu : zU), n + t = lim → XR mu x pm (qit v n) tl tx bp uc us kp sn → zfr mu0 mu x 215 → (∀ k, 1 ≤ k → k < n → ¬ (qhalt (qit v k) = true ∨ (br = true ∧ qatb (qit v k) bp = true))) → (1 ≤ n → ¬ (br = true ∧ qatb (qit v n) bp = true)) → zG RX2 "advance" cX2_advance 4 (some .int) (zroom 5 0 0) 0 0 Ph 28 [some (.inr (x + 1)), some (.inl (nI lim)), some (.inl (if br then nI 1 else nI 0)), some (.inl (nI n))] [] S (mu) 0 0 := by
  have hN0 : x < S.1 := hS.lt (i := 0) (by decide)
  have hNs : x + 3 < S.1 := hS.lt (by decide)
  have xk0 := hS.1.2.1
  have xr4 := hS.2.1.2.2.1
  have sk0 := hS.2.2.1.1.2.1
  intro t
  induction t with
  | zero =>
    intro n mu hn hX hf hno hb
    refine zg_iload_n (i := 3) dX2_advance_28 rfl rfl ?_
    refine zg_iload_n (i := 1) dX2_advance_29 rfl rfl ?_
    first | with_reducible refine zg_icmpN_ge (tgt := 67) dX2_advance_30 (by decide) (by omega) (by omega) (fun c => ?_) (fun c => ?_) | refine zg_icmp_ge (tgt := 67) dX2_advance_30 (by decide) (fun c => ?_) (fun c => ?_)
    · refine zg_iload_n (i := 3) dX2_advance_67 rfl rfl ?_
      exact zg_iret dX2_advance_68 rfl (hx mu n hX hf ⟨⟨by omega, by omega⟩, Or.inl (by omega), hno⟩)
    · omega
  | succ t ih =>
    intro n mu hn hX hf hno hb
    obtain ⟨⟨ol, hSX⟩, -⟩ := id hX
    have hq := qhalt_len hSX.1
    refine zg_iload_n (i := 3) dX2_advance_28 rfl rfl ?_
    refine zg_iload_n (i := 1) dX2_advance_29 rfl rfl ?_
    first | with_reducible refine zg_icmpN_ge (tgt := 67) dX2_advance_30 (by decide) (by omega) (by omega) (fun c => ?_) (fun c => ?_) | refine zg_icmp_ge (tgt := 67) dX2_advance_30 (by decide) (fun c => ?_) (fun c => ?_)
    · omega
    · refine zg_aload_n (i := 0) dX2_advance_33 rfl rfl ?_
      refine zg_getR dX2_advance_34 flX2_20 (by decide) (by assumption) (by assumption) (by assumption) ?_
      refine zg_callVi (cx_isHalted hS.2.2.1.1 hSX) dX2_advance_37 cvX1_isHalted mlX2_98 rfl (by assumption) (by assumption) rfl (Nat.le_of_ble_eq_true rfl) ⟨by decide, by decide⟩ ⟨Nat.le_refl _, Nat.le_refl _⟩ (fun r mu2 h2 => ?_)
      obtain ⟨rfl, rfl⟩ := h2
      by_cases hh : qhb (qit v n) ol.length = true
      · rw [if_pos hh]
        first | with_reducible refine zg_ifN_ne (tgt := 67) dX2_advance_40 (by decide) (by omega) (fun c2 => ?_) (fun c2 => ?_) | refine zg_if_ne (tgt := 67) dX2_advance_40 (by decide) (fun c2 => ?_) (fun c2 => ?_)
        · refine zg_iload_n (i := 3) dX2_advance_67 rfl rfl ?_
          refine zg_iret dX2_advance_68 rfl (hx _ n hX hf ⟨⟨?_, by omega⟩, Or.inr (Or.inl (by rw [hq, hh])), hno⟩)
          rcases Nat.eq_zero_or_pos n with h1 | h1
          · rw [h1] at hh hq
            rw [show qit v 0 = v from rfl] at hh hq
            rw [hq, hh] at h0
            cases h0
          · exact h1
        · exact absurd c2 (by decide)
      · rw [if_neg hh]
        have hh' : ¬ qhalt (qit v n) = true := by rw [hq]; exact hh
        first | with_reducible refine zg_ifN_ne (tgt := 67) dX2_advance_40 (by decide) (by omega) (fun c2 => ?_) (fun c2 => ?_) | refine zg_if_ne (tgt := 67) dX2_advance_40 (by decide) (fun c2 => ?_) (fun c2 => ?_)
        · exact absurd rfl c2
        · refine zg_aload_n (i := 0) dX2_advance_43 rfl rfl ?_
          refine zg_getR dX2_advance_44 flX2_20 (by decide) (by assumption) (by assumption) (by assumption) ?_
          refine zg_callVv (cx_performTick hS.2.2.1.1 hSX) dX2_advance_47 cvX1_performTick mlX2_102 rfl (by assumption) (by assumption) rfl (Nat.le_of_ble_eq_true rfl) ⟨by decide, by decide⟩ ⟨Nat.le_refl _, Nat.le_refl _⟩ (fun mu3 h3 => ?_)
          obtain ⟨⟨ol3, h4⟩, h5⟩ := h3
          rw [show qstep (qit v n) = qit v (n + 1) from rfl] at h4
          have hX3 := XR_now hS hX (fun q a b => h5 q (by omega)) h4
          have hf3 : zfr mu0 mu3 x 215 := fun q hq => by rw [h5 q (by omega), hf q hq]
          have hno3 : ∀ k, 1 ≤ k → k < n + 1 → ¬ (qhalt (qit v k) = true ∨ (br = true ∧ qatb (qit v k) bp = true)) := fun k a b => by
            rcases Nat.lt_or_ge k n with h6 | h6
            · exact hno k a h6
            · rw [show k = n by omega]; exact fun z => z.elim hh' (hb (by omega))
          have hb3 : ∀ j, j < 72 → mu3 (x + 2) j = bp j := fun j hj => (hX3.2.2.1.1 j hj).1
          refine zg_iinc1 (L2 := [_, _, _, _]) dX2_advance_50 (by decide) rfl rfl ?_
          refine zg_iload_n (i := 2) dX2_advance_53 rfl rfl ?_
          cases br with
          | false =>
            first | with_reducible refine zg_ifN_eq (tgt := 28) dX2_advance_54 (by decide) (by omega) (fun c3 => ?_) (fun c3 => ?_) | refine zg_if_eq (tgt := 28) dX2_advance_54 (by decide) (fun c3 => ?_) (fun c3 => ?_)
            · exact ih (n + 1) mu3 (by omega) hX3 hf3 hno3 (fun _ z => absurd z.1 (by decide))
            · exact absurd rfl c3
          | true =>
            first | with_reducible refine zg_ifN_eq (tgt := 28) dX2_advance_54 (by decide) (by omega) (fun c3 => ?_) (fun c3 => ?_) | refine zg_if_eq (tgt := 28) dX2_advance_54 (by decide) (fun c3 => ?_) (fun c3 => ?_)
            · exact absurd c3 (by decide)
            · refine zg_aload_n (i := 0) dX2_advance_57 rfl rfl ?_
              refine zg_callVi (cx_atBreakpoint hS h4 hb3) dX2_advance_58 cvX2_atBreakpoint mlX2_167 rfl (by assumption) (by assumption) rfl (Nat.le_of_ble_eq_true rfl) ⟨by decide, by decide⟩ ⟨Nat.le_refl _, Nat.le_refl _⟩ (fun r mu4 h6 => ?_)
              obtain ⟨rfl, rfl⟩ := h6
              by_cases hqb : qatb (qit v (n + 1)) bp = true
              · rw [if_pos hqb]
                first | with_reducible refine zg_ifN_eq (tgt := 28) dX2_advance_61 (by decide) (by omega) (fun c4 => ?_) (fun c4 => ?_) | refine zg_if_eq (tgt := 28) dX2_advance_61 (by decide) (fun c4 => ?_) (fun c4 => ?_)
                · exact absurd c4 (by decide)
                · refine zg_goto (tgt := 67) dX2_advance_64 (by decide) ?_
                  refine zg_iload_n (i := 3) dX2_advance_67 rfl rfl ?_
                  exact zg_iret dX2_advance_68 rfl (hx _ (n + 1) hX3 hf3 ⟨⟨by omega, by omega⟩, Or.inr (Or.inr ⟨rfl, hqb⟩), hno3⟩)
              · rw [if_neg hqb]
                first | with_reducible refine zg_ifN_eq (tgt := 28) dX2_advance_61 (by decide) (by omega) (fun c4 => ?_) (fun c4 => ?_) | refine zg_if_eq (tgt := 28) dX2_advance_61 (by decide) (fun c4 => ?_) (fun c4 => ?_)
                · exact ih (n + 1) _ (by omega) hX3 hf3 hno3 (fun _ z => hqb z.2)
                · exact absurd rfl c4
set_option maxRecDepth 20000 in
theorem cx_advance {S : zS} {x : Nat} {pm : Nat → Nat} (hS : XS S x pm) {mu : zU} {tl uc : Nat} {v tx bp kp : Nat → Int32} {us sn : Nat → Nat → Int32} (hX : XR mu x pm v tl tx bp uc us kp sn) (br : Bool) (e : Int32) : zM yX2_advance cX2_advance 4 (some .int) 5 0 0 [.inr (x + 1), .inl e, .inl (if br then nI 1 else nI 0)] S mu (zTi S (fun r T mu2 => XP S T x mu mu2 (fun pm2 => PF v bp e br r (XR mu2 x pm2 v tl tx bp uc us kp sn) (fun n => XR mu2 x pm2 (qit v n) tl tx bp (ucN uc) (usN uc us v) kp sn)))) := by
  have hN0 : x < S.1 := hS.lt (i := 0) (by decide)
  have hNs : x + 3 < S.1 := hS.lt (by decide)
  have xk0 := hS.1.2.1
  have xr4 := hS.2.1.2.2.1
  have sk0 := hS.2.2.1.1.2.1
  obtain ⟨⟨ol, hSX⟩, -⟩ := id hX
  have hq := qhalt_len hSX.1
  refine zM.ofG (by decide +kernel) (Nat.le_of_ble_eq_true rfl) ?_
  refine zg_iload_n (i := 1) dX2_advance_0 rfl rfl ?_
  refine zg_callSi (cx_isTickLimit S mu e) dX2_advance_1 ctX2_isTickLimit mlX2_95 rfl rfl (Nat.le_of_ble_eq_true rfl) ⟨by decide, by decide⟩ ⟨Nat.le_refl _, Nat.le_refl _⟩ (fun r mu2 h2 => ?_)
  obtain ⟨rfl, rfl⟩ := h2
  by_cases hc : nI 1 ≤ e ∧ e ≤ nI 200
  · rw [if_pos hc]
    obtain ⟨lim, hl1, hl2, rfl⟩ := lim_ix hc
    first | with_reducible refine zg_ifN_ne (tgt := 9) dX2_advance_4 (by decide) (by omega) (fun c1 => ?_) (fun c1 => ?_) | refine zg_if_ne (tgt := 9) dX2_advance_4 (by decide) (fun c1 => ?_) (fun c1 => ?_)
    · refine zg_aload_n (i := 0) dX2_advance_9 rfl rfl ?_
      refine zg_getR dX2_advance_10 flX2_20 (by decide) (by assumption) (by assumption) (by assumption) ?_
      refine zg_callVi (cx_isHalted hS.2.2.1.1 hSX) dX2_advance_13 cvX1_isHalted mlX2_98 rfl (by assumption) (by assumption) rfl (Nat.le_of_ble_eq_true rfl) ⟨by decide, by decide⟩ ⟨Nat.le_refl _, Nat.le_refl _⟩ (fun r mu3 h3 => ?_)
      obtain ⟨rfl, rfl⟩ := h3
      by_cases hh : qhb v ol.length = true
      · rw [if_pos hh]
        first | with_reducible refine zg_ifN_eq (tgt := 22) dX2_advance_16 (by decide) (by omega) (fun c2 => ?_) (fun c2 => ?_) | refine zg_if_eq (tgt := 22) dX2_advance_16 (by decide) (fun c2 => ?_) (fun c2 => ?_)
        · exact absurd c2 (by decide)
        · refine zg_bipush (v := -2) dX2_advance_19 (by decide) ?_
          exact zg_iret dX2_advance_21 rfl ⟨_, rfl, rfl, XT.rf S x, zfr.rf _ _ _, pm, hS, Or.inr (Or.inl ⟨hc, by rw [hq, hh], rfl, hX⟩)⟩
      · rw [if_neg hh]
        have hh' : qhalt v = false := by rw [hq]; simpa using hh
        first | with_reducible refine zg_ifN_eq (tgt := 22) dX2_advance_16 (by decide) (by omega) (fun c2 => ?_) (fun c2 => ?_) | refine zg_if_eq (tgt := 22) dX2_advance_16 (by decide) (fun c2 => ?_) (fun c2 => ?_)
        · refine zg_aload_n (i := 0) dX2_advance_22 rfl rfl ?_
          refine zg_callTv (cx_keepForUndo hS hX) dX2_advance_23 cvX2_keepForUndo mlX2_48 rfl (by assumption) (by assumption) rfl (Nat.le_of_ble_eq_true rfl) ⟨by decide, by decide⟩ ⟨Nat.le_refl _, Nat.le_refl _⟩ (fun T mu4 h4 => ?_)
          obtain ⟨hT, pm2, hS2, hX2, hf⟩ := h4
          refine zg_iconst (v := nI 0) dX2_advance_26 (by decide) ?_
          refine zg_istore_n (i := 3) (L2 := [_, _, _, _]) dX2_advance_27 rfl (by decide) rfl ?_
          refine lx_adv28 hS2 hl2 hl1 hh' mu4 _ ?_ lim 0 mu4 (by omega) hX2 (zfr.rf _ _ _) (fun k a b => absurd b (by omega)) (fun z => absurd z (by omega))
          intro mu5 n h5 h6 h7
          exact ⟨_, rfl, hT.1, hT, hf.trans h6, pm2, hS2, Or.inr (Or.inr ⟨hc, hh', n, by rw [nI_clamp (by omega)]; exact h7, rfl, h5⟩)⟩
        · exact absurd rfl c2
    · exact absurd c1 (by decide)
  · rw [if_neg hc]
    first | with_reducible refine zg_ifN_ne (tgt := 9) dX2_advance_4 (by decide) (by omega) (fun c1 => ?_) (fun c1 => ?_) | refine zg_if_ne (tgt := 9) dX2_advance_4 (by decide) (fun c1 => ?_) (fun c1 => ?_)
    · exact absurd rfl c1
    · refine zg_iconst (v := -1) dX2_advance_7 (by decide) ?_
      exact zg_iret dX2_advance_8 rfl ⟨_, rfl, rfl, XT.rf S x, zfr.rf _ _ _, pm, hS, Or.inl ⟨hc, rfl, hX⟩⟩
