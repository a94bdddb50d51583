/-! THE REFERENCE: loops that copy rows -/
def cpi (f g : Nat → Int32) (a i : Nat) : Nat → Int32 := fun j => if a ≤ j ∧ j < a + i then g (j - a) else f j
theorem MS.lt {S : zS} {m : Nat} (hS : MS S m) {i : Nat} (hi : i ≤ 10) : m + i < S.1 := by
  have := hS.1.1
  omega
theorem cpi_0 (f g : Nat → Int32) (a : Nat) : cpi f g a 0 = f := by
  funext j
  rw [cpi, if_neg (by omega)]
theorem cpi_1 (f g : Nat → Int32) (a i : Nat) : upd (cpi f g a i) (a + i) (g i) = cpi f g a (i + 1) := by
  funext j
  by_cases hj : j = a + i
  · subst hj
    rw [upd_s, cpi, if_pos (by omega), Nat.add_sub_cancel_left]
  · rw [upd_n hj]
    unfold cpi
    by_cases h2 : a ≤ j ∧ j < a + i
    · rw [if_pos h2, if_pos (by omega)]
    · rw [if_neg h2, if_neg (by omega)]
theorem cpi_z (f g : Nat → Int32) (i : Nat) : upd (cpi f g 0 i) i (g i) = cpi f g 0 (i + 1) := by
  have := cpi_1 f g 0 i
  rw [Nat.zero_add] at this
  exact this
theorem cpi_in {f g : Nat → Int32} {a i j : Nat} (h : a ≤ j) (h2 : j < a + i) : cpi f g a i j = g (j - a) := by rw [cpi, if_pos ⟨h, h2⟩]
theorem cpi_out {f g : Nat → Int32} {a i j : Nat} (h : j < a ∨ a + i ≤ j) : cpi f g a i j = f j := by rw [cpi, if_neg (by omega)]
set_option maxRecDepth 20000 in
theorem lm_remember {S : zS} {m : Nat} (hS : MS S m) (mu : zU) (f : Nat → Int32)   (Ph : Option zV → zS → zU → Prop) (hx : zG RX3 "remember" cX3_remember 2 none (zroom 0 0 0) 0 0 Ph 27 [some (.inr (m + 1)), some (.inl (nI (289)))] [] S (zrow mu (m + 2) (cpi f (mu (m + 1)) (0) 289)) 0 0) :
    ∀ (t i : Nat), i + t = 289 → zG RX3 "remember" cX3_remember 2 none (zroom 0 0 0) 0 0 Ph 2 [some (.inr (m + 1)), some (.inl (nI (i)))] [] S (zrow mu (m + 2) (cpi f (mu (m + 1)) (0) i)) 0 0 := by
  have hN0 : m < S.1 := hS.lt (i := 0) (by decide)
  have hN1 : m + 1 < S.1 := hS.lt (by decide)
  have hN2 : m + 2 < S.1 := hS.lt (by decide)
  have hN3 : m + 3 < S.1 := hS.lt (by decide)
  have hN4 : m + 4 < S.1 := hS.lt (by decide)
  have hN5 : m + 5 < S.1 := hS.lt (by decide)
  have hN6 : m + 6 < S.1 := hS.lt (by decide)
  obtain ⟨⟨-, k0, k1, k2, k3, k4, k5, k6, k7, k8, k9, k10⟩, r0, r1, r2, r3, r4, r6, r7, r8, r9, r11⟩ := id hS
  intro t
  induction t with
  | zero =>
    intro i hi
    obtain rfl : i = 289 := by omega
    refine zg_iload_n (i := 1) dX3_remember_2 rfl rfl ?_
    refine zg_sipush (v := nI 289) dX3_remember_3 (by decide) ?_
    first | with_reducible refine zg_icmpN_ge (tgt := 27) dX3_remember_6 (by decide) (by omega) (by omega) (fun c => ?_) (fun c => ?_) | refine zg_icmp_ge (tgt := 27) dX3_remember_6 (by decide) (fun c => ?_) (fun c => ?_)
    · exact hx
    · omega
  | succ t ih =>
    intro i hi
    refine zg_iload_n (i := 1) dX3_remember_2 rfl rfl ?_
    refine zg_sipush (v := nI 289) dX3_remember_3 (by decide) ?_
    first | with_reducible refine zg_icmpN_ge (tgt := 27) dX3_remember_6 (by decide) (by omega) (by omega) (fun c => ?_) (fun c => ?_) | refine zg_icmp_ge (tgt := 27) dX3_remember_6 (by decide) (fun c => ?_) (fun c => ?_)
    · omega
    · refine zg_aload_n (i := 0) dX3_remember_9 rfl rfl ?_
      refine zg_getR dX3_remember_10 flX3_13 (by decide) (by assumption) (by assumption) (by assumption) ?_
      refine zg_iload_n (i := 1) dX3_remember_13 rfl rfl ?_
      refine zg_aload_n (i := 0) dX3_remember_14 rfl rfl ?_
      refine zg_getR dX3_remember_15 flX3_7 (by decide) (by assumption) (by assumption) (by assumption) ?_
      refine zg_iload_n (i := 1) dX3_remember_18 rfl rfl ?_
      first | with_reducible refine zg_ialdR dX3_remember_19 (by assumption) (by assumption) rfl (by omega) (by decide) ?_ | refine zg_iald dX3_remember_19 (by assumption) (by assumption) rfl (by omega) (by decide) ?_
      refine zg_val (y := (mu (m + 1)) i) (by rw [zrow_n (by omega)]) ?_
      first | with_reducible refine zg_iastR dX3_remember_20 (by assumption) (by assumption) rfl (by omega) (by decide) ?_ | refine zg_iast dX3_remember_20 (by assumption) (by assumption) rfl (by omega) (by decide) ?_
      refine zg_mu (congrArg (zrow mu (m + 2)) (cpi_z f (mu (m + 1)) i)) ?_
      refine zg_iinc1 (L2 := [_, _]) dX3_remember_21 (by decide) rfl rfl ?_
      refine zg_goto (tgt := 2) dX3_remember_24 (by decide) ?_
      exact ih (i + 1) (by omega)
set_option maxRecDepth 20000 in
theorem lm_setAside {S : zS} {m : Nat} (hS : MS S m) (mu : zU) (f : Nat → Int32)   (Ph : Option zV → zS → zU → Prop) (hx : zG RX3 "setAside" cX3_setAside 2 none (zroom 0 0 0) 0 0 Ph 27 [some (.inr (m + 1)), some (.inl (nI (289)))] [] S (zrow mu (m + 3) (cpi f (mu (m + 1)) (0) 289)) 0 0) :
    ∀ (t i : Nat), i + t = 289 → zG RX3 "setAside" cX3_setAside 2 none (zroom 0 0 0) 0 0 Ph 2 [some (.inr (m + 1)), some (.inl (nI (i)))] [] S (zrow mu (m + 3) (cpi f (mu (m + 1)) (0) i)) 0 0 := by
  have hN0 : m < S.1 := hS.lt (i := 0) (by decide)
  have hN1 : m + 1 < S.1 := hS.lt (by decide)
  have hN2 : m + 2 < S.1 := hS.lt (by decide)
  have hN3 : m + 3 < S.1 := hS.lt (by decide)
  have hN4 : m + 4 < S.1 := hS.lt (by decide)
  have hN5 : m + 5 < S.1 := hS.lt (by decide)
  have hN6 : m + 6 < S.1 := hS.lt (by decide)
  obtain ⟨⟨-, k0, k1, k2, k3, k4, k5, k6, k7, k8, k9, k10⟩, r0, r1, r2, r3, r4, r6, r7, r8, r9, r11⟩ := id hS
  intro t
  induction t with
  | zero =>
    intro i hi
    obtain rfl : i = 289 := by omega
    refine zg_iload_n (i := 1) dX3_setAside_2 rfl rfl ?_
    refine zg_sipush (v := nI 289) dX3_setAside_3 (by decide) ?_
    first | with_reducible refine zg_icmpN_ge (tgt := 27) dX3_setAside_6 (by decide) (by omega) (by omega) (fun c => ?_) (fun c => ?_) | refine zg_icmp_ge (tgt := 27) dX3_setAside_6 (by decide) (fun c => ?_) (fun c => ?_)
    · exact hx
    · omega
  | succ t ih =>
    intro i hi
    refine zg_iload_n (i := 1) dX3_setAside_2 rfl rfl ?_
    refine zg_sipush (v := nI 289) dX3_setAside_3 (by decide) ?_
    first | with_reducible refine zg_icmpN_ge (tgt := 27) dX3_setAside_6 (by decide) (by omega) (by omega) (fun c => ?_) (fun c => ?_) | refine zg_icmp_ge (tgt := 27) dX3_setAside_6 (by decide) (fun c => ?_) (fun c => ?_)
    · omega
    · refine zg_aload_n (i := 0) dX3_setAside_9 rfl rfl ?_
      refine zg_getR dX3_setAside_10 flX3_16 (by decide) (by assumption) (by assumption) (by assumption) ?_
      refine zg_iload_n (i := 1) dX3_setAside_13 rfl rfl ?_
      refine zg_aload_n (i := 0) dX3_setAside_14 rfl rfl ?_
      refine zg_getR dX3_setAside_15 flX3_7 (by decide) (by assumption) (by assumption) (by assumption) ?_
      refine zg_iload_n (i := 1) dX3_setAside_18 rfl rfl ?_
      first | with_reducible refine zg_ialdR dX3_setAside_19 (by assumption) (by assumption) rfl (by omega) (by decide) ?_ | refine zg_iald dX3_setAside_19 (by assumption) (by assumption) rfl (by omega) (by decide) ?_
      refine zg_val (y := (mu (m + 1)) i) (by rw [zrow_n (by omega)]) ?_
      first | with_reducible refine zg_iastR dX3_setAside_20 (by assumption) (by assumption) rfl (by omega) (by decide) ?_ | refine zg_iast dX3_setAside_20 (by assumption) (by assumption) rfl (by omega) (by decide) ?_
      refine zg_mu (congrArg (zrow mu (m + 3)) (cpi_z f (mu (m + 1)) i)) ?_
      refine zg_iinc1 (L2 := [_, _]) dX3_setAside_21 (by decide) rfl rfl ?_
      refine zg_goto (tgt := 2) dX3_setAside_24 (by decide) ?_
      exact ih (i + 1) (by omega)
set_option maxRecDepth 20000 in
theorem lm_takeBack {S : zS} {m : Nat} (hS : MS S m) (mu : zU) (f : Nat → Int32)   (Ph : Option zV → zS → zU → Prop) (hx : zG RX3 "takeBack" cX3_takeBack 2 none (zroom 0 0 0) 0 0 Ph 27 [some (.inr (m + 1)), some (.inl (nI (289)))] [] S (zrow mu (m + 1) (cpi f (mu (m + 3)) (0) 289)) 0 0) :
    ∀ (t i : Nat), i + t = 289 → zG RX3 "takeBack" cX3_takeBack 2 none (zroom 0 0 0) 0 0 Ph 2 [some (.inr (m + 1)), some (.inl (nI (i)))] [] S (zrow mu (m + 1) (cpi f (mu (m + 3)) (0) i)) 0 0 := by
  have hN0 : m < S.1 := hS.lt (i := 0) (by decide)
  have hN1 : m + 1 < S.1 := hS.lt (by decide)
  have hN2 : m + 2 < S.1 := hS.lt (by decide)
  have hN3 : m + 3 < S.1 := hS.lt (by decide)
  have hN4 : m + 4 < S.1 := hS.lt (by decide)
  have hN5 : m + 5 < S.1 := hS.lt (by decide)
  have hN6 : m + 6 < S.1 := hS.lt (by decide)
  obtain ⟨⟨-, k0, k1, k2, k3, k4, k5, k6, k7, k8, k9, k10⟩, r0, r1, r2, r3, r4, r6, r7, r8, r9, r11⟩ := id hS
  intro t
  induction t with
  | zero =>
    intro i hi
    obtain rfl : i = 289 := by omega
    refine zg_iload_n (i := 1) dX3_takeBack_2 rfl rfl ?_
    refine zg_sipush (v := nI 289) dX3_takeBack_3 (by decide) ?_
    first | with_reducible refine zg_icmpN_ge (tgt := 27) dX3_takeBack_6 (by decide) (by omega) (by omega) (fun c => ?_) (fun c => ?_) | refine zg_icmp_ge (tgt := 27) dX3_takeBack_6 (by decide) (fun c => ?_) (fun c => ?_)
    · exact hx
    · omega
  | succ t ih =>
    intro i hi
    refine zg_iload_n (i := 1) dX3_takeBack_2 rfl rfl ?_
    refine zg_sipush (v := nI 289) dX3_takeBack_3 (by decide) ?_
    first | with_reducible refine zg_icmpN_ge (tgt := 27) dX3_takeBack_6 (by decide) (by omega) (by omega) (fun c => ?_) (fun c => ?_) | refine zg_icmp_ge (tgt := 27) dX3_takeBack_6 (by decide) (fun c => ?_) (fun c => ?_)
    · omega
    · refine zg_aload_n (i := 0) dX3_takeBack_9 rfl rfl ?_
      refine zg_getR dX3_takeBack_10 flX3_7 (by decide) (by assumption) (by assumption) (by assumption) ?_
      refine zg_iload_n (i := 1) dX3_takeBack_13 rfl rfl ?_
      refine zg_aload_n (i := 0) dX3_takeBack_14 rfl rfl ?_
      refine zg_getR dX3_takeBack_15 flX3_16 (by decide) (by assumption) (by assumption) (by assumption) ?_
      refine zg_iload_n (i := 1) dX3_takeBack_18 rfl rfl ?_
      first | with_reducible refine zg_ialdR dX3_takeBack_19 (by assumption) (by assumption) rfl (by omega) (by decide) ?_ | refine zg_iald dX3_takeBack_19 (by assumption) (by assumption) rfl (by omega) (by decide) ?_
      refine zg_val (y := (mu (m + 3)) i) (by rw [zrow_n (by omega)]) ?_
      first | with_reducible refine zg_iastR dX3_takeBack_20 (by assumption) (by assumption) rfl (by omega) (by decide) ?_ | refine zg_iast dX3_takeBack_20 (by assumption) (by assumption) rfl (by omega) (by decide) ?_
      refine zg_mu (congrArg (zrow mu (m + 1)) (cpi_z f (mu (m + 3)) i)) ?_
      refine zg_iinc1 (L2 := [_, _]) dX3_takeBack_21 (by decide) rfl rfl ?_
      refine zg_goto (tgt := 2) dX3_takeBack_24 (by decide) ?_
      exact ih (i + 1) (by omega)
set_option maxRecDepth 20000 in
theorem lm_save {S : zS} {m : Nat} (hS : MS S m) (mu : zU) (f : Nat → Int32) {sl : Nat} (hsl : sl < 2) (Ph : Option zV → zS → zU → Prop) (hx : zG RX3 "save" cX3_save 3 (some .int) (zroom 1 0 0) 0 0 Ph 44 [some (.inr (m + 1)), some (.inl (nI sl)), some (.inl (nI (289)))] [] S (zrow mu (m + 6) (cpi f (mu (m + 1)) (289 * sl) 289)) 0 0) :
    ∀ (t i : Nat), i + t = 289 → zG RX3 "save" cX3_save 3 (some .int) (zroom 1 0 0) 0 0 Ph 13 [some (.inr (m + 1)), some (.inl (nI sl)), some (.inl (nI (i)))] [] S (zrow mu (m + 6) (cpi f (mu (m + 1)) (289 * sl) i)) 0 0 := by
  have hN0 : m < S.1 := hS.lt (i := 0) (by decide)
  have hN1 : m + 1 < S.1 := hS.lt (by decide)
  have hN2 : m + 2 < S.1 := hS.lt (by decide)
  have hN3 : m + 3 < S.1 := hS.lt (by decide)
  have hN4 : m + 4 < S.1 := hS.lt (by decide)
  have hN5 : m + 5 < S.1 := hS.lt (by decide)
  have hN6 : m + 6 < S.1 := hS.lt (by decide)
  obtain ⟨⟨-, k0, k1, k2, k3, k4, k5, k6, k7, k8, k9, k10⟩, r0, r1, r2, r3, r4, r6, r7, r8, r9, r11⟩ := id hS
  intro t
  induction t with
  | zero =>
    intro i hi
    obtain rfl : i = 289 := by omega
    refine zg_iload_n (i := 2) dX3_save_13 rfl rfl ?_
    refine zg_sipush (v := nI 289) dX3_save_14 (by decide) ?_
    first | with_reducible refine zg_icmpN_ge (tgt := 44) dX3_save_17 (by decide) (by omega) (by omega) (fun c => ?_) (fun c => ?_) | refine zg_icmp_ge (tgt := 44) dX3_save_17 (by decide) (fun c => ?_) (fun c => ?_)
    · exact hx
    · omega
  | succ t ih =>
    intro i hi
    refine zg_iload_n (i := 2) dX3_save_13 rfl rfl ?_
    refine zg_sipush (v := nI 289) dX3_save_14 (by decide) ?_
    first | with_reducible refine zg_icmpN_ge (tgt := 44) dX3_save_17 (by decide) (by omega) (by omega) (fun c => ?_) (fun c => ?_) | refine zg_icmp_ge (tgt := 44) dX3_save_17 (by decide) (fun c => ?_) (fun c => ?_)
    · omega
    · refine zg_aload_n (i := 0) dX3_save_20 rfl rfl ?_
      refine zg_getR dX3_save_21 flX3_25 (by decide) (by assumption) (by assumption) (by assumption) ?_
      refine zg_sipush (v := nI 289) dX3_save_24 (by decide) ?_
      refine zg_iload_n (i := 1) dX3_save_27 rfl rfl ?_
      first | with_reducible refine zg_imulN dX3_save_28 ?_ | refine zg_imul dX3_save_28 ?_
      refine zg_iload_n (i := 2) dX3_save_29 rfl rfl ?_
      first | with_reducible refine zg_iaddN dX3_save_30 ?_ | refine zg_iadd dX3_save_30 ?_
      refine zg_aload_n (i := 0) dX3_save_31 rfl rfl ?_
      refine zg_getR dX3_save_32 flX3_7 (by decide) (by assumption) (by assumption) (by assumption) ?_
      refine zg_iload_n (i := 2) dX3_save_35 rfl rfl ?_
      first | with_reducible refine zg_ialdR dX3_save_36 (by assumption) (by assumption) rfl (by omega) (by decide) ?_ | refine zg_iald dX3_save_36 (by assumption) (by assumption) rfl (by omega) (by decide) ?_
      refine zg_val (y := (mu (m + 1)) i) (by rw [zrow_n (by omega)]) ?_
      first | with_reducible refine zg_iastR dX3_save_37 (by assumption) (by assumption) rfl (by omega) (by decide) ?_ | refine zg_iast dX3_save_37 (by assumption) (by assumption) rfl (by omega) (by decide) ?_
      refine zg_mu (congrArg (zrow mu (m + 6)) (cpi_1 f (mu (m + 1)) (289 * sl) i)) ?_
      refine zg_iinc1 (L2 := [_, _, _]) dX3_save_38 (by decide) rfl rfl ?_
      refine zg_goto (tgt := 13) dX3_save_41 (by decide) ?_
      exact ih (i + 1) (by omega)
set_option maxRecDepth 20000 in
theorem lm_restore {S : zS} {m : Nat} (hS : MS S m) (mu : zU) (f : Nat → Int32) {sl : Nat} (hsl : sl < 2) (Ph : Option zV → zS → zU → Prop) (hx : zG RX3 "restore" cX3_restore 3 (some .int) (zroom 1 0 0) 0 0 Ph 56 [some (.inr (m + 1)), some (.inl (nI sl)), some (.inl (nI (289)))] [] S (zrow mu (m + 1) (cpi f (fun j => mu (m + 6) (289 * sl + j)) (0) 289)) 0 0) :
    ∀ (t i : Nat), i + t = 289 → zG RX3 "restore" cX3_restore 3 (some .int) (zroom 1 0 0) 0 0 Ph 25 [some (.inr (m + 1)), some (.inl (nI sl)), some (.inl (nI (i)))] [] S (zrow mu (m + 1) (cpi f (fun j => mu (m + 6) (289 * sl + j)) (0) i)) 0 0 := by
  have hN0 : m < S.1 := hS.lt (i := 0) (by decide)
  have hN1 : m + 1 < S.1 := hS.lt (by decide)
  have hN2 : m + 2 < S.1 := hS.lt (by decide)
  have hN3 : m + 3 < S.1 := hS.lt (by decide)
  have hN4 : m + 4 < S.1 := hS.lt (by decide)
  have hN5 : m + 5 < S.1 := hS.lt (by decide)
  have hN6 : m + 6 < S.1 := hS.lt (by decide)
  obtain ⟨⟨-, k0, k1, k2, k3, k4, k5, k6, k7, k8, k9, k10⟩, r0, r1, r2, r3, r4, r6, r7, r8, r9, r11⟩ := id hS
  intro t
  induction t with
  | zero =>
    intro i hi
    obtain rfl : i = 289 := by omega
    refine zg_iload_n (i := 2) dX3_restore_25 rfl rfl ?_
    refine zg_sipush (v := nI 289) dX3_restore_26 (by decide) ?_
    first | with_reducible refine zg_icmpN_ge (tgt := 56) dX3_restore_29 (by decide) (by omega) (by omega) (fun c => ?_) (fun c => ?_) | refine zg_icmp_ge (tgt := 56) dX3_restore_29 (by decide) (fun c => ?_) (fun c => ?_)
    · exact hx
    · omega
  | succ t ih =>
    intro i hi
    refine zg_iload_n (i := 2) dX3_restore_25 rfl rfl ?_
    refine zg_sipush (v := nI 289) dX3_restore_26 (by decide) ?_
    first | with_reducible refine zg_icmpN_ge (tgt := 56) dX3_restore_29 (by decide) (by omega) (by omega) (fun c => ?_) (fun c => ?_) | refine zg_icmp_ge (tgt := 56) dX3_restore_29 (by decide) (fun c => ?_) (fun c => ?_)
    · omega
    · refine zg_aload_n (i := 0) dX3_restore_32 rfl rfl ?_
      refine zg_getR dX3_restore_33 flX3_7 (by decide) (by assumption) (by assumption) (by assumption) ?_
      refine zg_iload_n (i := 2) dX3_restore_36 rfl rfl ?_
      refine zg_aload_n (i := 0) dX3_restore_37 rfl rfl ?_
      refine zg_getR dX3_restore_38 flX3_25 (by decide) (by assumption) (by assumption) (by assumption) ?_
      refine zg_sipush (v := nI 289) dX3_restore_41 (by decide) ?_
      refine zg_iload_n (i := 1) dX3_restore_44 rfl rfl ?_
      first | with_reducible refine zg_imulN dX3_restore_45 ?_ | refine zg_imul dX3_restore_45 ?_
      refine zg_iload_n (i := 2) dX3_restore_46 rfl rfl ?_
      first | with_reducible refine zg_iaddN dX3_restore_47 ?_ | refine zg_iadd dX3_restore_47 ?_
      first | with_reducible refine zg_ialdR dX3_restore_48 (by assumption) (by assumption) rfl (by omega) (by decide) ?_ | refine zg_iald dX3_restore_48 (by assumption) (by assumption) rfl (by omega) (by decide) ?_
      refine zg_val (y := (fun j => mu (m + 6) (289 * sl + j)) i) (by rw [zrow_n (by omega)]) ?_
      first | with_reducible refine zg_iastR dX3_restore_49 (by assumption) (by assumption) rfl (by omega) (by decide) ?_ | refine zg_iast dX3_restore_49 (by assumption) (by assumption) rfl (by omega) (by decide) ?_
      refine zg_mu (congrArg (zrow mu (m + 1)) (cpi_z f (fun j => mu (m + 6) (289 * sl + j)) i)) ?_
      refine zg_iinc1 (L2 := [_, _, _]) dX3_restore_50 (by decide) rfl rfl ?_
      refine zg_goto (tgt := 25) dX3_restore_53 (by decide) ?_
      exact ih (i + 1) (by omega)
set_option maxRecDepth 20000 in
theorem lm_undo {S : zS} {m : Nat} (hS : MS S m) (mu : zU) (f : Nat → Int32) {uc : Nat} (huc : uc < 6) (h5 : mu m 5 = nI uc) (Ph : Option zV → zS → zU → Prop) (hx : zG RX3 "undo" cX3_undo 2 (some .int) (zroom 0 0 0) 0 0 Ph 56 [some (.inr (m + 1)), some (.inl (nI (289)))] [] S (zrow mu (m + 1) (cpi f (fun j => mu (m + 5) (289 * uc + j)) (0) 289)) 0 0) :
    ∀ (t i : Nat), i + t = 289 → zG RX3 "undo" cX3_undo 2 (some .int) (zroom 0 0 0) 0 0 Ph 22 [some (.inr (m + 1)), some (.inl (nI (i)))] [] S (zrow mu (m + 1) (cpi f (fun j => mu (m + 5) (289 * uc + j)) (0) i)) 0 0 := by
  have hN0 : m < S.1 := hS.lt (i := 0) (by decide)
  have hN1 : m + 1 < S.1 := hS.lt (by decide)
  have hN2 : m + 2 < S.1 := hS.lt (by decide)
  have hN3 : m + 3 < S.1 := hS.lt (by decide)
  have hN4 : m + 4 < S.1 := hS.lt (by decide)
  have hN5 : m + 5 < S.1 := hS.lt (by decide)
  have hN6 : m + 6 < S.1 := hS.lt (by decide)
  obtain ⟨⟨-, k0, k1, k2, k3, k4, k5, k6, k7, k8, k9, k10⟩, r0, r1, r2, r3, r4, r6, r7, r8, r9, r11⟩ := id hS
  intro t
  induction t with
  | zero =>
    intro i hi
    obtain rfl : i = 289 := by omega
    refine zg_iload_n (i := 1) dX3_undo_22 rfl rfl ?_
    refine zg_sipush (v := nI 289) dX3_undo_23 (by decide) ?_
    first | with_reducible refine zg_icmpN_ge (tgt := 56) dX3_undo_26 (by decide) (by omega) (by omega) (fun c => ?_) (fun c => ?_) | refine zg_icmp_ge (tgt := 56) dX3_undo_26 (by decide) (fun c => ?_) (fun c => ?_)
    · exact hx
    · omega
  | succ t ih =>
    intro i hi
    refine zg_iload_n (i := 1) dX3_undo_22 rfl rfl ?_
    refine zg_sipush (v := nI 289) dX3_undo_23 (by decide) ?_
    first | with_reducible refine zg_icmpN_ge (tgt := 56) dX3_undo_26 (by decide) (by omega) (by omega) (fun c => ?_) (fun c => ?_) | refine zg_icmp_ge (tgt := 56) dX3_undo_26 (by decide) (fun c => ?_) (fun c => ?_)
    · omega
    · refine zg_aload_n (i := 0) dX3_undo_29 rfl rfl ?_
      refine zg_getR dX3_undo_30 flX3_7 (by decide) (by assumption) (by assumption) (by assumption) ?_
      refine zg_iload_n (i := 1) dX3_undo_33 rfl rfl ?_
      refine zg_aload_n (i := 0) dX3_undo_34 rfl rfl ?_
      refine zg_getR dX3_undo_35 flX3_22 (by decide) (by assumption) (by assumption) (by assumption) ?_
      refine zg_sipush (v := nI 289) dX3_undo_38 (by decide) ?_
      refine zg_aload_n (i := 0) dX3_undo_41 rfl rfl ?_
      first | with_reducible refine zg_getIR dX3_undo_42 flX3_48 (by decide) (by assumption) (by assumption) (by omega) ?_ | refine zg_getI dX3_undo_42 flX3_48 (by decide) (by assumption) (by assumption) ?_
      refine zg_val h5 ?_
      first | with_reducible refine zg_imulN dX3_undo_45 ?_ | refine zg_imul dX3_undo_45 ?_
      refine zg_iload_n (i := 1) dX3_undo_46 rfl rfl ?_
      first | with_reducible refine zg_iaddN dX3_undo_47 ?_ | refine zg_iadd dX3_undo_47 ?_
      first | with_reducible refine zg_ialdR dX3_undo_48 (by assumption) (by assumption) rfl (by omega) (by decide) ?_ | refine zg_iald dX3_undo_48 (by assumption) (by assumption) rfl (by omega) (by decide) ?_
      refine zg_val (y := (fun j => mu (m + 5) (289 * uc + j)) i) (by rw [zrow_n (by omega)]) ?_
      first | with_reducible refine zg_iastR dX3_undo_49 (by assumption) (by assumption) rfl (by omega) (by decide) ?_ | refine zg_iast dX3_undo_49 (by assumption) (by assumption) rfl (by omega) (by decide) ?_
      refine zg_mu (congrArg (zrow mu (m + 1)) (cpi_z f (fun j => mu (m + 5) (289 * uc + j)) i)) ?_
      refine zg_iinc1 (L2 := [_, _]) dX3_undo_50 (by decide) rfl rfl ?_
      refine zg_goto (tgt := 22) dX3_undo_53 (by decide) ?_
      exact ih (i + 1) (by omega)
set_option maxRecDepth 20000 in
theorem lm_sb11 {S : zS} {m : Nat} (hS : MS S m) (mu : zU) (f : Nat → Int32)   (Ph : Option zV → zS → zU → Prop) (hx : zG RX3 "saveBefore" cX3_saveBefore 2 none (zroom 0 0 0) 0 0 Ph 40 [some (.inr (m + 1)), some (.inl (nI (1445)))] [] S (zrow mu (m + 5) (cpi f (fun j => f (289 + j)) (0) 1445)) 0 0) :
    ∀ (t i : Nat), i + t = 1445 → zG RX3 "saveBefore" cX3_saveBefore 2 none (zroom 0 0 0) 0 0 Ph 11 [some (.inr (m + 1)), some (.inl (nI (i)))] [] S (zrow mu (m + 5) (cpi f (fun j => f (289 + j)) (0) i)) 0 0 := by
  have hN0 : m < S.1 := hS.lt (i := 0) (by decide)
  have hN1 : m + 1 < S.1 := hS.lt (by decide)
  have hN2 : m + 2 < S.1 := hS.lt (by decide)
  have hN3 : m + 3 < S.1 := hS.lt (by decide)
  have hN4 : m + 4 < S.1 := hS.lt (by decide)
  have hN5 : m + 5 < S.1 := hS.lt (by decide)
  have hN6 : m + 6 < S.1 := hS.lt (by decide)
  obtain ⟨⟨-, k0, k1, k2, k3, k4, k5, k6, k7, k8, k9, k10⟩, r0, r1, r2, r3, r4, r6, r7, r8, r9, r11⟩ := id hS
  intro t
  induction t with
  | zero =>
    intro i hi
    obtain rfl : i = 1445 := by omega
    refine zg_iload_n (i := 1) dX3_saveBefore_11 rfl rfl ?_
    refine zg_sipush (v := nI 1445) dX3_saveBefore_12 (by decide) ?_
    first | with_reducible refine zg_icmpN_ge (tgt := 40) dX3_saveBefore_15 (by decide) (by omega) (by omega) (fun c => ?_) (fun c => ?_) | refine zg_icmp_ge (tgt := 40) dX3_saveBefore_15 (by decide) (fun c => ?_) (fun c => ?_)
    · exact hx
    · omega
  | succ t ih =>
    intro i hi
    refine zg_iload_n (i := 1) dX3_saveBefore_11 rfl rfl ?_
    refine zg_sipush (v := nI 1445) dX3_saveBefore_12 (by decide) ?_
    first | with_reducible refine zg_icmpN_ge (tgt := 40) dX3_saveBefore_15 (by decide) (by omega) (by omega) (fun c => ?_) (fun c => ?_) | refine zg_icmp_ge (tgt := 40) dX3_saveBefore_15 (by decide) (fun c => ?_) (fun c => ?_)
    · omega
    · refine zg_aload_n (i := 0) dX3_saveBefore_18 rfl rfl ?_
      refine zg_getR dX3_saveBefore_19 flX3_22 (by decide) (by assumption) (by assumption) (by assumption) ?_
      refine zg_iload_n (i := 1) dX3_saveBefore_22 rfl rfl ?_
      refine zg_aload_n (i := 0) dX3_saveBefore_23 rfl rfl ?_
      refine zg_getR dX3_saveBefore_24 flX3_22 (by decide) (by assumption) (by assumption) (by assumption) ?_
      refine zg_iload_n (i := 1) dX3_saveBefore_27 rfl rfl ?_
      refine zg_sipush (v := nI 289) dX3_saveBefore_28 (by decide) ?_
      first | with_reducible refine zg_iaddN dX3_saveBefore_31 ?_ | refine zg_iadd dX3_saveBefore_31 ?_
      first | with_reducible refine zg_ialdR dX3_saveBefore_32 (by assumption) (by assumption) rfl (by omega) (by decide) ?_ | refine zg_iald dX3_saveBefore_32 (by assumption) (by assumption) rfl (by omega) (by decide) ?_
      refine zg_val (y := (fun j => f (289 + j)) i) (by rw [cpi_out (by omega), Nat.add_comm]) ?_
      first | with_reducible refine zg_iastR dX3_saveBefore_33 (by assumption) (by assumption) rfl (by omega) (by decide) ?_ | refine zg_iast dX3_saveBefore_33 (by assumption) (by assumption) rfl (by omega) (by decide) ?_
      refine zg_mu (congrArg (zrow mu (m + 5)) (cpi_z f (fun j => f (289 + j)) i)) ?_
      refine zg_iinc1 (L2 := [_, _]) dX3_saveBefore_34 (by decide) rfl rfl ?_
      refine zg_goto (tgt := 11) dX3_saveBefore_37 (by decide) ?_
      exact ih (i + 1) (by omega)
set_option maxRecDepth 20000 in
theorem lm_sb52 {S : zS} {m : Nat} (hS : MS S m) (mu : zU) (f : Nat → Int32) {uc : Nat} (huc : uc < 6) (h5 : mu m 5 = nI uc) (Ph : Option zV → zS → zU → Prop) (hx : zG RX3 "saveBefore" cX3_saveBefore 2 none (zroom 0 0 0) 0 0 Ph 86 [some (.inr (m + 1)), some (.inl (nI (289)))] [] S (zrow mu (m + 5) (cpi f (mu (m + 2)) (289 * uc) 289)) 0 0) :
    ∀ (t i : Nat), i + t = 289 → zG RX3 "saveBefore" cX3_saveBefore 2 none (zroom 0 0 0) 0 0 Ph 52 [some (.inr (m + 1)), some (.inl (nI (i)))] [] S (zrow mu (m + 5) (cpi f (mu (m + 2)) (289 * uc) i)) 0 0 := by
  have hN0 : m < S.1 := hS.lt (i := 0) (by decide)
  have hN1 : m + 1 < S.1 := hS.lt (by decide)
  have hN2 : m + 2 < S.1 := hS.lt (by decide)
  have hN3 : m + 3 < S.1 := hS.lt (by decide)
  have hN4 : m + 4 < S.1 := hS.lt (by decide)
  have hN5 : m + 5 < S.1 := hS.lt (by decide)
  have hN6 : m + 6 < S.1 := hS.lt (by decide)
  obtain ⟨⟨-, k0, k1, k2, k3, k4, k5, k6, k7, k8, k9, k10⟩, r0, r1, r2, r3, r4, r6, r7, r8, r9, r11⟩ := id hS
  intro t
  induction t with
  | zero =>
    intro i hi
    obtain rfl : i = 289 := by omega
    refine zg_iload_n (i := 1) dX3_saveBefore_52 rfl rfl ?_
    refine zg_sipush (v := nI 289) dX3_saveBefore_53 (by decide) ?_
    first | with_reducible refine zg_icmpN_ge (tgt := 86) dX3_saveBefore_56 (by decide) (by omega) (by omega) (fun c => ?_) (fun c => ?_) | refine zg_icmp_ge (tgt := 86) dX3_saveBefore_56 (by decide) (fun c => ?_) (fun c => ?_)
    · exact hx
    · omega
  | succ t ih =>
    intro i hi
    refine zg_iload_n (i := 1) dX3_saveBefore_52 rfl rfl ?_
    refine zg_sipush (v := nI 289) dX3_saveBefore_53 (by decide) ?_
    first | with_reducible refine zg_icmpN_ge (tgt := 86) dX3_saveBefore_56 (by decide) (by omega) (by omega) (fun c => ?_) (fun c => ?_) | refine zg_icmp_ge (tgt := 86) dX3_saveBefore_56 (by decide) (fun c => ?_) (fun c => ?_)
    · omega
    · refine zg_aload_n (i := 0) dX3_saveBefore_59 rfl rfl ?_
      refine zg_getR dX3_saveBefore_60 flX3_22 (by decide) (by assumption) (by assumption) (by assumption) ?_
      refine zg_sipush (v := nI 289) dX3_saveBefore_63 (by decide) ?_
      refine zg_aload_n (i := 0) dX3_saveBefore_66 rfl rfl ?_
      first | with_reducible refine zg_getIR dX3_saveBefore_67 flX3_48 (by decide) (by assumption) (by assumption) (by omega) ?_ | refine zg_getI dX3_saveBefore_67 flX3_48 (by decide) (by assumption) (by assumption) ?_
      refine zg_val h5 ?_
      first | with_reducible refine zg_imulN dX3_saveBefore_70 ?_ | refine zg_imul dX3_saveBefore_70 ?_
      refine zg_iload_n (i := 1) dX3_saveBefore_71 rfl rfl ?_
      first | with_reducible refine zg_iaddN dX3_saveBefore_72 ?_ | refine zg_iadd dX3_saveBefore_72 ?_
      refine zg_aload_n (i := 0) dX3_saveBefore_73 rfl rfl ?_
      refine zg_getR dX3_saveBefore_74 flX3_13 (by decide) (by assumption) (by assumption) (by assumption) ?_
      refine zg_iload_n (i := 1) dX3_saveBefore_77 rfl rfl ?_
      first | with_reducible refine zg_ialdR dX3_saveBefore_78 (by assumption) (by assumption) rfl (by omega) (by decide) ?_ | refine zg_iald dX3_saveBefore_78 (by assumption) (by assumption) rfl (by omega) (by decide) ?_
      refine zg_val (y := (mu (m + 2)) i) (by rw [zrow_n (by omega)]) ?_
      first | with_reducible refine zg_iastR dX3_saveBefore_79 (by assumption) (by assumption) rfl (by omega) (by decide) ?_ | refine zg_iast dX3_saveBefore_79 (by assumption) (by assumption) rfl (by omega) (by decide) ?_
      refine zg_mu (congrArg (zrow mu (m + 5)) (cpi_1 f (mu (m + 2)) (289 * uc) i)) ?_
      refine zg_iinc1 (L2 := [_, _]) dX3_saveBefore_80 (by decide) rfl rfl ?_
      refine zg_goto (tgt := 52) dX3_saveBefore_83 (by decide) ?_
      exact ih (i + 1) (by omega)
set_option maxRecDepth 20000 in
theorem lm_begin2 {S : zS} {m : Nat} (hS : MS S m) (mu : zU) (f : Nat → Int32)   (Ph : Option zV → zS → zU → Prop) (hx : zG RX3 "begin" cX3_begin 2 none (zroom 0 0 0) 0 0 Ph 29 [some (.inr (m + 1)), some (.inl (nI (72)))] [] S (zrow mu (m + 1) (cpi f (f) (72) 72)) 0 0) :
    ∀ (t i : Nat), i + t = 72 → zG RX3 "begin" cX3_begin 2 none (zroom 0 0 0) 0 0 Ph 2 [some (.inr (m + 1)), some (.inl (nI (i)))] [] S (zrow mu (m + 1) (cpi f (f) (72) i)) 0 0 := by
  have hN0 : m < S.1 := hS.lt (i := 0) (by decide)
  have hN1 : m + 1 < S.1 := hS.lt (by decide)
  have hN2 : m + 2 < S.1 := hS.lt (by decide)
  have hN3 : m + 3 < S.1 := hS.lt (by decide)
  have hN4 : m + 4 < S.1 := hS.lt (by decide)
  have hN5 : m + 5 < S.1 := hS.lt (by decide)
  have hN6 : m + 6 < S.1 := hS.lt (by decide)
  obtain ⟨⟨-, k0, k1, k2, k3, k4, k5, k6, k7, k8, k9, k10⟩, r0, r1, r2, r3, r4, r6, r7, r8, r9, r11⟩ := id hS
  intro t
  induction t with
  | zero =>
    intro i hi
    obtain rfl : i = 72 := by omega
    refine zg_iload_n (i := 1) dX3_begin_2 rfl rfl ?_
    refine zg_bipush (v := nI 72) dX3_begin_3 (by decide) ?_
    first | with_reducible refine zg_icmpN_ge (tgt := 29) dX3_begin_5 (by decide) (by omega) (by omega) (fun c => ?_) (fun c => ?_) | refine zg_icmp_ge (tgt := 29) dX3_begin_5 (by decide) (fun c => ?_) (fun c => ?_)
    · exact hx
    · omega
  | succ t ih =>
    intro i hi
    refine zg_iload_n (i := 1) dX3_begin_2 rfl rfl ?_
    refine zg_bipush (v := nI 72) dX3_begin_3 (by decide) ?_
    first | with_reducible refine zg_icmpN_ge (tgt := 29) dX3_begin_5 (by decide) (by omega) (by omega) (fun c => ?_) (fun c => ?_) | refine zg_icmp_ge (tgt := 29) dX3_begin_5 (by decide) (fun c => ?_) (fun c => ?_)
    · omega
    · refine zg_aload_n (i := 0) dX3_begin_8 rfl rfl ?_
      refine zg_getR dX3_begin_9 flX3_7 (by decide) (by assumption) (by assumption) (by assumption) ?_
      refine zg_bipush (v := nI 72) dX3_begin_12 (by decide) ?_
      refine zg_iload_n (i := 1) dX3_begin_14 rfl rfl ?_
      first | with_reducible refine zg_iaddN dX3_begin_15 ?_ | refine zg_iadd dX3_begin_15 ?_
      refine zg_aload_n (i := 0) dX3_begin_16 rfl rfl ?_
      refine zg_getR dX3_begin_17 flX3_7 (by decide) (by assumption) (by assumption) (by assumption) ?_
      refine zg_iload_n (i := 1) dX3_begin_20 rfl rfl ?_
      first | with_reducible refine zg_ialdR dX3_begin_21 (by assumption) (by assumption) rfl (by omega) (by decide) ?_ | refine zg_iald dX3_begin_21 (by assumption) (by assumption) rfl (by omega) (by decide) ?_
      refine zg_val (y := (f) i) (by rw [cpi_out (by omega)]) ?_
      first | with_reducible refine zg_iastR dX3_begin_22 (by assumption) (by assumption) rfl (by omega) (by decide) ?_ | refine zg_iast dX3_begin_22 (by assumption) (by assumption) rfl (by omega) (by decide) ?_
      refine zg_mu (congrArg (zrow mu (m + 1)) (cpi_1 f (f) (72) i)) ?_
      refine zg_iinc1 (L2 := [_, _]) dX3_begin_23 (by decide) rfl rfl ?_
      refine zg_goto (tgt := 2) dX3_begin_26 (by decide) ?_
      exact ih (i + 1) (by omega)
set_option maxRecDepth 20000 in
theorem lm_begin33 {S : zS} {m : Nat} (hS : MS S m) (mu : zU) (f : Nat → Int32)   (Ph : Option zV → zS → zU → Prop) (hx : zG RX3 "begin" cX3_begin 2 none (zroom 0 0 0) 0 0 Ph 53 [some (.inr (m + 1)), some (.inl (nI (144 + 106)))] [] S (zrow mu (m + 1) (cpi f (fun _ => nI 0) (144) 106)) 0 0) :
    ∀ (t i : Nat), i + t = 106 → zG RX3 "begin" cX3_begin 2 none (zroom 0 0 0) 0 0 Ph 33 [some (.inr (m + 1)), some (.inl (nI (144 + i)))] [] S (zrow mu (m + 1) (cpi f (fun _ => nI 0) (144) i)) 0 0 := by
  have hN0 : m < S.1 := hS.lt (i := 0) (by decide)
  have hN1 : m + 1 < S.1 := hS.lt (by decide)
  have hN2 : m + 2 < S.1 := hS.lt (by decide)
  have hN3 : m + 3 < S.1 := hS.lt (by decide)
  have hN4 : m + 4 < S.1 := hS.lt (by decide)
  have hN5 : m + 5 < S.1 := hS.lt (by decide)
  have hN6 : m + 6 < S.1 := hS.lt (by decide)
  obtain ⟨⟨-, k0, k1, k2, k3, k4, k5, k6, k7, k8, k9, k10⟩, r0, r1, r2, r3, r4, r6, r7, r8, r9, r11⟩ := id hS
  intro t
  induction t with
  | zero =>
    intro i hi
    obtain rfl : i = 106 := by omega
    refine zg_iload_n (i := 1) dX3_begin_33 rfl rfl ?_
    refine zg_sipush (v := nI 250) dX3_begin_34 (by decide) ?_
    first | with_reducible refine zg_icmpN_ge (tgt := 53) dX3_begin_37 (by decide) (by omega) (by omega) (fun c => ?_) (fun c => ?_) | refine zg_icmp_ge (tgt := 53) dX3_begin_37 (by decide) (fun c => ?_) (fun c => ?_)
    · exact hx
    · omega
  | succ t ih =>
    intro i hi
    refine zg_iload_n (i := 1) dX3_begin_33 rfl rfl ?_
    refine zg_sipush (v := nI 250) dX3_begin_34 (by decide) ?_
    first | with_reducible refine zg_icmpN_ge (tgt := 53) dX3_begin_37 (by decide) (by omega) (by omega) (fun c => ?_) (fun c => ?_) | refine zg_icmp_ge (tgt := 53) dX3_begin_37 (by decide) (fun c => ?_) (fun c => ?_)
    · omega
    · refine zg_aload_n (i := 0) dX3_begin_40 rfl rfl ?_
      refine zg_getR dX3_begin_41 flX3_7 (by decide) (by assumption) (by assumption) (by assumption) ?_
      refine zg_iload_n (i := 1) dX3_begin_44 rfl rfl ?_
      refine zg_iconst (v := nI 0) dX3_begin_45 (by decide) ?_
      first | with_reducible refine zg_iastR dX3_begin_46 (by assumption) (by assumption) rfl (by omega) (by decide) ?_ | refine zg_iast dX3_begin_46 (by assumption) (by assumption) rfl (by omega) (by decide) ?_
      refine zg_mu (congrArg (zrow mu (m + 1)) (cpi_1 f (fun _ => nI 0) (144) i)) ?_
      refine zg_iinc1 (L2 := [_, _]) dX3_begin_47 (by decide) rfl rfl ?_
      refine zg_goto (tgt := 33) dX3_begin_50 (by decide) ?_
      exact ih (i + 1) (by omega)
set_option maxRecDepth 20000 in
theorem lm_begin57 {S : zS} {m : Nat} (hS : MS S m) (mu : zU) (f : Nat → Int32)   (Ph : Option zV → zS → zU → Prop) (hx : zG RX3 "begin" cX3_begin 2 none (zroom 0 0 0) 0 0 Ph 77 [some (.inr (m + 1)), some (.inl (nI (267 + 22)))] [] S (zrow mu (m + 1) (cpi f (fun _ => nI 0) (267) 22)) 0 0) :
    ∀ (t i : Nat), i + t = 22 → zG RX3 "begin" cX3_begin 2 none (zroom 0 0 0) 0 0 Ph 57 [some (.inr (m + 1)), some (.inl (nI (267 + i)))] [] S (zrow mu (m + 1) (cpi f (fun _ => nI 0) (267) i)) 0 0 := by
  have hN0 : m < S.1 := hS.lt (i := 0) (by decide)
  have hN1 : m + 1 < S.1 := hS.lt (by decide)
  have hN2 : m + 2 < S.1 := hS.lt (by decide)
  have hN3 : m + 3 < S.1 := hS.lt (by decide)
  have hN4 : m + 4 < S.1 := hS.lt (by decide)
  have hN5 : m + 5 < S.1 := hS.lt (by decide)
  have hN6 : m + 6 < S.1 := hS.lt (by decide)
  obtain ⟨⟨-, k0, k1, k2, k3, k4, k5, k6, k7, k8, k9, k10⟩, r0, r1, r2, r3, r4, r6, r7, r8, r9, r11⟩ := id hS
  intro t
  induction t with
  | zero =>
    intro i hi
    obtain rfl : i = 22 := by omega
    refine zg_iload_n (i := 1) dX3_begin_57 rfl rfl ?_
    refine zg_sipush (v := nI 289) dX3_begin_58 (by decide) ?_
    first | with_reducible refine zg_icmpN_ge (tgt := 77) dX3_begin_61 (by decide) (by omega) (by omega) (fun c => ?_) (fun c => ?_) | refine zg_icmp_ge (tgt := 77) dX3_begin_61 (by decide) (fun c => ?_) (fun c => ?_)
    · exact hx
    · omega
  | succ t ih =>
    intro i hi
    refine zg_iload_n (i := 1) dX3_begin_57 rfl rfl ?_
    refine zg_sipush (v := nI 289) dX3_begin_58 (by decide) ?_
    first | with_reducible refine zg_icmpN_ge (tgt := 77) dX3_begin_61 (by decide) (by omega) (by omega) (fun c => ?_) (fun c => ?_) | refine zg_icmp_ge (tgt := 77) dX3_begin_61 (by decide) (fun c => ?_) (fun c => ?_)
    · omega
    · refine zg_aload_n (i := 0) dX3_begin_64 rfl rfl ?_
      refine zg_getR dX3_begin_65 flX3_7 (by decide) (by assumption) (by assumption) (by assumption) ?_
      refine zg_iload_n (i := 1) dX3_begin_68 rfl rfl ?_
      refine zg_iconst (v := nI 0) dX3_begin_69 (by decide) ?_
      first | with_reducible refine zg_iastR dX3_begin_70 (by assumption) (by assumption) rfl (by omega) (by decide) ?_ | refine zg_iast dX3_begin_70 (by assumption) (by assumption) rfl (by omega) (by decide) ?_
      refine zg_mu (congrArg (zrow mu (m + 1)) (cpi_1 f (fun _ => nI 0) (267) i)) ?_
      refine zg_iinc1 (L2 := [_, _]) dX3_begin_71 (by decide) rfl rfl ?_
      refine zg_goto (tgt := 57) dX3_begin_74 (by decide) ?_
      exact ih (i + 1) (by omega)
set_option maxRecDepth 20000 in
theorem lm_cyc29 {S : zS} {m : Nat} (hS : MS S m) (mu : zU) (f : Nat → Int32) {lv1 lv3 : Option zV}  (Ph : Option zV → zS → zU → Prop) (hx : zG RX3 "findCycle" cX3_findCycle 4 none (zroom 8 0 0) 0 0 Ph 54 [some (.inr (m + 1)), lv1, some (.inl (nI (289))), lv3] [] S (zrow mu (m + 4) (cpi f (mu (m + 1)) (0) 289)) 0 0) :
    ∀ (t i : Nat), i + t = 289 → zG RX3 "findCycle" cX3_findCycle 4 none (zroom 8 0 0) 0 0 Ph 29 [some (.inr (m + 1)), lv1, some (.inl (nI (i))), lv3] [] S (zrow mu (m + 4) (cpi f (mu (m + 1)) (0) i)) 0 0 := by
  have hN0 : m < S.1 := hS.lt (i := 0) (by decide)
  have hN1 : m + 1 < S.1 := hS.lt (by decide)
  have hN2 : m + 2 < S.1 := hS.lt (by decide)
  have hN3 : m + 3 < S.1 := hS.lt (by decide)
  have hN4 : m + 4 < S.1 := hS.lt (by decide)
  have hN5 : m + 5 < S.1 := hS.lt (by decide)
  have hN6 : m + 6 < S.1 := hS.lt (by decide)
  obtain ⟨⟨-, k0, k1, k2, k3, k4, k5, k6, k7, k8, k9, k10⟩, r0, r1, r2, r3, r4, r6, r7, r8, r9, r11⟩ := id hS
  intro t
  induction t with
  | zero =>
    intro i hi
    obtain rfl : i = 289 := by omega
    refine zg_iload_n (i := 2) dX3_findCycle_29 rfl rfl ?_
    refine zg_sipush (v := nI 289) dX3_findCycle_30 (by decide) ?_
    first | with_reducible refine zg_icmpN_ge (tgt := 54) dX3_findCycle_33 (by decide) (by omega) (by omega) (fun c => ?_) (fun c => ?_) | refine zg_icmp_ge (tgt := 54) dX3_findCycle_33 (by decide) (fun c => ?_) (fun c => ?_)
    · exact hx
    · omega
  | succ t ih =>
    intro i hi
    refine zg_iload_n (i := 2) dX3_findCycle_29 rfl rfl ?_
    refine zg_sipush (v := nI 289) dX3_findCycle_30 (by decide) ?_
    first | with_reducible refine zg_icmpN_ge (tgt := 54) dX3_findCycle_33 (by decide) (by omega) (by omega) (fun c => ?_) (fun c => ?_) | refine zg_icmp_ge (tgt := 54) dX3_findCycle_33 (by decide) (fun c => ?_) (fun c => ?_)
    · omega
    · refine zg_aload_n (i := 0) dX3_findCycle_36 rfl rfl ?_
      refine zg_getR dX3_findCycle_37 flX3_19 (by decide) (by assumption) (by assumption) (by assumption) ?_
      refine zg_iload_n (i := 2) dX3_findCycle_40 rfl rfl ?_
      refine zg_aload_n (i := 0) dX3_findCycle_41 rfl rfl ?_
      refine zg_getR dX3_findCycle_42 flX3_7 (by decide) (by assumption) (by assumption) (by assumption) ?_
      refine zg_iload_n (i := 2) dX3_findCycle_45 rfl rfl ?_
      first | with_reducible refine zg_ialdR dX3_findCycle_46 (by assumption) (by assumption) rfl (by omega) (by decide) ?_ | refine zg_iald dX3_findCycle_46 (by assumption) (by assumption) rfl (by omega) (by decide) ?_
      refine zg_val (y := (mu (m + 1)) i) (by rw [zrow_n (by omega)]) ?_
      first | with_reducible refine zg_iastR dX3_findCycle_47 (by assumption) (by assumption) rfl (by omega) (by decide) ?_ | refine zg_iast dX3_findCycle_47 (by assumption) (by assumption) rfl (by omega) (by decide) ?_
      refine zg_mu (congrArg (zrow mu (m + 4)) (cpi_z f (mu (m + 1)) i)) ?_
      refine zg_iinc1 (L2 := [_, _, _, _]) dX3_findCycle_48 (by decide) rfl rfl ?_
      refine zg_goto (tgt := 29) dX3_findCycle_51 (by decide) ?_
      exact ih (i + 1) (by omega)
set_option maxRecDepth 20000 in
theorem lm_cyc72 {S : zS} {m : Nat} (hS : MS S m) (mu : zU) (f : Nat → Int32) {lv1 lv2 : Option zV}  (Ph : Option zV → zS → zU → Prop) (hx : zG RX3 "findCycle" cX3_findCycle 4 none (zroom 8 0 0) 0 0 Ph 97 [some (.inr (m + 1)), lv1, lv2, some (.inl (nI (289)))] [] S (zrow mu (m + 1) (cpi f (mu (m + 4)) (0) 289)) 0 0) :
    ∀ (t i : Nat), i + t = 289 → zG RX3 "findCycle" cX3_findCycle 4 none (zroom 8 0 0) 0 0 Ph 72 [some (.inr (m + 1)), lv1, lv2, some (.inl (nI (i)))] [] S (zrow mu (m + 1) (cpi f (mu (m + 4)) (0) i)) 0 0 := by
  have hN0 : m < S.1 := hS.lt (i := 0) (by decide)
  have hN1 : m + 1 < S.1 := hS.lt (by decide)
  have hN2 : m + 2 < S.1 := hS.lt (by decide)
  have hN3 : m + 3 < S.1 := hS.lt (by decide)
  have hN4 : m + 4 < S.1 := hS.lt (by decide)
  have hN5 : m + 5 < S.1 := hS.lt (by decide)
  have hN6 : m + 6 < S.1 := hS.lt (by decide)
  obtain ⟨⟨-, k0, k1, k2, k3, k4, k5, k6, k7, k8, k9, k10⟩, r0, r1, r2, r3, r4, r6, r7, r8, r9, r11⟩ := id hS
  intro t
  induction t with
  | zero =>
    intro i hi
    obtain rfl : i = 289 := by omega
    refine zg_iload_n (i := 3) dX3_findCycle_72 rfl rfl ?_
    refine zg_sipush (v := nI 289) dX3_findCycle_73 (by decide) ?_
    first | with_reducible refine zg_icmpN_ge (tgt := 97) dX3_findCycle_76 (by decide) (by omega) (by omega) (fun c => ?_) (fun c => ?_) | refine zg_icmp_ge (tgt := 97) dX3_findCycle_76 (by decide) (fun c => ?_) (fun c => ?_)
    · exact hx
    · omega
  | succ t ih =>
    intro i hi
    refine zg_iload_n (i := 3) dX3_findCycle_72 rfl rfl ?_
    refine zg_sipush (v := nI 289) dX3_findCycle_73 (by decide) ?_
    first | with_reducible refine zg_icmpN_ge (tgt := 97) dX3_findCycle_76 (by decide) (by omega) (by omega) (fun c => ?_) (fun c => ?_) | refine zg_icmp_ge (tgt := 97) dX3_findCycle_76 (by decide) (fun c => ?_) (fun c => ?_)
    · omega
    · refine zg_aload_n (i := 0) dX3_findCycle_79 rfl rfl ?_
      refine zg_getR dX3_findCycle_80 flX3_7 (by decide) (by assumption) (by assumption) (by assumption) ?_
      refine zg_iload_n (i := 3) dX3_findCycle_83 rfl rfl ?_
      refine zg_aload_n (i := 0) dX3_findCycle_84 rfl rfl ?_
      refine zg_getR dX3_findCycle_85 flX3_19 (by decide) (by assumption) (by assumption) (by assumption) ?_
      refine zg_iload_n (i := 3) dX3_findCycle_88 rfl rfl ?_
      first | with_reducible refine zg_ialdR dX3_findCycle_89 (by assumption) (by assumption) rfl (by omega) (by decide) ?_ | refine zg_iald dX3_findCycle_89 (by assumption) (by assumption) rfl (by omega) (by decide) ?_
      refine zg_val (y := (mu (m + 4)) i) (by rw [zrow_n (by omega)]) ?_
      first | with_reducible refine zg_iastR dX3_findCycle_90 (by assumption) (by assumption) rfl (by omega) (by decide) ?_ | refine zg_iast dX3_findCycle_90 (by assumption) (by assumption) rfl (by omega) (by decide) ?_
      refine zg_mu (congrArg (zrow mu (m + 1)) (cpi_z f (mu (m + 4)) i)) ?_
      refine zg_iinc1 (L2 := [_, _, _, _]) dX3_findCycle_91 (by decide) rfl rfl ?_
      refine zg_goto (tgt := 72) dX3_findCycle_94 (by decide) ?_
      exact ih (i + 1) (by omega)
set_option maxRecDepth 20000 in
theorem lm_cyc146 {S : zS} {m : Nat} (hS : MS S m) (mu : zU) (f : Nat → Int32) {lv1 lv2 : Option zV}  (Ph : Option zV → zS → zU → Prop) (hx : zG RX3 "findCycle" cX3_findCycle 4 none (zroom 8 0 0) 0 0 Ph 171 [some (.inr (m + 1)), lv1, lv2, some (.inl (nI (289)))] [] S (zrow mu (m + 1) (cpi f (mu (m + 4)) (0) 289)) 0 0) :
    ∀ (t i : Nat), i + t = 289 → zG RX3 "findCycle" cX3_findCycle 4 none (zroom 8 0 0) 0 0 Ph 146 [some (.inr (m + 1)), lv1, lv2, some (.inl (nI (i)))] [] S (zrow mu (m + 1) (cpi f (mu (m + 4)) (0) i)) 0 0 := by
  have hN0 : m < S.1 := hS.lt (i := 0) (by decide)
  have hN1 : m + 1 < S.1 := hS.lt (by decide)
  have hN2 : m + 2 < S.1 := hS.lt (by decide)
  have hN3 : m + 3 < S.1 := hS.lt (by decide)
  have hN4 : m + 4 < S.1 := hS.lt (by decide)
  have hN5 : m + 5 < S.1 := hS.lt (by decide)
  have hN6 : m + 6 < S.1 := hS.lt (by decide)
  obtain ⟨⟨-, k0, k1, k2, k3, k4, k5, k6, k7, k8, k9, k10⟩, r0, r1, r2, r3, r4, r6, r7, r8, r9, r11⟩ := id hS
  intro t
  induction t with
  | zero =>
    intro i hi
    obtain rfl : i = 289 := by omega
    refine zg_iload_n (i := 3) dX3_findCycle_146 rfl rfl ?_
    refine zg_sipush (v := nI 289) dX3_findCycle_147 (by decide) ?_
    first | with_reducible refine zg_icmpN_ge (tgt := 171) dX3_findCycle_150 (by decide) (by omega) (by omega) (fun c => ?_) (fun c => ?_) | refine zg_icmp_ge (tgt := 171) dX3_findCycle_150 (by decide) (fun c => ?_) (fun c => ?_)
    · exact hx
    · omega
  | succ t ih =>
    intro i hi
    refine zg_iload_n (i := 3) dX3_findCycle_146 rfl rfl ?_
    refine zg_sipush (v := nI 289) dX3_findCycle_147 (by decide) ?_
    first | with_reducible refine zg_icmpN_ge (tgt := 171) dX3_findCycle_150 (by decide) (by omega) (by omega) (fun c => ?_) (fun c => ?_) | refine zg_icmp_ge (tgt := 171) dX3_findCycle_150 (by decide) (fun c => ?_) (fun c => ?_)
    · omega
    · refine zg_aload_n (i := 0) dX3_findCycle_153 rfl rfl ?_
      refine zg_getR dX3_findCycle_154 flX3_7 (by decide) (by assumption) (by assumption) (by assumption) ?_
      refine zg_iload_n (i := 3) dX3_findCycle_157 rfl rfl ?_
      refine zg_aload_n (i := 0) dX3_findCycle_158 rfl rfl ?_
      refine zg_getR dX3_findCycle_159 flX3_19 (by decide) (by assumption) (by assumption) (by assumption) ?_
      refine zg_iload_n (i := 3) dX3_findCycle_162 rfl rfl ?_
      first | with_reducible refine zg_ialdR dX3_findCycle_163 (by assumption) (by assumption) rfl (by omega) (by decide) ?_ | refine zg_iald dX3_findCycle_163 (by assumption) (by assumption) rfl (by omega) (by decide) ?_
      refine zg_val (y := (mu (m + 4)) i) (by rw [zrow_n (by omega)]) ?_
      first | with_reducible refine zg_iastR dX3_findCycle_164 (by assumption) (by assumption) rfl (by omega) (by decide) ?_ | refine zg_iast dX3_findCycle_164 (by assumption) (by assumption) rfl (by omega) (by decide) ?_
      refine zg_mu (congrArg (zrow mu (m + 1)) (cpi_z f (mu (m + 4)) i)) ?_
      refine zg_iinc1 (L2 := [_, _, _, _]) dX3_findCycle_165 (by decide) rfl rfl ?_
      refine zg_goto (tgt := 146) dX3_findCycle_168 (by decide) ?_
      exact ih (i + 1) (by omega)
set_option maxRecDepth 20000 in
theorem lm_cyc177 {S : zS} {m : Nat} (hS : MS S m) (mu : zU) (f : Nat → Int32) {lv1 lv2 : Option zV}  (Ph : Option zV → zS → zU → Prop) (hx : zG RX3 "findCycle" cX3_findCycle 4 none (zroom 8 0 0) 0 0 Ph 202 [some (.inr (m + 1)), lv1, lv2, some (.inl (nI (289)))] [] S (zrow mu (m + 4) (cpi f (mu (m + 1)) (0) 289)) 0 0) :
    ∀ (t i : Nat), i + t = 289 → zG RX3 "findCycle" cX3_findCycle 4 none (zroom 8 0 0) 0 0 Ph 177 [some (.inr (m + 1)), lv1, lv2, some (.inl (nI (i)))] [] S (zrow mu (m + 4) (cpi f (mu (m + 1)) (0) i)) 0 0 := by
  have hN0 : m < S.1 := hS.lt (i := 0) (by decide)
  have hN1 : m + 1 < S.1 := hS.lt (by decide)
  have hN2 : m + 2 < S.1 := hS.lt (by decide)
  have hN3 : m + 3 < S.1 := hS.lt (by decide)
  have hN4 : m + 4 < S.1 := hS.lt (by decide)
  have hN5 : m + 5 < S.1 := hS.lt (by decide)
  have hN6 : m + 6 < S.1 := hS.lt (by decide)
  obtain ⟨⟨-, k0, k1, k2, k3, k4, k5, k6, k7, k8, k9, k10⟩, r0, r1, r2, r3, r4, r6, r7, r8, r9, r11⟩ := id hS
  intro t
  induction t with
  | zero =>
    intro i hi
    obtain rfl : i = 289 := by omega
    refine zg_iload_n (i := 3) dX3_findCycle_177 rfl rfl ?_
    refine zg_sipush (v := nI 289) dX3_findCycle_178 (by decide) ?_
    first | with_reducible refine zg_icmpN_ge (tgt := 202) dX3_findCycle_181 (by decide) (by omega) (by omega) (fun c => ?_) (fun c => ?_) | refine zg_icmp_ge (tgt := 202) dX3_findCycle_181 (by decide) (fun c => ?_) (fun c => ?_)
    · exact hx
    · omega
  | succ t ih =>
    intro i hi
    refine zg_iload_n (i := 3) dX3_findCycle_177 rfl rfl ?_
    refine zg_sipush (v := nI 289) dX3_findCycle_178 (by decide) ?_
    first | with_reducible refine zg_icmpN_ge (tgt := 202) dX3_findCycle_181 (by decide) (by omega) (by omega) (fun c => ?_) (fun c => ?_) | refine zg_icmp_ge (tgt := 202) dX3_findCycle_181 (by decide) (fun c => ?_) (fun c => ?_)
    · omega
    · refine zg_aload_n (i := 0) dX3_findCycle_184 rfl rfl ?_
      refine zg_getR dX3_findCycle_185 flX3_19 (by decide) (by assumption) (by assumption) (by assumption) ?_
      refine zg_iload_n (i := 3) dX3_findCycle_188 rfl rfl ?_
      refine zg_aload_n (i := 0) dX3_findCycle_189 rfl rfl ?_
      refine zg_getR dX3_findCycle_190 flX3_7 (by decide) (by assumption) (by assumption) (by assumption) ?_
      refine zg_iload_n (i := 3) dX3_findCycle_193 rfl rfl ?_
      first | with_reducible refine zg_ialdR dX3_findCycle_194 (by assumption) (by assumption) rfl (by omega) (by decide) ?_ | refine zg_iald dX3_findCycle_194 (by assumption) (by assumption) rfl (by omega) (by decide) ?_
      refine zg_val (y := (mu (m + 1)) i) (by rw [zrow_n (by omega)]) ?_
      first | with_reducible refine zg_iastR dX3_findCycle_195 (by assumption) (by assumption) rfl (by omega) (by decide) ?_ | refine zg_iast dX3_findCycle_195 (by assumption) (by assumption) rfl (by omega) (by decide) ?_
      refine zg_mu (congrArg (zrow mu (m + 4)) (cpi_z f (mu (m + 1)) i)) ?_
      refine zg_iinc1 (L2 := [_, _, _, _]) dX3_findCycle_196 (by decide) rfl rfl ?_
      refine zg_goto (tgt := 177) dX3_findCycle_199 (by decide) ?_
      exact ih (i + 1) (by omega)
