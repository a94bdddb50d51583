/-! THE CLASS: tick, run, ticksToHalt, setBreakpoint -/
set_option maxRecDepth 20000 in
theorem cx_tick {S : zS} {x : Nat} {pm : Nat → Nat} (hS : XS S x pm) {mu : zU} {tl uc : Nat} {v tx bp kp : Nat → Int32} {us sn : Nat → Nat → Int32} (hX : XR mu x pm v tl tx bp uc us kp sn) (e : Int32) : zM yX2_tick cX2_tick 2 (some .int) 6 0 0 [.inr (x + 1), .inl e] S mu (zTi S (fun r T mu2 => XP S T x mu mu2 (fun pm2 => PF v bp e false r (XR mu2 x pm2 v tl tx bp uc us kp sn) (fun n => XR mu2 x pm2 (qit v n) tl tx bp (ucN uc) (usN uc us v) kp sn)))) := by
  have hN0 : x < S.1 := hS.lt (i := 0) (by decide)
  have xk0 := hS.1.2.1
  have hp := cx_advance hS hX false e
  rw [if_neg (by decide)] at hp
  refine zM.ofG (by decide +kernel) (Nat.le_of_ble_eq_true rfl) ?_
  refine zg_aload_n (i := 0) dX2_tick_0 rfl rfl ?_
  refine zg_iload_n (i := 1) dX2_tick_1 rfl rfl ?_
  refine zg_iconst (v := nI 0) dX2_tick_2 (by decide) ?_
  refine zg_callTi (hp) dX2_tick_3 cvX2_advance mlX2_81 rfl (by assumption) (by assumption) rfl (Nat.le_of_ble_eq_true rfl) ⟨by decide, by decide⟩ ⟨Nat.le_refl _, Nat.le_refl _⟩ (fun r T mu2 h2 => ?_)
  exact zg_iret dX2_tick_6 rfl ⟨_, rfl, h2.1.1, h2⟩
set_option maxRecDepth 20000 in
theorem cx_run {S : zS} {x : Nat} {pm : Nat → Nat} (hS : XS S x pm) {mu : zU} {tl uc : Nat} {v tx bp kp : Nat → Int32} {us sn : Nat → Nat → Int32} (hX : XR mu x pm v tl tx bp uc us kp sn) (e : Int32) : zM yX2_run cX2_run 2 (some .int) 6 0 0 [.inr (x + 1), .inl e] S mu (zTi S (fun r T mu2 => XP S T x mu mu2 (fun pm2 => PF v bp e true r (XR mu2 x pm2 v tl tx bp uc us kp sn) (fun n => XR mu2 x pm2 (qit v n) tl tx bp (ucN uc) (usN uc us v) kp sn)))) := by
  have hN0 : x < S.1 := hS.lt (i := 0) (by decide)
  have xk0 := hS.1.2.1
  have hp := cx_advance hS hX true e
  rw [if_pos rfl] at hp
  refine zM.ofG (by decide +kernel) (Nat.le_of_ble_eq_true rfl) ?_
  refine zg_aload_n (i := 0) dX2_run_0 rfl rfl ?_
  refine zg_iload_n (i := 1) dX2_run_1 rfl rfl ?_
  refine zg_iconst (v := nI 1) dX2_run_2 (by decide) ?_
  refine zg_callTi (hp) dX2_run_3 cvX2_advance mlX2_81 rfl (by assumption) (by assumption) rfl (Nat.le_of_ble_eq_true rfl) ⟨by decide, by decide⟩ ⟨Nat.le_refl _, Nat.le_refl _⟩ (fun r T mu2 h2 => ?_)
  exact zg_iret dX2_run_6 rfl ⟨_, rfl, h2.1.1, h2⟩
/-- a trial changes, the rest stays -/
theorem XR_tr {S : zS} {mu mu2 : zU} {x tl uc : Nat} {pm : Nat → Nat} {v tx bp kp : Nat → Int32} {us sn : Nat → Nat → Int32} (hS : XS S x pm) (h : XR mu x pm v tl tx bp uc us kp sn) (hm : ∀ q, q < x + 177 → mu2 q = mu q) : XR mu2 x pm v tl tx bp uc us kp sn := by
  obtain ⟨⟨ol, hSX⟩, -⟩ := id h
  exact XR_now hS h (fun q _ b => hm q b) (SX_mv hSX (fun q a b => hm q (by omega)))
set_option maxRecDepth 20000 in
theorem lx_tth22 {S : zS} {x : Nat} {pm : Nat → Nat} (hS : XS S x pm) {v : Nat → Int32} {lim : Nat} (hlim : lim ≤ 200) (mu0 : zU) (Ph : Option zV → zS → zU → Prop) (hx : ∀ mu r, zfr mu0 mu (x + 177) 19 → HL v lim r → Ph (some (.inl r)) S mu) :
    ∀ (t n : Nat) (mu : zU) (ol : List Nat), n + t = lim → SX mu (x + 177) (qit v n) ol → zfr mu0 mu (x + 177) 19 → (∀ k, k < n → qhalt (qit v k) = false) → zG RX2 "ticksToHalt" cX2_ticksToHalt 3 (some .int) (zroom 5 0 0) 0 0 Ph 22 [some (.inr (x + 1)), some (.inl (nI lim)), some (.inl (nI n))] [] S (mu) 0 0 := by
  have hN0 : x < S.1 := hS.lt (i := 0) (by decide)
  have hNs : x + 177 < S.1 := hS.lt (by decide)
  have xk0 := hS.1.2.1
  have xr9 := hS.2.1.2.2.2.2.2.2.1
  have sk0 := hS.2.2.1.2.1.2.1
  have hend : ∀ (n : Nat) (mu : zU) (ol : List Nat), n ≤ lim → SX mu (x + 177) (qit v n) ol → zfr mu0 mu (x + 177) 19 → (∀ k, k < n → qhalt (qit v k) = false) → (n = lim ∨ qhalt (qit v n) = true) → zG RX2 "ticksToHalt" cX2_ticksToHalt 3 (some .int) (zroom 5 0 0) 0 0 Ph 50 [some (.inr (x + 1)), some (.inl (nI lim)), some (.inl (nI n))] [] S mu 0 0 := by
    intro n mu ol hn hSX hf hno hst
    have hq := qhalt_len hSX.1
    refine zg_aload_n (i := 0) dX2_ticksToHalt_50 rfl rfl ?_
    refine zg_getR dX2_ticksToHalt_51 flX2_34 (by decide) (by assumption) (by assumption) (by assumption) ?_
    refine zg_callVi (cx_isHalted hS.2.2.1.2.1 hSX) dX2_ticksToHalt_54 cvX1_isHalted mlX2_98 rfl (by assumption) (by assumption) rfl (Nat.le_of_ble_eq_true rfl) ⟨by decide, by decide⟩ ⟨Nat.le_refl _, Nat.le_refl _⟩ (fun r mu2 h2 => ?_)
    obtain ⟨rfl, rfl⟩ := h2
    by_cases hh : qhb (qit v n) ol.length = true
    · rw [if_pos hh]
      first | with_reducible refine zg_ifN_eq (tgt := 64) dX2_ticksToHalt_57 (by decide) (by omega) (fun c => ?_) (fun c => ?_) | refine zg_if_eq (tgt := 64) dX2_ticksToHalt_57 (by decide) (fun c => ?_) (fun c => ?_)
      · exact absurd c (by decide)
      · refine zg_iload_n (i := 2) dX2_ticksToHalt_60 rfl rfl ?_
        refine zg_goto (tgt := 66) dX2_ticksToHalt_61 (by decide) ?_
        exact zg_iret dX2_ticksToHalt_66 rfl (hx _ _ hf (Or.inl ⟨n, hn, by rw [hq, hh], hno, rfl⟩))
    · rw [if_neg hh]
      have hh' : qhalt (qit v n) = false := by rw [hq]; simpa using hh
      first | with_reducible refine zg_ifN_eq (tgt := 64) dX2_ticksToHalt_57 (by decide) (by omega) (fun c => ?_) (fun c => ?_) | refine zg_if_eq (tgt := 64) dX2_ticksToHalt_57 (by decide) (fun c => ?_) (fun c => ?_)
      · refine zg_bipush (v := -9) dX2_ticksToHalt_64 (by decide) ?_
        refine zg_iret dX2_ticksToHalt_66 rfl (hx _ _ hf (Or.inr ⟨fun k hk => ?_, rfl⟩))
        rcases Nat.lt_or_ge k n with h1 | h1
        · exact hno k h1
        · rcases hst with h2 | h2
          · rw [show k = n by omega]; exact hh'
          · rw [hh'] at h2; cases h2
      · exact absurd rfl c
  intro t
  induction t with
  | zero =>
    intro n mu ol hn hSX hf hno
    refine zg_iload_n (i := 2) dX2_ticksToHalt_22 rfl rfl ?_
    refine zg_iload_n (i := 1) dX2_ticksToHalt_23 rfl rfl ?_
    first | with_reducible refine zg_icmpN_ge (tgt := 50) dX2_ticksToHalt_24 (by decide) (by omega) (by omega) (fun c => ?_) (fun c => ?_) | refine zg_icmp_ge (tgt := 50) dX2_ticksToHalt_24 (by decide) (fun c => ?_) (fun c => ?_)
    · exact hend n mu ol (by omega) hSX hf hno (Or.inl (by omega))
    · omega
  | succ t ih =>
    intro n mu ol hn hSX hf hno
    have hq := qhalt_len hSX.1
    refine zg_iload_n (i := 2) dX2_ticksToHalt_22 rfl rfl ?_
    refine zg_iload_n (i := 1) dX2_ticksToHalt_23 rfl rfl ?_
    first | with_reducible refine zg_icmpN_ge (tgt := 50) dX2_ticksToHalt_24 (by decide) (by omega) (by omega) (fun c => ?_) (fun c => ?_) | refine zg_icmp_ge (tgt := 50) dX2_ticksToHalt_24 (by decide) (fun c => ?_) (fun c => ?_)
    · omega
    · refine zg_aload_n (i := 0) dX2_ticksToHalt_27 rfl rfl ?_
      refine zg_getR dX2_ticksToHalt_28 flX2_34 (by decide) (by assumption) (by assumption) (by assumption) ?_
      refine zg_callVi (cx_isHalted hS.2.2.1.2.1 hSX) dX2_ticksToHalt_31 cvX1_isHalted mlX2_98 rfl (by assumption) (by assumption) rfl (Nat.le_of_ble_eq_true rfl) ⟨by decide, by decide⟩ ⟨Nat.le_refl _, Nat.le_refl _⟩ (fun r mu2 h2 => ?_)
      obtain ⟨rfl, rfl⟩ := h2
      by_cases hh : qhb (qit v n) ol.length = true
      · rw [if_pos hh]
        first | with_reducible refine zg_ifN_ne (tgt := 50) dX2_ticksToHalt_34 (by decide) (by omega) (fun c2 => ?_) (fun c2 => ?_) | refine zg_if_ne (tgt := 50) dX2_ticksToHalt_34 (by decide) (fun c2 => ?_) (fun c2 => ?_)
        · exact hend n _ ol (by omega) hSX hf hno (Or.inr (by rw [hq, hh]))
        · exact absurd c2 (by decide)
      · rw [if_neg hh]
        first | with_reducible refine zg_ifN_ne (tgt := 50) dX2_ticksToHalt_34 (by decide) (by omega) (fun c2 => ?_) (fun c2 => ?_) | refine zg_if_ne (tgt := 50) dX2_ticksToHalt_34 (by decide) (fun c2 => ?_) (fun c2 => ?_)
        · exact absurd rfl c2
        · refine zg_aload_n (i := 0) dX2_ticksToHalt_37 rfl rfl ?_
          refine zg_getR dX2_ticksToHalt_38 flX2_34 (by decide) (by assumption) (by assumption) (by assumption) ?_
          refine zg_callVv (cx_performTick hS.2.2.1.2.1 hSX) dX2_ticksToHalt_41 cvX1_performTick mlX2_102 rfl (by assumption) (by assumption) rfl (Nat.le_of_ble_eq_true rfl) ⟨by decide, by decide⟩ ⟨Nat.le_refl _, Nat.le_refl _⟩ (fun mu3 h3 => ?_)
          obtain ⟨⟨ol3, h4⟩, h5⟩ := h3
          refine zg_iinc1 (L2 := [_, _, _]) dX2_ticksToHalt_44 (by decide) rfl rfl ?_
          refine zg_goto (tgt := 22) dX2_ticksToHalt_47 (by decide) ?_
          refine ih (n + 1) mu3 ol3 (by omega) h4 (hf.trans h5) (fun k hk => ?_)
          rcases Nat.lt_or_ge k n with h1 | h1
          · exact hno k h1
          · rw [show k = n by omega, hq]; simpa using hh
set_option maxRecDepth 20000 in
theorem cx_ticksToHalt {S : zS} {x : Nat} {pm : Nat → Nat} (hS : XS S x pm) {mu : zU} {tl uc : Nat} {v tx bp kp : Nat → Int32} {us sn : Nat → Nat → Int32} (hX : XR mu x pm v tl tx bp uc us kp sn) (e : Int32) : zM yX2_ticksToHalt cX2_ticksToHalt 3 (some .int) 5 0 0 [.inr (x + 1), .inl e] S mu (zPi S (fun r mu2 => LM e r (fun lim => HL v lim r) ∧ XR mu2 x pm v tl tx bp uc us kp sn ∧ zfr mu mu2 x 215)) := by
  have hN0 : x < S.1 := hS.lt (i := 0) (by decide)
  have hNs : x + 177 < S.1 := hS.lt (by decide)
  have xk0 := hS.1.2.1
  have xr4 := hS.2.1.2.2.1
  have xr9 := hS.2.1.2.2.2.2.2.2.1
  have sk0 := hS.2.2.1.2.1.2.1
  obtain ⟨⟨ol, hSX⟩, -⟩ := id hX
  refine zM.ofG (by decide +kernel) (Nat.le_of_ble_eq_true rfl) ?_
  refine zg_iload_n (i := 1) dX2_ticksToHalt_0 rfl rfl ?_
  refine zg_callSi (cx_isTickLimit S mu e) dX2_ticksToHalt_1 ctX2_isTickLimit mlX2_95 rfl rfl (Nat.le_of_ble_eq_true rfl) ⟨by decide, by decide⟩ ⟨Nat.le_refl _, Nat.le_refl _⟩ (fun r mu2 h2 => ?_)
  obtain ⟨rfl, rfl⟩ := h2
  by_cases hc : nI 1 ≤ e ∧ e ≤ nI 200
  · rw [if_pos hc]
    obtain ⟨lim, hl1, hl2, rfl⟩ := lim_ix hc
    first | with_reducible refine zg_ifN_ne (tgt := 9) dX2_ticksToHalt_4 (by decide) (by omega) (fun c1 => ?_) (fun c1 => ?_) | refine zg_if_ne (tgt := 9) dX2_ticksToHalt_4 (by decide) (fun c1 => ?_) (fun c1 => ?_)
    · refine zg_aload_n (i := 0) dX2_ticksToHalt_9 rfl rfl ?_
      refine zg_getR dX2_ticksToHalt_10 flX2_34 (by decide) (by assumption) (by assumption) (by assumption) ?_
      refine zg_aload_n (i := 0) dX2_ticksToHalt_13 rfl rfl ?_
      refine zg_getR dX2_ticksToHalt_14 flX2_20 (by decide) (by assumption) (by assumption) (by assumption) ?_
      refine zg_callVv (cx_copyS hS.2.2.1.2.1 hS.2.2.1.1 (Or.inr (by omega)) hSX) dX2_ticksToHalt_17 cvX1_copyFrom mlX2_91 rfl (by assumption) (by assumption) rfl (Nat.le_of_ble_eq_true rfl) ⟨by decide, by decide⟩ ⟨Nat.le_refl _, Nat.le_refl _⟩ (fun mu3 h3 => ?_)
      obtain ⟨h4, h5⟩ := h3
      refine zg_iconst (v := nI 0) dX2_ticksToHalt_20 (by decide) ?_
      refine zg_istore_n (i := 2) (L2 := [_, _, _]) dX2_ticksToHalt_21 rfl (by decide) rfl ?_
      refine lx_tth22 hS hl2 mu3 _ ?_ lim 0 mu3 ol (by omega) h4 (zfr.rf _ _ _) (fun k hk => absurd hk (by omega))
      intro mu4 r h6 h7
      exact ⟨_, rfl, rfl, Or.inr ⟨hc, by rw [nI_clamp (by omega)]; exact h7⟩, XR_tr hS hX (fun q hq => by rw [h6 q (by omega), h5 q (by omega)]), fun q hq => by rw [h6 q (by omega), h5 q (by omega)]⟩
    · exact absurd c1 (by decide)
  · rw [if_neg hc]
    first | with_reducible refine zg_ifN_ne (tgt := 9) dX2_ticksToHalt_4 (by decide) (by omega) (fun c1 => ?_) (fun c1 => ?_) | refine zg_if_ne (tgt := 9) dX2_ticksToHalt_4 (by decide) (fun c1 => ?_) (fun c1 => ?_)
    · exact absurd rfl c1
    · refine zg_iconst (v := -1) dX2_ticksToHalt_7 (by decide) ?_
      exact zg_iret dX2_ticksToHalt_8 rfl ⟨_, rfl, rfl, ⟨Or.inl ⟨hc, rfl⟩, hX, zfr.rf _ _ _⟩⟩
theorem qcnt_upd {bp : Nat → Int32} {j : Nat} {y : Int32} : ∀ n, j < n → qcnt (upd bp j y) n + (if bp j = 0 then 0 else 1) = qcnt bp n + (if y = 0 then 0 else 1)
  | 0, h => absurd h (by omega)
  | n + 1, h => by
    rw [qcnt, qcnt]
    by_cases hj : j = n
    · subst hj
      rw [upd_s, qcnt_congr (bq := bp) j (fun i hi => upd_n (by omega))]
      omega
    · rw [upd_n (by omega)]
      have := qcnt_upd (bp := bp) (j := j) (y := y) n (by omega)
      omega
/-- a breakpoint and their number change -/
theorem XR_bk {mu mu2 : zU} {x tl uc : Nat} {pm : Nat → Nat} {v tx bp bq kp : Nat → Int32} {us sn : Nat → Nat → Int32} (h : XR mu x pm v tl tx bp uc us kp sn) (hp : ∀ i, i < uc → pm i < 6) (hm : ∀ q, q ≠ x → q ≠ x + 2 → mu2 q = mu q) (hx : ∀ j, j ≠ 3 → mu2 x j = mu x j) (hb : ∀ j, j < 72 → mu2 (x + 2) j = bq j ∧ (bq j = nI 0 ∨ bq j = nI 1)) (h3 : mu2 x 3 = nI (qcnt bq 72)) : XR mu2 x pm v tl tx bq uc us kp sn := by
  obtain ⟨⟨ol, v1⟩, ⟨t1, t2, t3⟩, -, ⟨u1, u2, u3⟩, s1⟩ := h
  refine ⟨⟨ol, SX_mv v1 (fun q a b => hm q (by omega) (by omega))⟩, ⟨?_, t2, fun j hj => ?_⟩, ⟨hb, h3⟩, ⟨?_, u2, fun i hi => ?_⟩, fun q hq => ⟨?_, (s1 q hq).2.1, fun e => ?_⟩⟩
  · rw [hx _ (by omega)]; exact t1
  · rw [hm _ (by omega) (by omega)]; exact t3 j hj
  · rw [hx _ (by omega)]; exact u1
  · obtain ⟨ol2, h2⟩ := u3 i hi
    exact ⟨ol2, SX_mv h2 (fun q a b => hm q (by omega) (by omega))⟩
  · rw [hm _ (by omega) (by omega)]; exact (s1 q hq).1
  · obtain ⟨ol2, h2⟩ := (s1 q hq).2.2 e
    exact ⟨ol2, SX_mv h2 (fun q a b => hm q (by omega) (by omega))⟩
set_option maxRecDepth 20000 in
theorem lx_sbk37 {S : zS} {x : Nat} {pm : Nat → Nat} (hS : XS S x pm) {mu : zU} {tl uc : Nat} {v tx bp kp : Nat → Int32} {us sn : Nat → Nat → Int32} (hX : XR mu x pm v tl tx bp uc us kp sn) {l1 l2 l3 l5 : Option zV} {b j : Nat} (hb : b < 2) (hj : j < 72) (Ph : Option zV → zS → zU → Prop) (hx0 : bp j = nI b → Ph (some (.inl (-2))) S mu) (hx1 : ∀ mu2, bp j ≠ nI b → XR mu2 x pm v tl tx (upd bp j (nI b)) uc us kp sn → zfr mu mu2 x 215 → Ph (some (.inl (nI (qcnt (upd bp j (nI b)) 72)))) S mu2) :
    zG RX2 "setBreakpoint" cX2_setBreakpoint 6 (some .int) (zroom 1 0 0) 0 0 Ph 37 [some (.inr (x + 1)), l1, l2, l3, some (.inl (nI j)), l5] [.inl (nI b)] S (mu) 0 0 := by
  have hN0 : x < S.1 := hS.lt (i := 0) (by decide)
  have hN2 : x + 2 < S.1 := hS.lt (by decide)
  have xk0 := hS.1.2.1
  have xk2 := hS.1.2.2.2.1
  have xr2 := hS.2.1.2.1
  obtain ⟨-, -, ⟨b1, b2⟩, ⟨-, u2, -⟩, -⟩ := id hX
  have hpp : ∀ i, i < uc → pm i < 6 := fun i hi => (hS.2.2.2.1 i (by omega)).2.2
  obtain ⟨q1, q2⟩ := b1 j hj
  have hu := qcnt_upd (bp := bp) (j := j) (y := nI b) 72 hj
  have hle := qcnt_le bp 72
  have hrow : ∀ i, i < 72 → (upd (mu (x + 2)) j (nI b)) i = upd bp j (nI b) i ∧ (upd bp j (nI b) i = nI 0 ∨ upd bp j (nI b) i = nI 1) := fun i hi => by
    by_cases hij : i = j
    · rw [hij, upd_s, upd_s]
      rcases (show b = 0 ∨ b = 1 by omega) with rfl | rfl
      · exact ⟨rfl, Or.inl rfl⟩
      · exact ⟨rfl, Or.inr rfl⟩
    · rw [upd_n hij, upd_n hij]; exact b1 i hi
  refine zg_istore (L2 := [_, _, _, _, _, _]) dX2_setBreakpoint_37 (by decide) rfl ?_
  refine zg_aload_n (i := 0) dX2_setBreakpoint_39 rfl rfl ?_
  refine zg_getR dX2_setBreakpoint_40 flX2_13 (by decide) (by assumption) (by assumption) (by assumption) ?_
  refine zg_iload dX2_setBreakpoint_43 rfl ?_
  refine zg_zald dX2_setBreakpoint_45 (by assumption) (by assumption) rfl (by omega) (by decide) ?_
  rcases (show b = 0 ∨ b = 1 by omega) with rfl | rfl
  · rcases q2 with h5 | h5
    · refine zg_val (q1.trans h5) ?_
      refine zg_iload dX2_setBreakpoint_46 rfl ?_
      first | with_reducible refine zg_icmpN_ne (tgt := 54) dX2_setBreakpoint_48 (by decide) (by omega) (by omega) (fun c => ?_) (fun c => ?_) | refine zg_icmp_ne (tgt := 54) dX2_setBreakpoint_48 (by decide) (fun c => ?_) (fun c => ?_)
      · omega
      · refine zg_bipush (v := -2) dX2_setBreakpoint_51 (by decide) ?_
        exact zg_iret dX2_setBreakpoint_53 rfl (hx0 h5)
    · refine zg_val (q1.trans h5) ?_
      rw [h5] at hu
      have hu2 : qcnt (upd bp j (nI 0)) 72 + 1 = qcnt bp 72 := hu
      refine zg_iload dX2_setBreakpoint_46 rfl ?_
      first | with_reducible refine zg_icmpN_ne (tgt := 54) dX2_setBreakpoint_48 (by decide) (by omega) (by omega) (fun c => ?_) (fun c => ?_) | refine zg_icmp_ne (tgt := 54) dX2_setBreakpoint_48 (by decide) (fun c => ?_) (fun c => ?_)
      · refine zg_aload_n (i := 0) dX2_setBreakpoint_54 rfl rfl ?_
        refine zg_getR dX2_setBreakpoint_55 flX2_13 (by decide) (by assumption) (by assumption) (by assumption) ?_
        refine zg_iload dX2_setBreakpoint_58 rfl ?_
        refine zg_iload dX2_setBreakpoint_60 rfl ?_
        refine zg_zast dX2_setBreakpoint_62 (by assumption) (by assumption) rfl (by omega) (by decide) (by first | assumption | (left; rfl) | (right; rfl)) ?_
        refine zg_aload_n (i := 0) dX2_setBreakpoint_63 rfl rfl ?_
        refine zg_dup dX2_setBreakpoint_64 ?_
        first | with_reducible refine zg_getIR dX2_setBreakpoint_65 flX2_85 (by decide) (by assumption) (by assumption) (by omega) ?_ | refine zg_getI dX2_setBreakpoint_65 flX2_85 (by decide) (by assumption) (by assumption) ?_
        refine zg_val (y := nI (qcnt (upd bp j (nI 0)) 72 + 1)) (by first | (rw [hu2]; exact b2) | (rw [zup_n (by omega), hu2]; exact b2)) ?_
        refine zg_iload dX2_setBreakpoint_68 rfl ?_
        first | with_reducible refine zg_ifN_eq (tgt := 77) dX2_setBreakpoint_70 (by decide) (by omega) (fun c2 => ?_) (fun c2 => ?_) | refine zg_if_eq (tgt := 77) dX2_setBreakpoint_70 (by decide) (fun c2 => ?_) (fun c2 => ?_)
        · refine zg_iconst (v := -1) dX2_setBreakpoint_77 (by decide) ?_
          refine zg_iadd dX2_setBreakpoint_78 ?_
          refine zg_val (pk_m1 _) ?_
          refine zg_putI dX2_setBreakpoint_79 flX2_85 (by decide) (by assumption) (by assumption) ?_
          refine zg_aload_n (i := 0) dX2_setBreakpoint_82 rfl rfl ?_
          first | with_reducible refine zg_getIR dX2_setBreakpoint_83 flX2_85 (by decide) (by assumption) (by assumption) (by omega) ?_ | refine zg_getI dX2_setBreakpoint_83 flX2_85 (by decide) (by assumption) (by assumption) ?_
          refine zg_val (y := nI (qcnt (upd bp j (nI 0)) 72)) (by rw [zup_s, upd_s]) ?_
          exact zg_iret dX2_setBreakpoint_86 rfl (hx1 _ (by rw [h5]; decide) (XR_bk hX hpp (fun q a c => by rw [zup_n a, zup_n c]) (fun i hi => by rw [zup_s, upd_n hi, zup_n (by omega)]) (fun i hi => by rw [zup_n (by omega), zup_s]; exact hrow i hi) (by rw [zup_s, upd_s])) (fun q hq => by rw [zup_n (by omega), zup_n (by omega)]))
        · exact absurd rfl c2
      · omega
  · rcases q2 with h5 | h5
    · refine zg_val (q1.trans h5) ?_
      rw [h5] at hu
      have hu2 : qcnt (upd bp j (nI 1)) 72 = qcnt bp 72 + 1 := hu
      refine zg_iload dX2_setBreakpoint_46 rfl ?_
      first | with_reducible refine zg_icmpN_ne (tgt := 54) dX2_setBreakpoint_48 (by decide) (by omega) (by omega) (fun c => ?_) (fun c => ?_) | refine zg_icmp_ne (tgt := 54) dX2_setBreakpoint_48 (by decide) (fun c => ?_) (fun c => ?_)
      · refine zg_aload_n (i := 0) dX2_setBreakpoint_54 rfl rfl ?_
        refine zg_getR dX2_setBreakpoint_55 flX2_13 (by decide) (by assumption) (by assumption) (by assumption) ?_
        refine zg_iload dX2_setBreakpoint_58 rfl ?_
        refine zg_iload dX2_setBreakpoint_60 rfl ?_
        refine zg_zast dX2_setBreakpoint_62 (by assumption) (by assumption) rfl (by omega) (by decide) (by first | assumption | (left; rfl) | (right; rfl)) ?_
        refine zg_aload_n (i := 0) dX2_setBreakpoint_63 rfl rfl ?_
        refine zg_dup dX2_setBreakpoint_64 ?_
        first | with_reducible refine zg_getIR dX2_setBreakpoint_65 flX2_85 (by decide) (by assumption) (by assumption) (by omega) ?_ | refine zg_getI dX2_setBreakpoint_65 flX2_85 (by decide) (by assumption) (by assumption) ?_
        refine zg_val (y := nI (qcnt bp 72)) (by first | exact b2 | (rw [zup_n (by omega)]; exact b2)) ?_
        refine zg_iload dX2_setBreakpoint_68 rfl ?_
        first | with_reducible refine zg_ifN_eq (tgt := 77) dX2_setBreakpoint_70 (by decide) (by omega) (fun c2 => ?_) (fun c2 => ?_) | refine zg_if_eq (tgt := 77) dX2_setBreakpoint_70 (by decide) (fun c2 => ?_) (fun c2 => ?_)
        · exact absurd c2 (by decide)
        · refine zg_iconst (v := nI 1) dX2_setBreakpoint_73 (by decide) ?_
          refine zg_goto (tgt := 78) dX2_setBreakpoint_74 (by decide) ?_
          first | with_reducible refine zg_iaddN dX2_setBreakpoint_78 ?_ | refine zg_iadd dX2_setBreakpoint_78 ?_
          refine zg_putI dX2_setBreakpoint_79 flX2_85 (by decide) (by assumption) (by assumption) ?_
          refine zg_aload_n (i := 0) dX2_setBreakpoint_82 rfl rfl ?_
          first | with_reducible refine zg_getIR dX2_setBreakpoint_83 flX2_85 (by decide) (by assumption) (by assumption) (by omega) ?_ | refine zg_getI dX2_setBreakpoint_83 flX2_85 (by decide) (by assumption) (by assumption) ?_
          refine zg_val (y := nI (qcnt (upd bp j (nI 1)) 72)) (by rw [zup_s, upd_s, hu2]) ?_
          exact zg_iret dX2_setBreakpoint_86 rfl (hx1 _ (by rw [h5]; decide) (XR_bk hX hpp (fun q a c => by rw [zup_n a, zup_n c]) (fun i hi => by rw [zup_s, upd_n hi, zup_n (by omega)]) (fun i hi => by rw [zup_n (by omega), zup_s]; exact hrow i hi) (by rw [zup_s, upd_s, hu2])) (fun q hq => by rw [zup_n (by omega), zup_n (by omega)]))
      · omega
    · refine zg_val (q1.trans h5) ?_
      refine zg_iload dX2_setBreakpoint_46 rfl ?_
      first | with_reducible refine zg_icmpN_ne (tgt := 54) dX2_setBreakpoint_48 (by decide) (by omega) (by omega) (fun c => ?_) (fun c => ?_) | refine zg_icmp_ne (tgt := 54) dX2_setBreakpoint_48 (by decide) (fun c => ?_) (fun c => ?_)
      · omega
      · refine zg_bipush (v := -2) dX2_setBreakpoint_51 (by decide) ?_
        exact zg_iret dX2_setBreakpoint_53 rfl (hx0 h5)
set_option maxRecDepth 20000 in
theorem cx_setBreakpoint {S : zS} {x : Nat} {pm : Nat → Nat} (hS : XS S x pm) {mu : zU} {tl uc : Nat} {v tx bp kp : Nat → Int32} {us sn : Nat → Nat → Int32} (hX : XR mu x pm v tl tx bp uc us kp sn) (a c o : Int32) : zM yX2_setBreakpoint cX2_setBreakpoint 6 (some .int) 1 0 0 [.inr (x + 1), .inl a, .inl c, .inl o] S mu (zPi S (fun r mu2 => ((¬ (∃ cx cy b, cx < 12 ∧ cy < 6 ∧ b < 2 ∧ a = nI cx ∧ c = nI cy ∧ o = nI b) ∧ r = -1 ∧ mu2 = mu) ∨ ∃ cx cy b, cx < 12 ∧ cy < 6 ∧ b < 2 ∧ a = nI cx ∧ c = nI cy ∧ o = nI b ∧ ((bp (12 * cy + cx) = nI b ∧ r = -2 ∧ mu2 = mu) ∨ (bp (12 * cy + cx) ≠ nI b ∧ r = nI (qcnt (upd bp (12 * cy + cx) (nI b)) 72) ∧ XR mu2 x pm v tl tx (upd bp (12 * cy + cx) (nI b)) uc us kp sn))) ∧ zfr mu mu2 x 215)) := by
  have hN0 : x < S.1 := hS.lt (i := 0) (by decide)
  have xk0 := hS.1.2.1
  refine zM.ofG (by decide +kernel) (Nat.le_of_ble_eq_true rfl) ?_
  refine zg_iload_n (i := 1) dX2_setBreakpoint_0 rfl rfl ?_
  refine zg_iload_n (i := 2) dX2_setBreakpoint_1 rfl rfl ?_
  refine zg_callSi (cx_isCell S mu a c) dX2_setBreakpoint_2 ctX2_isCell mlX2_70 rfl rfl (Nat.le_of_ble_eq_true rfl) ⟨by decide, by decide⟩ ⟨Nat.le_refl _, Nat.le_refl _⟩ (fun r mu2 h2 => ?_)
  obtain ⟨rfl, rfl⟩ := h2
  rcases atC_cs a c with ⟨cx, cy, hx, hy, rfl, rfl⟩ | ⟨h1, h2⟩
  · have hbad : ¬ (0 ≤ o ∧ o < nI 2) → ¬ (∃ cx' cy' b, cx' < 12 ∧ cy' < 6 ∧ b < 2 ∧ nI cx = nI cx' ∧ nI cy = nI cy' ∧ o = nI b) := by
      rintro h ⟨cx', cy', b, -, -, hb, -, -, rfl⟩
      exact h ⟨nI_pos' (by omega), nI_lt hb (by omega)⟩
    rw [if_pos (cellC hx hy)]
    first | with_reducible refine zg_ifN_eq (tgt := 17) dX2_setBreakpoint_5 (by decide) (by omega) (fun c1 => ?_) (fun c1 => ?_) | refine zg_if_eq (tgt := 17) dX2_setBreakpoint_5 (by decide) (fun c1 => ?_) (fun c1 => ?_)
    · exact absurd c1 (by decide)
    · refine zg_iload_n (i := 3) dX2_setBreakpoint_8 rfl rfl ?_
      refine zg_if_lt (tgt := 17) dX2_setBreakpoint_9 (by decide) (fun h3 => ?_) (fun h3 => ?_)
      · refine zg_iconst (v := -1) dX2_setBreakpoint_17 (by decide) ?_
        exact zg_iret dX2_setBreakpoint_18 rfl ⟨_, rfl, rfl, ⟨Or.inl ⟨hbad (fun z => Int32.not_lt.mpr z.1 h3), rfl, rfl⟩, zfr.rf _ _ _⟩⟩
      · refine zg_iload_n (i := 3) dX2_setBreakpoint_12 rfl rfl ?_
        refine zg_iconst (v := nI 1) dX2_setBreakpoint_13 (by decide) ?_
        refine zg_icmp_le (tgt := 19) dX2_setBreakpoint_14 (by decide) (fun h4 => ?_) (fun h4 => ?_)
        · obtain ⟨b, hb, rfl⟩ := atN_ix (by omega) ((in_le o 1 (by omega)).mp ⟨Int32.not_lt.mp h3, h4⟩)
          have hj : 12 * cy + cx < 72 := by omega
          have hx0 : bp (12 * cy + cx) = nI b → zPi S (fun r mu3 => ((¬ (∃ cx' cy' b', cx' < 12 ∧ cy' < 6 ∧ b' < 2 ∧ nI cx = nI cx' ∧ nI cy = nI cy' ∧ nI b = nI b') ∧ r = -1 ∧ mu3 = mu2) ∨ ∃ cx' cy' b', cx' < 12 ∧ cy' < 6 ∧ b' < 2 ∧ nI cx = nI cx' ∧ nI cy = nI cy' ∧ nI b = nI b' ∧ ((bp (12 * cy' + cx') = nI b' ∧ r = -2 ∧ mu3 = mu2) ∨ (bp (12 * cy' + cx') ≠ nI b' ∧ r = nI (qcnt (upd bp (12 * cy' + cx') (nI b')) 72) ∧ XR mu3 x pm v tl tx (upd bp (12 * cy' + cx') (nI b')) uc us kp sn))) ∧ zfr mu2 mu3 x 215) (some (.inl (-2))) S mu2 := fun h5 => ⟨_, rfl, rfl, Or.inr ⟨cx, cy, b, hx, hy, by omega, rfl, rfl, rfl, Or.inl ⟨h5, rfl, rfl⟩⟩, zfr.rf _ _ _⟩
          refine zg_bipush (v := nI 12) dX2_setBreakpoint_19 (by decide) ?_
          refine zg_iload_n (i := 2) dX2_setBreakpoint_21 rfl rfl ?_
          first | with_reducible refine zg_imulN dX2_setBreakpoint_22 ?_ | refine zg_imul dX2_setBreakpoint_22 ?_
          refine zg_iload_n (i := 1) dX2_setBreakpoint_23 rfl rfl ?_
          first | with_reducible refine zg_iaddN dX2_setBreakpoint_24 ?_ | refine zg_iadd dX2_setBreakpoint_24 ?_
          refine zg_istore (L2 := [_, _, _, _, _, _]) dX2_setBreakpoint_25 (by decide) rfl ?_
          refine zg_iload_n (i := 3) dX2_setBreakpoint_27 rfl rfl ?_
          refine zg_iconst (v := nI 1) dX2_setBreakpoint_28 (by decide) ?_
          first | with_reducible refine zg_icmpN_ne (tgt := 36) dX2_setBreakpoint_29 (by decide) (by omega) (by omega) (fun c3 => ?_) (fun c3 => ?_) | refine zg_icmp_ne (tgt := 36) dX2_setBreakpoint_29 (by decide) (fun c3 => ?_) (fun c3 => ?_)
          · obtain rfl : b = 0 := by omega
            refine zg_iconst (v := nI 0) dX2_setBreakpoint_36 (by decide) ?_
            exact lx_sbk37 hS hX (by omega) hj _ hx0 (fun mu3 h5 h6 h7 => ⟨_, rfl, rfl, Or.inr ⟨cx, cy, 0, hx, hy, by omega, rfl, rfl, rfl, Or.inr ⟨h5, rfl, h6⟩⟩, h7⟩)
          · obtain rfl : b = 1 := by omega
            refine zg_iconst (v := nI 1) dX2_setBreakpoint_32 (by decide) ?_
            refine zg_goto (tgt := 37) dX2_setBreakpoint_33 (by decide) ?_
            exact lx_sbk37 hS hX (by omega) hj _ hx0 (fun mu3 h5 h6 h7 => ⟨_, rfl, rfl, Or.inr ⟨cx, cy, 1, hx, hy, by omega, rfl, rfl, rfl, Or.inr ⟨h5, rfl, h6⟩⟩, h7⟩)
        · refine zg_iconst (v := -1) dX2_setBreakpoint_17 (by decide) ?_
          exact zg_iret dX2_setBreakpoint_18 rfl ⟨_, rfl, rfl, ⟨Or.inl ⟨hbad (fun z => h4 ((in_le o 1 (by omega)).mpr z).2), rfl, rfl⟩, zfr.rf _ _ _⟩⟩
  · rw [if_neg h1]
    first | with_reducible refine zg_ifN_eq (tgt := 17) dX2_setBreakpoint_5 (by decide) (by omega) (fun c1 => ?_) (fun c1 => ?_) | refine zg_if_eq (tgt := 17) dX2_setBreakpoint_5 (by decide) (fun c1 => ?_) (fun c1 => ?_)
    · refine zg_iconst (v := -1) dX2_setBreakpoint_17 (by decide) ?_
      refine zg_iret dX2_setBreakpoint_18 rfl ⟨_, rfl, rfl, Or.inl ⟨?_, rfl, rfl⟩, zfr.rf _ _ _⟩
      rintro ⟨cx', cy', b, w1, w2, -, w3, w4, -⟩
      exact h1 (by rw [w3, w4]; exact cellC w1 w2)
    · exact absurd rfl c1
