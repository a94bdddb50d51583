/-! THE CLASS: beginRun, countFilledCells, addInput -/
set_option maxRecDepth 20000 in
theorem cx_reset {S : zS} {k : Nat} (hS : PS S k) (mu : zU) : zM yX0_reset cX0_reset 1 none 0 0 0 [.inr (k + 1)] S mu (zPv S (fun mu2 => (∀ i, i < 5 → mu2 k i = nI 0) ∧ mu2 k 6 = nI 0 ∧ mu2 k 8 = nI 1 ∧ mu2 (k + 2) 0 = nI 0 ∧ zfr mu mu2 k 3)) := by
  obtain ⟨hN2, k0, k1, kk2, r5, r7⟩ := hS
  have hN0 : k < S.1 := by omega
  refine zM.ofG (by decide +kernel) (Nat.le_of_ble_eq_true rfl) ?_
  refine zg_aload_n (i := 0) dX0_reset_0 rfl rfl ?_
  refine zg_iconst (v := nI 0) dX0_reset_1 (by decide) ?_
  refine zg_putI dX0_reset_2 flX0_22 (by decide) (by assumption) (by assumption) ?_
  refine zg_aload_n (i := 0) dX0_reset_5 rfl rfl ?_
  refine zg_iconst (v := nI 0) dX0_reset_6 (by decide) ?_
  refine zg_putI dX0_reset_7 flX0_25 (by decide) (by assumption) (by assumption) ?_
  refine zg_aload_n (i := 0) dX0_reset_10 rfl rfl ?_
  refine zg_iconst (v := nI 0) dX0_reset_11 (by decide) ?_
  refine zg_putI dX0_reset_12 flX0_28 (by decide) (by assumption) (by assumption) ?_
  refine zg_aload_n (i := 0) dX0_reset_15 rfl rfl ?_
  refine zg_iconst (v := nI 0) dX0_reset_16 (by decide) ?_
  refine zg_putI dX0_reset_17 flX0_31 (by decide) (by assumption) (by assumption) ?_
  refine zg_aload_n (i := 0) dX0_reset_20 rfl rfl ?_
  refine zg_iconst (v := nI 0) dX0_reset_21 (by decide) ?_
  refine zg_putI dX0_reset_22 flX0_34 (by decide) (by assumption) (by assumption) ?_
  refine zg_aload_n (i := 0) dX0_reset_25 rfl rfl ?_
  refine zg_iconst (v := nI 0) dX0_reset_26 (by decide) ?_
  refine zg_putI dX0_reset_27 flX0_37 (by decide) (by assumption) (by assumption) ?_
  refine zg_aload_n (i := 0) dX0_reset_30 rfl rfl ?_
  refine zg_getR dX0_reset_31 flX0_15 (by decide) (by assumption) (by assumption) (by assumption) ?_
  refine zg_iconst (v := nI 0) dX0_reset_34 (by decide) ?_
  refine zg_iconst (v := nI 0) dX0_reset_35 (by decide) ?_
  first | with_reducible refine zg_iastR dX0_reset_36 (by assumption) (by assumption) rfl (by omega) (by decide) ?_ | refine zg_iast dX0_reset_36 (by assumption) (by assumption) rfl (by omega) (by decide) ?_
  refine zg_aload_n (i := 0) dX0_reset_37 rfl rfl ?_
  refine zg_iconst (v := nI 1) dX0_reset_38 (by decide) ?_
  refine zg_putI dX0_reset_39 flX0_18 (by decide) (by assumption) (by assumption) ?_
  refine zg_vret dX0_reset_42 rfl ⟨rfl, rfl, ?_⟩
  refine ⟨fun i hi => ?_, ?_, ?_, ?_, fun q hq => ?_⟩
  · rcases (show i = 0 ∨ i = 1 ∨ i = 2 ∨ i = 3 ∨ i = 4 by omega) with rfl | rfl | rfl | rfl | rfl <;> simp [zup, upd]
  · simp [zup, upd]
  · simp [zup, upd]
  · simp [zup, upd]
  · repeat rw [zup_n (by omega)]
theorem VI_new {w : Nat → Int32} (h145 : w 145 = nI 1) (h155 : w 155 = nI 1) (hz : ∀ j, 146 ≤ j → j < 250 → j ≠ 155 → w j = nI 0) (hi : ∃ n, n ≤ 16 ∧ w 250 = nI n ∧ ∀ j, n ≤ j → j < 16 → w (251 + j) = 0) (ho : ∀ j, 267 ≤ j → j < 289 → w j = nI 0) : VI w [0] := by
  refine ⟨⟨h145, by decide, by decide⟩, fun i q hq => ?_, fun i j q h1 h2 => ?_, fun i a b => ?_, fun q hq => ?_, fun q j a b c => ?_, hi, 0, by omega, ho 267 (by omega) (by omega), fun j a b => ho _ (by omega) (by omega)⟩
  · have hi0 := (List.getElem?_eq_some_iff.mp hq).1
    obtain rfl : i = 0 := by simp at hi0; exact hi0
    obtain rfl : 0 = q := Option.some.inj hq
    exact ⟨hz 146 (by omega) (by omega) (by omega), by decide⟩
  · have a := (List.getElem?_eq_some_iff.mp h1).1
    have b := (List.getElem?_eq_some_iff.mp h2).1
    simp at a b
    omega
  · simp at a
    exact hz _ (by omega) (by omega) (by omega)
  · obtain rfl : q = 0 := by simp at hq; exact hq
    refine ⟨0, 0, 0, 0, 0, 1, 0, 0, 0, hz _ (by omega) (by omega) (by omega), hz _ (by omega) (by omega) (by omega), hz _ (by omega) (by omega) (by omega), hz _ (by omega) (by omega) (by omega), hz _ (by omega) (by omega) (by omega), h155, hz _ (by omega) (by omega) (by omega), hz _ (by omega) (by omega) (by omega), hz _ (by omega) (by omega) (by omega), by omega, fun j a b => hz _ (by omega) (by omega) (by omega)⟩
  · simp at a
    exact hz _ (by omega) (by omega) (by omega)
theorem qbegin_z {v : Nat → Int32} {j : Nat} (h1 : 144 ≤ j) (h2 : j < 250) (h3 : j ≠ 145) (h4 : j ≠ 155) : qbegin v j = nI 0 := by
  rw [qbegin, if_neg (by omega), if_neg (by omega), if_pos (by omega)]
theorem VI_begin {v : Nat → Int32} {ol : List Nat} (h : VI v ol) : VI (qbegin v) [0] := by
  have hk : ∀ j, 250 ≤ j → j < 267 → qbegin v j = v j := fun j a b => by rw [qbegin, if_neg (by omega), if_neg (by omega), if_neg (by omega)]
  obtain ⟨n, a1, a2, a3⟩ := h.2.2.2.2.2.2.1
  refine VI_new rfl rfl (fun j a b c => qbegin_z (by omega) b (by omega) c) ⟨n, a1, by rw [hk _ (by omega) (by omega)]; exact a2, fun j a b => by rw [hk _ (by omega) (by omega)]; exact a3 j a b⟩ (fun j a b => by rw [qbegin, if_neg (by omega), if_neg (by omega), if_pos (by omega)])
set_option maxRecDepth 20000 in
theorem cx_beginRun {S : zS} {b : Nat} (hS : SS S b) {mu : zU} {v : Nat → Int32} {ol : List Nat} (hX : SX mu b v ol) : zM yX1_beginRun cX1_beginRun 1 none 1 0 0 [.inr (b + 1)] S mu (zPv S (fun mu2 => SX mu2 b (qbegin v) [0] ∧ zfr mu mu2 b 19)) := by
  obtain ⟨hN, k0, k1, k2, k3, k4, k5, k6, r0, r1, r2, r3, r5, r7, hp⟩ := id hS
  have hN0 : b < S.1 := by omega
  have hN1 : b + 1 < S.1 := by omega
  have hN2 : b + 2 < S.1 := by omega
  have hN3 : b + 3 < S.1 := by omega
  have hN4 : b + 4 < S.1 := by omega
  obtain ⟨rp, hPS⟩ := hp 0 (by omega)
  have kp0 := hPS.2.1
  have kpN : b + 7 + 3 * 0 < S.1 := by have := hPS.1; omega
  obtain ⟨h0, g1, g2, g3, g4, g5, g6, g7, g8, g9, g10, g11⟩ := id hX
  have hk : ∀ j, 250 ≤ j → j < 267 → qbegin v j = v j := fun j a b => by rw [qbegin, if_neg (by omega), if_neg (by omega), if_neg (by omega)]
  have hk0 : ∀ j, j < 72 → qbegin v j = v j := fun j a => by rw [qbegin, if_neg (by omega), if_neg (by omega), if_neg (by omega)]
  have hkg : ∀ j, j < 72 → qbegin v (72 + j) = v j := fun j a => by rw [qbegin, if_pos (by omega), show 72 + j - 72 = j by omega]
  refine zM.ofG (by decide +kernel) (Nat.le_of_ble_eq_true rfl) ?_
  refine zg_aload_n (i := 0) dX1_beginRun_0 rfl rfl ?_
  refine zg_getR dX1_beginRun_1 flX1_9 (by decide) (by assumption) (by assumption) (by assumption) ?_
  refine zg_iconst (v := nI 0) dX1_beginRun_4 (by decide) ?_
  refine zg_aload_n (i := 0) dX1_beginRun_5 rfl rfl ?_
  refine zg_getR dX1_beginRun_6 flX1_15 (by decide) (by assumption) (by assumption) (by assumption) ?_
  refine zg_iconst (v := nI 0) dX1_beginRun_9 (by decide) ?_
  refine zg_bipush (v := nI 72) dX1_beginRun_10 (by decide) ?_
  refine zg_copy dX1_beginRun_12 mlX1_38 (by assumption) (by assumption) (by assumption) (by assumption) rfl rfl rfl (by omega) (by omega) (by decide) (by decide) ⟨by decide, by decide⟩ ?_
  refine zg_aload_n (i := 0) dX1_beginRun_15 rfl rfl ?_
  refine zg_getR dX1_beginRun_16 flX1_20 (by decide) (by assumption) (by assumption) (by assumption) ?_
  refine zg_iconst (v := nI 0) dX1_beginRun_19 (by decide) ?_
  first | refine zg_pald dX1_beginRun_20 (by assumption) (by assumption) rfl (by omega) (by decide) (by assumption) ?_ | refine zg_sald dX1_beginRun_20 (by assumption) (by assumption) rfl (by omega) (by decide) (by assumption) ?_
  refine zg_callVv (cx_reset hPS _) dX1_beginRun_21 cvX0_reset mlX1_64 rfl (by assumption) (by assumption) rfl (Nat.le_of_ble_eq_true rfl) ⟨by decide, by decide⟩ ⟨Nat.le_refl _, Nat.le_refl _⟩ (fun mu2 h2 => ?_)
  obtain ⟨e1, e2, e3, e4, e5⟩ := h2
  have hm : ∀ q, (q < b + 7 ∨ b + 10 ≤ q) → q ≠ b + 2 → mu2 q = mu q := fun q a c => by rw [e5 q (by omega), zrow_n c]
  have hmg : ∀ j, j < 72 → mu2 (b + 2) j = v j := fun j hj => by
    rw [e5 _ (by omega), zrow_s, va_cpy, if_pos (by omega), ← g1 j hj]
    congr 1
    omega
  refine zg_aload_n (i := 0) dX1_beginRun_24 rfl rfl ?_
  refine zg_getR dX1_beginRun_25 flX1_24 (by decide) (by assumption) (by assumption) (by assumption) ?_
  refine zg_iconst (v := nI 0) dX1_beginRun_28 (by decide) ?_
  refine zg_iconst (v := nI 0) dX1_beginRun_29 (by decide) ?_
  first | with_reducible refine zg_iastR dX1_beginRun_30 (by assumption) (by assumption) rfl (by omega) (by decide) ?_ | refine zg_iast dX1_beginRun_30 (by assumption) (by assumption) rfl (by omega) (by decide) ?_
  refine zg_aload_n (i := 0) dX1_beginRun_31 rfl rfl ?_
  refine zg_iconst (v := nI 1) dX1_beginRun_32 (by decide) ?_
  refine zg_putI dX1_beginRun_33 flX1_34 (by decide) (by assumption) (by assumption) ?_
  refine zg_aload_n (i := 0) dX1_beginRun_36 rfl rfl ?_
  refine zg_iconst (v := nI 0) dX1_beginRun_37 (by decide) ?_
  refine zg_putI dX1_beginRun_38 flX1_51 (by decide) (by assumption) (by assumption) ?_
  refine zg_aload_n (i := 0) dX1_beginRun_41 rfl rfl ?_
  refine zg_iconst (v := nI 0) dX1_beginRun_42 (by decide) ?_
  refine zg_putI dX1_beginRun_43 flX1_54 (by decide) (by assumption) (by assumption) ?_
  refine zg_aload_n (i := 0) dX1_beginRun_46 rfl rfl ?_
  refine zg_iconst (v := nI 0) dX1_beginRun_47 (by decide) ?_
  refine zg_putI dX1_beginRun_48 flX1_57 (by decide) (by assumption) (by assumption) ?_
  refine zg_vret dX1_beginRun_51 rfl ⟨rfl, rfl, ?_⟩
  refine ⟨⟨VI_begin h0, fun j hj => ?_, fun j hj => ?_, ?_, fun j hj => ?_, ?_, fun j hj => ?_, ?_, fun j hj => ?_, ?_, ?_, fun i hi => ?_⟩, fun q hq => ?_⟩
  · repeat rw [zup_n (by omega)]
    rw [hm _ (by omega) (by omega), hk0 j hj]; exact g1 j hj
  · repeat rw [zup_n (by omega)]
    rw [hmg j hj, hkg j hj]
  · simp [zup, upd]; rfl
  · obtain rfl : j = 0 := by simp at hj; exact hj
    simp [zup, upd]; rfl
  · rw [hk _ (by omega) (by omega), ← g5, ← hm b (by omega) (by omega)]; simp [zup, upd]
  · repeat rw [zup_n (by omega)]
    have hz : zn (qbegin v) 250 = zn v 250 := by rw [zn, zn, hk _ (by omega) (by omega)]
    rw [hz] at hj
    have h16 : zn v 250 ≤ 16 := by
      obtain ⟨n2, w1, w2, -⟩ := h0.2.2.2.2.2.2.1
      rw [zn_of w2 (by omega)]; exact w1
    rw [hm _ (by omega) (by omega), hk _ (by omega) (by omega)]; exact g6 j hj
  · simp [zup, upd]; rfl
  · exact absurd hj (by rw [show zn (qbegin v) 267 = 0 from rfl]; omega)
  · simp [zup, upd]; rfl
  · simp [zup, upd]; rfl
  · obtain rfl : i = 0 := by simp at hi; exact hi
    refine ⟨0, 0, 0, 0, 0, 1, 0, 0, 0, ?_, ?_⟩
    · exact ⟨rfl, rfl, rfl, rfl, rfl, rfl, rfl, rfl, rfl, by omega, fun j a c => qbegin_z (by omega) (by omega) (by omega) (by omega)⟩
    · unfold PR
      repeat rw [zup_n (by omega)]
      refine ⟨e1 0 (by omega), e1 1 (by omega), e1 2 (by omega), e1 3 (by omega), e1 4 (by omega), e3, e2, fun j hj => ?_, fun j hj => absurd hj (by omega)⟩
      obtain rfl : j = 0 := by omega
      exact e4
  · repeat rw [zup_n (by omega)]
    exact hm q (by omega) (by omega)
def qfill (f : Nat → Int32) : Nat → Nat
  | 0 => 0
  | n + 1 => qfill f n + (if f n = nI 32 then 0 else 1)
theorem qfill_le (f : Nat → Int32) : ∀ n, qfill f n ≤ n
  | 0 => Nat.le_refl 0
  | n + 1 => by
    have := qfill_le f n
    rw [qfill]; split <;> omega
theorem qfill_cg {f g : Nat → Int32} : ∀ n, (∀ j, j < n → f j = g j) → qfill f n = qfill g n
  | 0, _ => rfl
  | n + 1, h => by rw [qfill, qfill, qfill_cg n (fun j hj => h j (by omega)), h n (by omega)]
set_option maxRecDepth 20000 in
theorem lx_cnt4 {S : zS} {b : Nat} (hS : SS S b) {mu : zU} (Ph : Option zV → zS → zU → Prop) (hx : Ph (some (.inl (nI (qfill (mu (b + 2)) 72)))) S mu) :
    ∀ (t i : Nat), i + t = 72 → zG RX1 "countFilledCells" cX1_countFilledCells 3 (some .int) (zroom 0 0 0) 0 0 Ph 4 [some (.inr (b + 1)), some (.inl (nI (qfill (mu (b + 2)) i))), some (.inl (nI i))] [] S (mu) 0 0 := by
  obtain ⟨hN, k0, k1, k2, k3, k4, k5, k6, r0, r1, r2, r3, r5, r7, hp⟩ := id hS
  have hN0 : b < S.1 := by omega
  have hN2 : b + 2 < S.1 := by omega
  intro t
  induction t with
  | zero =>
    intro i hit
    obtain rfl : i = 72 := by omega
    refine zg_iload_n (i := 2) dX1_countFilledCells_4 rfl rfl ?_
    refine zg_bipush (v := nI 72) dX1_countFilledCells_5 (by decide) ?_
    first | with_reducible refine zg_icmpN_ge (tgt := 30) dX1_countFilledCells_7 (by decide) (by omega) (by omega) (fun c => ?_) (fun c => ?_) | refine zg_icmp_ge (tgt := 30) dX1_countFilledCells_7 (by decide) (fun c => ?_) (fun c => ?_)
    · refine zg_iload_n (i := 1) dX1_countFilledCells_30 rfl rfl ?_
      exact zg_iret dX1_countFilledCells_31 rfl hx
    · omega
  | succ t ih =>
    intro i hit
    have hle := qfill_le (mu (b + 2)) i
    have ihn := ih (i + 1) (by omega)
    rw [qfill] at ihn
    refine zg_iload_n (i := 2) dX1_countFilledCells_4 rfl rfl ?_
    refine zg_bipush (v := nI 72) dX1_countFilledCells_5 (by decide) ?_
    first | with_reducible refine zg_icmpN_ge (tgt := 30) dX1_countFilledCells_7 (by decide) (by omega) (by omega) (fun c => ?_) (fun c => ?_) | refine zg_icmp_ge (tgt := 30) dX1_countFilledCells_7 (by decide) (fun c => ?_) (fun c => ?_)
    · omega
    · refine zg_aload_n (i := 0) dX1_countFilledCells_10 rfl rfl ?_
      refine zg_getR dX1_countFilledCells_11 flX1_15 (by decide) (by assumption) (by assumption) (by assumption) ?_
      refine zg_iload_n (i := 2) dX1_countFilledCells_14 rfl rfl ?_
      first | with_reducible refine zg_ialdR dX1_countFilledCells_15 (by assumption) (by assumption) rfl (by omega) (by decide) ?_ | refine zg_iald dX1_countFilledCells_15 (by assumption) (by assumption) rfl (by omega) (by decide) ?_
      refine zg_bipush (v := nI 32) dX1_countFilledCells_16 (by decide) ?_
      refine zg_icmp_eq (tgt := 24) dX1_countFilledCells_18 (by decide) (fun c2 => ?_) (fun c2 => ?_)
      · rw [if_pos c2] at ihn
        refine zg_iinc1 (L2 := [_, _, _]) dX1_countFilledCells_24 (by decide) rfl rfl ?_
        refine zg_goto (tgt := 4) dX1_countFilledCells_27 (by decide) ?_
        exact ihn
      · rw [if_neg c2] at ihn
        refine zg_iinc1 (L2 := [_, _, _]) dX1_countFilledCells_21 (by decide) rfl rfl ?_
        refine zg_iinc1 (L2 := [_, _, _]) dX1_countFilledCells_24 (by decide) rfl rfl ?_
        refine zg_goto (tgt := 4) dX1_countFilledCells_27 (by decide) ?_
        exact ihn
set_option maxRecDepth 20000 in
theorem cx_count {S : zS} {b : Nat} (hS : SS S b) (mu : zU) : zM yX1_countFilledCells cX1_countFilledCells 3 (some .int) 0 0 0 [.inr (b + 1)] S mu (zPi S (fun r mu2 => mu2 = mu ∧ r = nI (qfill (mu (b + 2)) 72))) := by
  refine zM.ofG (by decide +kernel) (Nat.le_of_ble_eq_true rfl) ?_
  refine zg_iconst (v := nI 0) dX1_countFilledCells_0 (by decide) ?_
  refine zg_istore_n (i := 1) (L2 := [_, _, _]) dX1_countFilledCells_1 rfl (by decide) rfl ?_
  refine zg_iconst (v := nI 0) dX1_countFilledCells_2 (by decide) ?_
  refine zg_istore_n (i := 2) (L2 := [_, _, _]) dX1_countFilledCells_3 rfl (by decide) rfl ?_
  exact lx_cnt4 hS _ ⟨_, rfl, rfl, rfl, rfl⟩ 72 0 (by omega)
theorem VI_feed {v : Nat → Int32} {ol : List Nat} {n : Nat} (h : VI v ol) (hn : v 250 = nI n) (h16 : n < 16) (x : Int32) : VI (qfeed v n x) ol := by
  obtain ⟨⟨h1, h2, h3⟩, h4, h5, h6, h7, h8, ⟨n', g1, g2, g3⟩, k, k1, k2, k3⟩ := h
  have hw : ∀ j, (j < 250 ∨ 267 ≤ j) → qfeed v n x j = v j := fun j hj => by rw [qfeed, upd_n (by omega), upd_n (by omega)]
  refine ⟨⟨(hw _ (by omega)).trans h1, h2, h3⟩, fun i q hq => ?_, h5, fun i a b => (hw _ (by omega)).trans (h6 i a b), fun q hq => PX1_out (h7 q hq) (fun j a b => hw j (by omega)), fun q j a b c => (hw _ (by omega)).trans (h8 q j a b c), ⟨n + 1, by omega, by rw [qfeed, upd_n (by omega), upd_s], fun j a b => ?_⟩, k, k1, (hw _ (by omega)).trans k2, fun j a b => (hw _ (by omega)).trans (k3 j a b)⟩
  · have hi := (List.getElem?_eq_some_iff.mp hq).1
    exact ⟨(hw _ (by omega)).trans (h4 i q hq).1, (h4 i q hq).2⟩
  · have : n' = n := by rw [hn] at g2; exact ((nI_eq (by omega) (by omega)).mp g2).symm
    rw [qfeed, upd_n (by omega), upd_n (by omega)]
    exact g3 j (by omega) b
set_option maxRecDepth 20000 in
theorem cx_addInput {S : zS} {b : Nat} (hS : SS S b) {mu : zU} {v : Nat → Int32} {ol : List Nat} {n : Nat} (hX : SX mu b v ol) (hn : v 250 = nI n) (h16 : n < 16) (x : Int32) : zM yX1_addInput cX1_addInput 2 none 0 0 0 [.inr (b + 1), .inl x] S mu (zPv S (fun mu2 => SX mu2 b (qfeed v n x) ol ∧ zfr mu mu2 b 19)) := by
  obtain ⟨hN, k0, k1, k2, k3, k4, k5, k6, r0, r1, r2, r3, r5, r7, hp⟩ := id hS
  have hN0 : b < S.1 := by omega
  have hN5 : b + 5 < S.1 := by omega
  obtain ⟨h0, g1, g2, g3, g4, g5, g6, g7, g8, g9, g10, g11⟩ := id hX
  have hl4 := h0.1.2.2
  have hn20 : zn v 267 ≤ 20 := by
    obtain ⟨n2, w1, w2, -⟩ := h0.2.2.2.2.2.2.2
    rw [zn_of w2 (by omega)]; exact w1
  have hw : ∀ j, (j < 250 ∨ 267 ≤ j) → qfeed v n x j = v j := fun j hj => by rw [qfeed, upd_n (by omega), upd_n (by omega)]
  refine zM.ofG (by decide +kernel) (Nat.le_of_ble_eq_true rfl) ?_
  refine zg_aload_n (i := 0) dX1_addInput_0 rfl rfl ?_
  first | with_reducible refine zg_getIR dX1_addInput_1 flX1_48 (by decide) (by assumption) (by assumption) (by omega) ?_ | refine zg_getI dX1_addInput_1 flX1_48 (by decide) (by assumption) (by assumption) ?_
  refine zg_val (g5.trans hn) ?_
  refine zg_bipush (v := nI 16) dX1_addInput_4 (by decide) ?_
  first | with_reducible refine zg_icmpN_ge (tgt := 29) dX1_addInput_6 (by decide) (by omega) (by omega) (fun c => ?_) (fun c => ?_) | refine zg_icmp_ge (tgt := 29) dX1_addInput_6 (by decide) (fun c => ?_) (fun c => ?_)
  · omega
  · refine zg_aload_n (i := 0) dX1_addInput_9 rfl rfl ?_
    refine zg_getR dX1_addInput_10 flX1_27 (by decide) (by assumption) (by assumption) (by assumption) ?_
    refine zg_aload_n (i := 0) dX1_addInput_13 rfl rfl ?_
    first | with_reducible refine zg_getIR dX1_addInput_14 flX1_48 (by decide) (by assumption) (by assumption) (by omega) ?_ | refine zg_getI dX1_addInput_14 flX1_48 (by decide) (by assumption) (by assumption) ?_
    refine zg_val (g5.trans hn) ?_
    refine zg_iload_n (i := 1) dX1_addInput_17 rfl rfl ?_
    first | with_reducible refine zg_iastR dX1_addInput_18 (by assumption) (by assumption) rfl (by omega) (by decide) ?_ | refine zg_iast dX1_addInput_18 (by assumption) (by assumption) rfl (by omega) (by decide) ?_
    refine zg_aload_n (i := 0) dX1_addInput_19 rfl rfl ?_
    refine zg_dup dX1_addInput_20 ?_
    first | with_reducible refine zg_getIR dX1_addInput_21 flX1_48 (by decide) (by assumption) (by assumption) (by omega) ?_ | refine zg_getI dX1_addInput_21 flX1_48 (by decide) (by assumption) (by assumption) ?_
    refine zg_val (y := nI n) (by first | exact g5.trans hn | (rw [zup_n (by omega)]; exact g5.trans hn)) ?_
    refine zg_iconst (v := nI 1) dX1_addInput_24 (by decide) ?_
    first | with_reducible refine zg_iaddN dX1_addInput_25 ?_ | refine zg_iadd dX1_addInput_25 ?_
    refine zg_putI dX1_addInput_26 flX1_48 (by decide) (by assumption) (by assumption) ?_
    refine zg_vret dX1_addInput_29 rfl ⟨rfl, rfl, ?_⟩
    refine ⟨⟨VI_feed h0 hn h16 x, fun j hj => ?_, fun j hj => ?_, ?_, fun j hj => ?_, ?_, fun j hj => ?_, ?_, fun j hj => ?_, ?_, ?_, fun i hi => ?_⟩, fun q hq => ?_⟩
    · rw [zup_n (by omega), zup_n (by omega), hw _ (by omega)]; exact g1 j hj
    · rw [zup_n (by omega), zup_n (by omega), hw _ (by omega)]; exact g2 j hj
    · rw [zup_s, upd_n (by omega), zup_n (by omega), hw _ (by omega)]; exact g3
    · rw [zup_n (by omega), zup_n (by omega), hw _ (by omega)]; exact g4 j hj
    · rw [zup_s, upd_s, qfeed, upd_n (by omega), upd_s]
    · have hz : zn (qfeed v n x) 250 = n + 1 := zn_of (by rw [qfeed, upd_n (by omega), upd_s]) (by omega)
      rw [hz] at hj
      rw [zup_n (by omega), zup_s]
      by_cases hjn : j = n
      · rw [hjn, upd_s, qfeed, show 251 + n = 250 + (n + 1) by omega, upd_s]
      · rw [upd_n hjn, qfeed, upd_n (by omega), upd_n (by omega)]
        exact g6 j (by rw [zn_of hn (by omega)]; omega)
    · rw [zup_s, upd_n (by omega), zup_n (by omega), hw _ (by omega)]; exact g7
    · have hz : zn (qfeed v n x) 267 = zn v 267 := by rw [zn, zn, hw _ (by omega)]
      rw [hz] at hj
      rw [zup_n (by omega), zup_n (by omega), hw _ (by omega)]; exact g8 j hj
    · rw [zup_s, upd_n (by omega), zup_n (by omega), hw _ (by omega)]; exact g9
    · rw [zup_s, upd_n (by omega), zup_n (by omega), hw _ (by omega)]; exact g10
    · exact PX_out (g11 i hi) (fun q a c => by rw [zup_n (by omega), zup_n (by omega)]) (fun j a c => hw j (by omega))
    · rw [zup_n (by omega), zup_n (by omega)]
