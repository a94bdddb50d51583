/-! THE CLASS: a state (object b, program b + 1, grid b + 2, order b + 4, input b + 5, output b + 6, pointers from b + 7 on) holds the row v with the order ol -/
def SX (mu : zU) (b : Nat) (v : Nat → Int32) (ol : List Nat) : Prop :=
  VI v ol ∧ (∀ j, j < 72 → mu (b + 1) j = v j) ∧ (∀ j, j < 72 → mu (b + 2) j = v (72 + j)) ∧ mu b 4 = v 145 ∧ (∀ j, j < ol.length → mu (b + 4) j = v (146 + j)) ∧ mu b 6 = v 250 ∧ (∀ j, j < zn v 250 → mu (b + 5) j = v (251 + j)) ∧ mu b 8 = v 267 ∧ (∀ j, j < zn v 267 → mu (b + 6) j = v (268 + j)) ∧ mu b 9 = v 288 ∧ mu b 10 = v 144 ∧ ∀ i, i < ol.length → PX mu (b + 7 + 3 * i) v (150 + 25 * i)
theorem zfr_sub {mu mu2 : zU} {k n b m2 : Nat} (h : zfr mu mu2 k n) (h1 : b ≤ k) (h2 : k + n ≤ b + m2) : zfr mu mu2 b m2 := fun q hq => h q (by omega)
theorem PX_out {mu mu2 : zU} {k o : Nat} {v w : Nat → Int32} (h : PX mu k v o) (hm : ∀ q, k ≤ q → q < k + 3 → mu2 q = mu q) (hw : ∀ j, o ≤ j → j < o + 25 → w j = v j) : PX mu2 k w o := by
  obtain ⟨x, y, dr, ss, sl, ns, s0, s1, s2, hP, a0, a1, a2, a3, a4, a5, a6, a7, a8⟩ := h
  obtain ⟨z5, b1, b2, b3⟩ := hP.ns
  refine ⟨x, y, dr, ss, sl, ns, s0, s1, s2, PI_out hP hw, ?_⟩
  unfold PR
  rw [hm k (by omega) (by omega), hm (k + 1) (by omega) (by omega), hm (k + 2) (by omega) (by omega), hw o (by omega) (by omega), hw (o + 1) (by omega) (by omega), hw (o + 2) (by omega) (by omega), hw (o + 3) (by omega) (by omega), hw (o + 4) (by omega) (by omega), hw (o + 5) (by omega) (by omega)]
  exact ⟨a0, a1, a2, a3, a4, a5, a6, fun j hj => by rw [hw _ (by omega) (by omega)]; exact a7 j hj, fun j hj => by rw [hw _ (by omega) (by omega)]; exact a8 j hj⟩
theorem SX_ptr {mu mu2 : zU} {b i : Nat} {v w : Nat → Int32} {ol : List Nat} (h : SX mu b v ol) (hi : i < ol.length) (hf : zfr mu mu2 (b + 7 + 3 * i) 3) (hw : ∀ j, (j < 150 + 25 * i ∨ 175 + 25 * i ≤ j) → w j = v j) (hX : PX mu2 (b + 7 + 3 * i) w (150 + 25 * i)) : SX mu2 b w ol := by
  obtain ⟨h0, h1, h2, h3, h4, h5, h6, h7, h8, h9, h10, h11⟩ := h
  have hl4 := h0.1.2.2
  have e250 : zn w 250 = zn v 250 := by rw [zn, zn, hw 250 (by omega)]
  have e267 : zn w 267 = zn v 267 := by rw [zn, zn, hw 267 (by omega)]
  have hn16 : zn v 250 ≤ 16 := by
    obtain ⟨n, g1, g2, -⟩ := h0.2.2.2.2.2.2.1
    rw [zn_of g2 (by omega)]; exact g1
  have hn20 : zn v 267 ≤ 20 := by
    obtain ⟨n, g1, g2, -⟩ := h0.2.2.2.2.2.2.2
    rw [zn_of g2 (by omega)]; exact g1
  refine ⟨VI_ptr h0 hi ⟨fun j hj => hw j (by omega), hX.px1⟩, fun j hj => ?_, fun j hj => ?_, ?_, fun j hj => ?_, ?_, fun j hj => ?_, ?_, fun j hj => ?_, ?_, ?_, fun q hq => ?_⟩
  · rw [hf _ (by omega), hw _ (by omega)]; exact h1 j hj
  · rw [hf _ (by omega), hw _ (by omega)]; exact h2 j hj
  · rw [hf _ (by omega), hw _ (by omega)]; exact h3
  · rw [hf _ (by omega), hw _ (by omega)]; exact h4 j hj
  · rw [hf _ (by omega), hw _ (by omega)]; exact h5
  · rw [e250] at hj; rw [hf _ (by omega), hw _ (by omega)]; exact h6 j hj
  · rw [hf _ (by omega), hw _ (by omega)]; exact h7
  · rw [e267] at hj; rw [hf _ (by omega), hw _ (by omega)]; exact h8 j hj
  · rw [hf _ (by omega), hw _ (by omega)]; exact h9
  · rw [hf _ (by omega), hw _ (by omega)]; exact h10
  · by_cases hqi : q = i
    · subst hqi; exact hX
    · exact PX_out (h11 q hq) (fun p2 a c => hf p2 (by omega)) (fun j a c => hw j (by omega))
/-- what lies outside the pointers changes: the rows are given anew -/
theorem SX_rest {mu mu2 : zU} {b : Nat} {v w : Nat → Int32} {ol : List Nat} (h : SX mu b v ol) (hV : VI w ol) (hf : ∀ q, b + 7 ≤ q → q < b + 19 → mu2 q = mu q) (hw : ∀ j, 150 ≤ j → j < 250 → w j = v j) (g1 : ∀ j, j < 72 → mu2 (b + 1) j = w j) (g2 : ∀ j, j < 72 → mu2 (b + 2) j = w (72 + j)) (g3 : mu2 b 4 = w 145) (g4 : ∀ j, j < ol.length → mu2 (b + 4) j = w (146 + j)) (g5 : mu2 b 6 = w 250) (g6 : ∀ j, j < zn w 250 → mu2 (b + 5) j = w (251 + j)) (g7 : mu2 b 8 = w 267) (g8 : ∀ j, j < zn w 267 → mu2 (b + 6) j = w (268 + j)) (g9 : mu2 b 9 = w 288) (g10 : mu2 b 10 = w 144) : SX mu2 b w ol := by
  have hl4 := h.1.1.2.2
  exact ⟨hV, g1, g2, g3, g4, g5, g6, g7, g8, g9, g10, fun q hq => PX_out (h.2.2.2.2.2.2.2.2.2.2.2 q hq) (fun p2 a c => hf p2 (by omega) (by omega)) (fun j a c => hw j (by omega) (by omega))⟩
theorem SX_grid {mu : zU} {b j : Nat} {v : Nat → Int32} {ol : List Nat} (h : SX mu b v ol) (hj : j < 72) (x : Int32) : SX (zup mu (b + 2) j x) b (upd v (72 + j) x) ol := by
  obtain ⟨h0, g1, g2, g3, g4, g5, g6, g7, g8, g9, g10, g11⟩ := id h
  have hl4 := h0.1.2.2
  have e250 : zn (upd v (72 + j) x) 250 = zn v 250 := by rw [zn, zn, upd_n (by omega)]
  have e267 : zn (upd v (72 + j) x) 267 = zn v 267 := by rw [zn, zn, upd_n (by omega)]
  refine SX_rest h (VI_grid h0 (by omega) x) (fun q a c => zup_n (by omega)) (fun i a c => upd_n (by omega)) (fun i hi => ?_) (fun i hi => ?_) ?_ (fun i hi => ?_) ?_ (fun i hi => ?_) ?_ (fun i hi => ?_) ?_ ?_
  · rw [zup_n (by omega), upd_n (by omega)]; exact g1 i hi
  · rw [zup_s]
    by_cases hij : i = j
    · rw [hij, upd_s, upd_s]
    · rw [upd_n hij, upd_n (by omega)]; exact g2 i hi
  · rw [zup_n (by omega), upd_n (by omega)]; exact g3
  · rw [zup_n (by omega), upd_n (by omega)]; exact g4 i hi
  · rw [zup_n (by omega), upd_n (by omega)]; exact g5
  · rw [e250] at hi; rw [zup_n (by omega), upd_n (by omega)]; exact g6 i hi
  · rw [zup_n (by omega), upd_n (by omega)]; exact g7
  · rw [e267] at hi; rw [zup_n (by omega), upd_n (by omega)]; exact g8 i hi
  · rw [zup_n (by omega), upd_n (by omega)]; exact g9
  · rw [zup_n (by omega), upd_n (by omega)]; exact g10
theorem neg_msb (x : Int32) : x < 0 ↔ x.toBitVec.msb = true := by
  rw [Int32.lt_iff_toInt_lt, BitVec.msb_eq_toInt, decide_eq_true_iff]
  exact Iff.rfl
theorem xor_neg (x : Int32) {n : Nat} (hn : n = 6 ∨ n = 12) : (x ^^^ nI n) < 0 ↔ x < 0 := by
  rw [neg_msb, neg_msb]
  have : (x ^^^ nI n).toBitVec = x.toBitVec ^^^ (nI n).toBitVec := rfl
  have h2 : (nI n).toBitVec.msb = false := by rcases hn with rfl | rfl <;> decide
  rw [this, BitVec.msb_xor, h2]
  simp
set_option maxRecDepth 20000 in
theorem cj_floorMod (S : zS) (mu : zU) (x : Int32) {n : Nat} (hn : n = 6 ∨ n = 12) : zM yJ9_floorMod_7cf53 cJ9_floorMod_7cf53 3 (some .int) 0 0 0 [.inl x, .inl (nI n)] S mu (zPi S (fun r mu2 => mu2 = mu ∧ r = nI (qmod x n))) := by
  have hne : ¬ nI n = 0 := by rcases hn with rfl | rfl <;> decide
  obtain ⟨q, eq, hq⟩ := irem_toInt x hn
  refine zM.ofGJ (by decide +kernel) (Nat.le_of_ble_eq_true rfl) ?_
  refine zg_iload_n (i := 0) dJ9_floorMod_7cf53_0 rfl rfl ?_
  refine zg_iload_n (i := 1) dJ9_floorMod_7cf53_1 rfl rfl ?_
  refine zg_irem dJ9_floorMod_7cf53_2 hne ?_
  refine zg_istore_n (i := 2) (L2 := [_, _, _]) dJ9_floorMod_7cf53_3 rfl (by decide) rfl ?_
  refine zg_iload_n (i := 0) dJ9_floorMod_7cf53_4 rfl rfl ?_
  refine zg_iload_n (i := 1) dJ9_floorMod_7cf53_5 rfl rfl ?_
  refine zg_ixor dJ9_floorMod_7cf53_6 ?_
  refine zg_if_ge (tgt := 18) dJ9_floorMod_7cf53_7 (by decide) (fun c => ?_) (fun c => ?_)
  · have hx0 : ¬ x < 0 := by rw [← xor_neg x hn]; exact Int32.not_lt.mpr c
    refine zg_iload_n (i := 2) dJ9_floorMod_7cf53_18 rfl rfl ?_
    have hz : 0 ≤ x - x / nI n * nI n := by
      rw [Int32.le_iff_toInt_le, eq]
      rw [Int32.lt_iff_toInt_lt] at hx0
      have e0 : (0 : Int32).toInt = 0 := rfl
      omega
    exact zg_iret dJ9_floorMod_7cf53_19 rfl ⟨_, rfl, rfl, ⟨rfl, qmod_nn hn hz⟩⟩
  · have hx0 : x < 0 := by rw [← xor_neg x hn]; exact Int32.not_le.mp c
    refine zg_iload_n (i := 2) dJ9_floorMod_7cf53_10 rfl rfl ?_
    refine zg_if_eq (tgt := 18) dJ9_floorMod_7cf53_11 (by decide) (fun c2 => ?_) (fun c2 => ?_)
    · refine zg_iload_n (i := 2) dJ9_floorMod_7cf53_18 rfl rfl ?_
      exact zg_iret dJ9_floorMod_7cf53_19 rfl ⟨_, rfl, rfl, ⟨rfl, qmod_nn hn (by rw [c2]; decide)⟩⟩
    · refine zg_iload_n (i := 2) dJ9_floorMod_7cf53_14 rfl rfl ?_
      refine zg_iload_n (i := 1) dJ9_floorMod_7cf53_15 rfl rfl ?_
      first | with_reducible refine zg_iaddN dJ9_floorMod_7cf53_16 ?_ | refine zg_iadd dJ9_floorMod_7cf53_16 ?_
      have hz : ¬ 0 ≤ x - x / nI n * nI n := fun hz => c2 (by
        apply Int32.toInt_inj.1
        rw [Int32.le_iff_toInt_le, eq] at hz
        rw [Int32.lt_iff_toInt_lt] at hx0
        have e0 : (0 : Int32).toInt = 0 := rfl
        rw [eq, e0]
        omega)
      exact zg_iret dJ9_floorMod_7cf53_17 rfl ⟨_, rfl, rfl, ⟨rfl, qmod_neg hn hz⟩⟩
set_option maxRecDepth 20000 in
theorem cx_wrappedCell (S : zS) (mu : zU) (x y : Int32) : zM yX1_wrappedCell cX1_wrappedCell 2 (some .int) 1 0 0 [.inl x, .inl y] S mu (zPi S (fun r mu2 => mu2 = mu ∧ r = nI (12 * qmod y 6 + qmod x 12))) := by
  refine zM.ofG (by decide +kernel) (Nat.le_of_ble_eq_true rfl) ?_
  refine zg_bipush (v := nI 12) dX1_wrappedCell_0 (by decide) ?_
  refine zg_iload_n (i := 1) dX1_wrappedCell_2 rfl rfl ?_
  refine zg_bipush (v := nI 6) dX1_wrappedCell_3 (by decide) ?_
  refine zg_callSi (cj_floorMod S mu y (n := 6) (Or.inl rfl)) dX1_wrappedCell_5 ctJ9_floorMod_7cf53 mlX1_105 rfl rfl (Nat.le_of_ble_eq_true rfl) ⟨by decide, by decide⟩ ⟨Nat.le_refl _, Nat.le_refl _⟩ (fun r mu2 h2 => ?_)
  obtain ⟨rfl, rfl⟩ := h2
  first | with_reducible refine zg_imulN dX1_wrappedCell_8 ?_ | refine zg_imul dX1_wrappedCell_8 ?_
  refine zg_iload_n (i := 0) dX1_wrappedCell_9 rfl rfl ?_
  refine zg_bipush (v := nI 12) dX1_wrappedCell_10 (by decide) ?_
  refine zg_callSi (cj_floorMod S mu2 x (n := 12) (Or.inr rfl)) dX1_wrappedCell_12 ctJ9_floorMod_7cf53 mlX1_105 rfl rfl (Nat.le_of_ble_eq_true rfl) ⟨by decide, by decide⟩ ⟨Nat.le_refl _, Nat.le_refl _⟩ (fun r mu2 h2 => ?_)
  obtain ⟨rfl, rfl⟩ := h2
  first | with_reducible refine zg_iaddN dX1_wrappedCell_15 ?_ | refine zg_iadd dX1_wrappedCell_15 ?_
  exact zg_iret dX1_wrappedCell_16 rfl ⟨_, rfl, rfl, ⟨rfl, rfl⟩⟩
set_option maxRecDepth 20000 in
theorem cx_isCode (S : zS) (mu : zU) (a : Int32) : zM yX2_isCode cX2_isCode 1 (some .boolean) 0 0 0 [.inl a] S mu (zPi S (fun r mu2 => mu2 = mu ∧ r = if nI 32 ≤ a ∧ a ≤ nI 126 then nI 1 else nI 0)) := by
  refine zM.ofG (by decide +kernel) (Nat.le_of_ble_eq_true rfl) ?_
  refine zg_iload_n (i := 0) dX2_isCode_0 rfl rfl ?_
  refine zg_bipush (v := nI 32) dX2_isCode_1 (by decide) ?_
  refine zg_icmp_lt (tgt := 16) dX2_isCode_3 (by decide) (fun h1 => ?_) (fun h1 => ?_)
  · refine zg_iconst (v := nI 0) dX2_isCode_16 (by decide) ?_
    exact zg_zret dX2_isCode_17 rfl (by first | assumption | (left; rfl) | (right; rfl) | (simp; done)) ⟨_, rfl, rfl, ⟨rfl, by rw [if_neg (fun z => Int32.not_le.mpr h1 z.1)]⟩⟩
  · refine zg_iload_n (i := 0) dX2_isCode_6 rfl rfl ?_
    refine zg_bipush (v := nI 126) dX2_isCode_7 (by decide) ?_
    refine zg_icmp_gt (tgt := 16) dX2_isCode_9 (by decide) (fun h2 => ?_) (fun h2 => ?_)
    · refine zg_iconst (v := nI 0) dX2_isCode_16 (by decide) ?_
      exact zg_zret dX2_isCode_17 rfl (by first | assumption | (left; rfl) | (right; rfl) | (simp; done)) ⟨_, rfl, rfl, ⟨rfl, by rw [if_neg (fun z => Int32.not_le.mpr h2 z.2)]⟩⟩
    · refine zg_iconst (v := nI 1) dX2_isCode_12 (by decide) ?_
      refine zg_goto (tgt := 17) dX2_isCode_13 (by decide) ?_
      exact zg_zret dX2_isCode_17 rfl (by first | assumption | (left; rfl) | (right; rfl) | (simp; done)) ⟨_, rfl, rfl, ⟨rfl, by rw [if_pos ⟨Int32.not_lt.mp h1, Int32.not_lt.mp h2⟩]⟩⟩
set_option maxRecDepth 20000 in
theorem cx_fetchCell {S : zS} {b : Nat} (hS : SS S b) {mu : zU} {v : Nat → Int32} {ol : List Nat} {i : Nat} (hX : SX mu b v ol) (hi : i < ol.length) : zM yX1_fetchCell cX1_fetchCell 4 none 2 0 0 [.inr (b + 1), .inr (b + 7 + 3 * i + 1)] S mu (zPv S (fun mu2 => SX mu2 b (qfetch v (150 + 25 * i)) ol ∧ zfr mu mu2 b 19)) := by
  have hl4 := hX.1.1.2.2
  obtain ⟨hN, k0, k1, k2, k3, k4, k5, k6, r0, r1, r2, r3, r5, r7, hp⟩ := id hS
  have hN0 : b < S.1 := by omega
  have hN2 : b + 2 < S.1 := by omega
  obtain ⟨-, hPS⟩ := hp i (by omega)
  have kp0 := hPS.2.1
  have kpN : b + 7 + 3 * i < S.1 := by omega
  have hP0 := hX.2.2.2.2.2.2.2.2.2.2.2 i hi
  refine zM.ofG (by decide +kernel) (Nat.le_of_ble_eq_true rfl) ?_
  refine zg_aload_n (i := 1) dX1_fetchCell_0 rfl rfl ?_
  refine zg_callVi (cx_pop hPS hP0) dX1_fetchCell_1 cvX0_pop mlX1_87 rfl (by assumption) (by assumption) rfl (Nat.le_of_ble_eq_true rfl) ⟨by decide, by decide⟩ ⟨Nat.le_refl _, Nat.le_refl _⟩ (fun r mu2 h2 => ?_)
  obtain ⟨rfl, hX2, hf2⟩ := h2
  refine zg_istore_n (i := 2) (L2 := [_, _, _, _]) dX1_fetchCell_4 rfl (by decide) rfl ?_
  refine zg_aload_n (i := 1) dX1_fetchCell_5 rfl rfl ?_
  refine zg_callVi (cx_pop hPS hX2) dX1_fetchCell_6 cvX0_pop mlX1_87 rfl (by assumption) (by assumption) rfl (Nat.le_of_ble_eq_true rfl) ⟨by decide, by decide⟩ ⟨Nat.le_refl _, Nat.le_refl _⟩ (fun r mu3 h3 => ?_)
  obtain ⟨rfl, hX3, hf3⟩ := h3
  have hPO := (PO_pop hP0.px1).trans (fun h2 => PO_pop h2)
  have hSX3 := SX_ptr hX hi (hf2.trans hf3) (fun j hj => hPO.1 j (by omega)) hX3
  rw [qfetch]
  generalize qpop (qpop v (150 + 25 * i)) (150 + 25 * i) = w at *
  generalize qpopR (qpop v (150 + 25 * i)) (150 + 25 * i) = xx
  generalize qpopR v (150 + 25 * i) = yy
  have hq1 := qmod_lt xx (n := 12) (Or.inr rfl)
  have hq2 := qmod_lt yy (n := 6) (Or.inl rfl)
  refine zg_istore_n (i := 3) (L2 := [_, _, _, _]) dX1_fetchCell_9 rfl (by decide) rfl ?_
  refine zg_aload_n (i := 1) dX1_fetchCell_10 rfl rfl ?_
  refine zg_aload_n (i := 0) dX1_fetchCell_11 rfl rfl ?_
  refine zg_getR dX1_fetchCell_12 flX1_15 (by decide) (by assumption) (by assumption) (by assumption) ?_
  refine zg_iload_n (i := 3) dX1_fetchCell_15 rfl rfl ?_
  refine zg_iload_n (i := 2) dX1_fetchCell_16 rfl rfl ?_
  refine zg_callSi (cx_wrappedCell S mu3 xx yy) dX1_fetchCell_17 ctX1_wrappedCell mlX1_111 rfl rfl (Nat.le_of_ble_eq_true rfl) ⟨by decide, by decide⟩ ⟨Nat.le_refl _, Nat.le_refl _⟩ (fun r mu4 h4 => ?_)
  obtain ⟨rfl, rfl⟩ := h4
  first | with_reducible refine zg_ialdR dX1_fetchCell_20 (by assumption) (by assumption) rfl (by omega) (by decide) ?_ | refine zg_iald dX1_fetchCell_20 (by assumption) (by assumption) rfl (by omega) (by decide) ?_
  refine zg_val (y := w (qcell xx yy)) (by rw [hSX3.2.2.1 _ (by omega), qcell, ← Nat.add_assoc]) ?_
  refine zg_callVv (cx_push hPS hX3 _) dX1_fetchCell_21 cvX0_push mlX1_114 rfl (by assumption) (by assumption) rfl (Nat.le_of_ble_eq_true rfl) ⟨by decide, by decide⟩ ⟨Nat.le_refl _, Nat.le_refl _⟩ (fun mu5 h5 => ?_)
  have hPO5 := PO_push hX3.px1 (w (qcell xx yy))
  exact zg_vret dX1_fetchCell_24 rfl ⟨rfl, rfl, ⟨SX_ptr hSX3 hi h5.2 (fun j hj => hPO5.1 j (by omega)) h5.1, zfr_sub (hf2.trans (hf3.trans h5.2)) (by omega) (by omega)⟩⟩
set_option maxRecDepth 20000 in
theorem cx_storeCell {S : zS} {b : Nat} (hS : SS S b) {mu : zU} {v : Nat → Int32} {ol : List Nat} {i : Nat} (hX : SX mu b v ol) (hi : i < ol.length) : zM yX1_storeCell cX1_storeCell 5 none 2 0 0 [.inr (b + 1), .inr (b + 7 + 3 * i + 1)] S mu (zPv S (fun mu2 => SX mu2 b (qstore v (150 + 25 * i)) ol ∧ zfr mu mu2 b 19)) := by
  have hl4 := hX.1.1.2.2
  obtain ⟨hN, k0, k1, k2, k3, k4, k5, k6, r0, r1, r2, r3, r5, r7, hp⟩ := id hS
  have hN0 : b < S.1 := by omega
  have hN2 : b + 2 < S.1 := by omega
  obtain ⟨-, hPS⟩ := hp i (by omega)
  have kp0 := hPS.2.1
  have kpN : b + 7 + 3 * i < S.1 := by omega
  have hP0 := hX.2.2.2.2.2.2.2.2.2.2.2 i hi
  refine zM.ofG (by decide +kernel) (Nat.le_of_ble_eq_true rfl) ?_
  refine zg_aload_n (i := 1) dX1_storeCell_0 rfl rfl ?_
  refine zg_callVi (cx_pop hPS hP0) dX1_storeCell_1 cvX0_pop mlX1_87 rfl (by assumption) (by assumption) rfl (Nat.le_of_ble_eq_true rfl) ⟨by decide, by decide⟩ ⟨Nat.le_refl _, Nat.le_refl _⟩ (fun r mu2 h2 => ?_)
  obtain ⟨rfl, hX2, hf2⟩ := h2
  refine zg_istore_n (i := 2) (L2 := [_, _, _, _, _]) dX1_storeCell_4 rfl (by decide) rfl ?_
  refine zg_aload_n (i := 1) dX1_storeCell_5 rfl rfl ?_
  refine zg_callVi (cx_pop hPS hX2) dX1_storeCell_6 cvX0_pop mlX1_87 rfl (by assumption) (by assumption) rfl (Nat.le_of_ble_eq_true rfl) ⟨by decide, by decide⟩ ⟨Nat.le_refl _, Nat.le_refl _⟩ (fun r mu3 h3 => ?_)
  obtain ⟨rfl, hX3, hf3⟩ := h3
  refine zg_istore_n (i := 3) (L2 := [_, _, _, _, _]) dX1_storeCell_9 rfl (by decide) rfl ?_
  refine zg_aload_n (i := 1) dX1_storeCell_10 rfl rfl ?_
  refine zg_callVi (cx_pop hPS hX3) dX1_storeCell_11 cvX0_pop mlX1_87 rfl (by assumption) (by assumption) rfl (Nat.le_of_ble_eq_true rfl) ⟨by decide, by decide⟩ ⟨Nat.le_refl _, Nat.le_refl _⟩ (fun r mu4 h4 => ?_)
  obtain ⟨rfl, hX4, hf4⟩ := h4
  have hPO := (PO_pop hP0.px1).trans (fun h2 => (PO_pop h2).trans (fun h3 => PO_pop h3))
  have hff := hf2.trans (hf3.trans hf4)
  have hSX4 := SX_ptr hX hi hff (fun j hj => hPO.1 j (by omega)) hX4
  rw [qstore]
  generalize qpop (qpop (qpop v (150 + 25 * i)) (150 + 25 * i)) (150 + 25 * i) = w at *
  generalize qpopR (qpop (qpop v (150 + 25 * i)) (150 + 25 * i)) (150 + 25 * i) = aa
  generalize qpopR (qpop v (150 + 25 * i)) (150 + 25 * i) = xx
  generalize qpopR v (150 + 25 * i) = yy
  have hq1 := qmod_lt xx (n := 12) (Or.inr rfl)
  have hq2 := qmod_lt yy (n := 6) (Or.inl rfl)
  refine zg_istore (L2 := [_, _, _, _, _]) dX1_storeCell_14 (by decide) rfl ?_
  refine zg_iload dX1_storeCell_16 rfl ?_
  refine zg_callSNi (cx_isCode S mu4 aa) dX1_storeCell_18 ctX2_isCode (fun _ h => h.2.2.2) rfl rfl (Nat.le_of_ble_eq_true rfl) ⟨by decide, by decide⟩ ⟨Nat.le_refl _, Nat.le_refl _⟩ (fun r mu5 h5 => ?_)
  obtain ⟨rfl, rfl⟩ := h5
  by_cases h : nI 32 ≤ aa ∧ aa ≤ nI 126
  · rw [if_pos h, qstore3, if_pos h]
    first | with_reducible refine zg_ifN_eq (tgt := 36) dX1_storeCell_21 (by decide) (by omega) (fun c => ?_) (fun c => ?_) | refine zg_if_eq (tgt := 36) dX1_storeCell_21 (by decide) (fun c => ?_) (fun c => ?_)
    · exact absurd c (by decide)
    · refine zg_aload_n (i := 0) dX1_storeCell_24 rfl rfl ?_
      refine zg_getR dX1_storeCell_25 flX1_15 (by decide) (by assumption) (by assumption) (by assumption) ?_
      refine zg_iload_n (i := 3) dX1_storeCell_28 rfl rfl ?_
      refine zg_iload_n (i := 2) dX1_storeCell_29 rfl rfl ?_
      refine zg_callSi (cx_wrappedCell S mu5 xx yy) dX1_storeCell_30 ctX1_wrappedCell mlX1_111 rfl rfl (Nat.le_of_ble_eq_true rfl) ⟨by decide, by decide⟩ ⟨Nat.le_refl _, Nat.le_refl _⟩ (fun r mu6 h6 => ?_)
      obtain ⟨rfl, rfl⟩ := h6
      refine zg_iload dX1_storeCell_33 rfl ?_
      first | with_reducible refine zg_iastR dX1_storeCell_35 (by assumption) (by assumption) rfl (by omega) (by decide) ?_ | refine zg_iast dX1_storeCell_35 (by assumption) (by assumption) rfl (by omega) (by decide) ?_
      refine zg_vret dX1_storeCell_36 rfl ⟨rfl, rfl, ?_⟩
      refine ⟨?_, (zfr_sub hff (by omega) (by omega)).trans (zfr_up (by omega) (by omega))⟩
      rw [qcell, Nat.add_assoc]
      exact SX_grid hSX4 (by omega) aa
  · rw [if_neg h, qstore3, if_neg h]
    first | with_reducible refine zg_ifN_eq (tgt := 36) dX1_storeCell_21 (by decide) (by omega) (fun c => ?_) (fun c => ?_) | refine zg_if_eq (tgt := 36) dX1_storeCell_21 (by decide) (fun c => ?_) (fun c => ?_)
    · exact zg_vret dX1_storeCell_36 rfl ⟨rfl, rfl, ⟨hSX4, zfr_sub hff (by omega) (by omega)⟩⟩
    · exact absurd rfl c
