/-! THE CLASS: an instruction pointer (object k, its values k + 1, its sizes k + 2) holds the pointer at o of the row v -/
def PR (mu : zU) (k : Nat) (v : Nat → Int32) (o ns h : Nat) : Prop := mu k 0 = v o ∧ mu k 1 = v (o + 1) ∧ mu k 2 = v (o + 2) ∧ mu k 3 = v (o + 3) ∧ mu k 4 = v (o + 4) ∧ mu k 8 = v (o + 5) ∧ mu k 6 = nI h ∧ (∀ j, j < ns → mu (k + 2) j = v (o + 6 + j)) ∧ ∀ j, j < h → mu (k + 1) j = v (o + 9 + j)
def PX (mu : zU) (k : Nat) (v : Nat → Int32) (o : Nat) : Prop := ∃ x y dr ss sl ns s0 s1 s2, PI v o x y dr ss sl ns s0 s1 s2 ∧ PR mu k v o ns (s0 + s1 + s2)
theorem PX.px1 {mu : zU} {k o : Nat} {v : Nat → Int32} (h : PX mu k v o) : PX1 v o := by
  obtain ⟨x, y, dr, ss, sl, ns, s0, s1, s2, h, -⟩ := h
  exact ⟨x, y, dr, ss, sl, ns, s0, s1, s2, h⟩
def zfr (mu mu2 : zU) (k n : Nat) : Prop := ∀ q, (q < k ∨ k + n ≤ q) → mu2 q = mu q
theorem zfr.rf (mu : zU) (k n : Nat) : zfr mu mu k n := fun _ _ => rfl
theorem zfr.trans {mu mu2 mu3 : zU} {k n : Nat} (h : zfr mu mu2 k n) (h2 : zfr mu2 mu3 k n) : zfr mu mu3 k n := fun q hq => (h2 q hq).trans (h q hq)
theorem PR_stk {mu mu2 : zU} {k o ns h ns2 h3 : Nat} {v w : Nat → Int32} (hR : PR mu k v o ns h) (f : ∀ i, i < 5 → mu2 k i = mu k i) (g : ∀ i, i < 5 → w (o + i) = v (o + i)) (f8 : mu2 k 8 = w (o + 5)) (f6 : mu2 k 6 = nI h3) (fs : ∀ j, j < ns2 → mu2 (k + 2) j = w (o + 6 + j)) (fv : ∀ j, j < h3 → mu2 (k + 1) j = w (o + 9 + j)) : PR mu2 k w o ns2 h3 := by
  obtain ⟨a0, a1, a2, a3, a4, -⟩ := hR
  exact ⟨(f 0 (by omega)).trans (a0.trans (g 0 (by omega)).symm), (f 1 (by omega)).trans (a1.trans (g 1 (by omega)).symm), (f 2 (by omega)).trans (a2.trans (g 2 (by omega)).symm), (f 3 (by omega)).trans (a3.trans (g 3 (by omega)).symm), (f 4 (by omega)).trans (a4.trans (g 4 (by omega)).symm), f8, f6, fs, fv⟩
/-- one of the first five fields is set -/
theorem PR_fld {mu : zU} {k o ns h d : Nat} {v : Nat → Int32} {x : Int32} (hR : PR mu k v o ns h) (hd : d < 5) (hh : h ≤ 16) (hn : ns ≤ 3) : PR (zup mu k d x) k (upd v (o + d) x) o ns h := by
  obtain ⟨a0, a1, a2, a3, a4, a5, a6, a7, a8⟩ := hR
  have key : ∀ i, i < 5 → mu k i = v (o + i) → zup mu k d x k i = upd v (o + d) x (o + i) := by
    intro i hi e
    rw [zup_s]
    by_cases hid : i = d
    · subst hid; rw [upd_s, upd_s]
    · rw [upd_n hid, upd_n (by omega)]; exact e
  refine ⟨key 0 (by omega) a0, key 1 (by omega) a1, key 2 (by omega) a2, key 3 (by omega) a3, key 4 (by omega) a4, ?_, ?_, fun j hj => ?_, fun j hj => ?_⟩
  · rw [zup_s, upd_n (by omega), upd_n (by omega)]; exact a5
  · rw [zup_s, upd_n (by omega)]; exact a6
  · rw [zup_n (by omega), upd_n (by omega)]; exact a7 j hj
  · rw [zup_n (by omega), upd_n (by omega)]; exact a8 j hj
theorem zfr_up {mu : zU} {k j : Nat} {x : Int32} {n : Nat} {k2 : Nat} (h1 : k ≤ k2) (h2 : k2 < k + n) : zfr mu (zup mu k2 j x) k n := fun q hq => zup_n (by omega)
set_option maxRecDepth 20000 in
theorem cx_pop {S : zS} {k : Nat} (hS : PS S k) {mu : zU} {v : Nat → Int32} {o : Nat} (hX : PX mu k v o) : zM yX0_pop cX0_pop 2 (some .int) 0 0 0 [.inr (k + 1)] S mu (zPi S (fun r mu2 => r = qpopR v o ∧ PX mu2 k (qpop v o) o ∧ zfr mu mu2 k 3)) := by
  obtain ⟨hN2, k0, k1, k2, r5, r7⟩ := hS
  have hN0 : k < S.1 := by omega
  have hN1 : k + 1 < S.1 := by omega
  obtain ⟨x, y, dr, ss, sl, ns, s0, s1, s2, hP, hR⟩ := id hX
  obtain ⟨hc, hq, hh, hcl⟩ := hP.cur
  obtain ⟨z5, a1, a2, a3⟩ := hP.ns
  obtain ⟨-, -, -, -, -, f8, f6, fs, fv⟩ := id hR
  have f8 : mu k 8 = nI ns := f8.trans hP.2.2.2.2.2.1
  have fsz : mu (k + 2) (ns - 1) = nI (PIsc ns s0 s1 s2) := by rw [fs _ (by omega), show o + 6 + (ns - 1) = o + 5 + ns by omega]; exact hc
  refine zM.ofG (by decide +kernel) (Nat.le_of_ble_eq_true rfl) ?_
  refine zg_aload_n (i := 0) dX0_pop_0 rfl rfl ?_
  first | with_reducible refine zg_getIR dX0_pop_1 flX0_18 (by decide) (by assumption) (by assumption) (by omega) ?_ | refine zg_getI dX0_pop_1 flX0_18 (by decide) (by assumption) (by assumption) ?_
  refine zg_val f8 ?_
  refine zg_iconst (v := nI 1) dX0_pop_4 (by decide) ?_
  first | with_reducible refine zg_isubN dX0_pop_5 (by omega) ?_ | refine zg_isub dX0_pop_5 ?_
  refine zg_istore_n (i := 1) (L2 := [_, _]) dX0_pop_6 rfl (by decide) rfl ?_
  refine zg_aload_n (i := 0) dX0_pop_7 rfl rfl ?_
  refine zg_getR dX0_pop_8 flX0_15 (by decide) (by assumption) (by assumption) (by assumption) ?_
  refine zg_iload_n (i := 1) dX0_pop_11 rfl rfl ?_
  first | with_reducible refine zg_ialdR dX0_pop_12 (by assumption) (by assumption) rfl (by omega) (by decide) ?_ | refine zg_iald dX0_pop_12 (by assumption) (by assumption) rfl (by omega) (by decide) ?_
  refine zg_val fsz ?_
  first | with_reducible refine zg_ifN_gt (tgt := 18) dX0_pop_13 (by decide) (by omega) (fun c => ?_) (fun c => ?_) | refine zg_if_gt (tgt := 18) dX0_pop_13 (by decide) (fun c => ?_) (fun c => ?_)
  · obtain ⟨eP, eR⟩ := hP.popE (by omega)
    have hP2 := hP.pop (by omega)
    refine zg_aload_n (i := 0) dX0_pop_18 rfl rfl ?_
    refine zg_getR dX0_pop_19 flX0_15 (by decide) (by assumption) (by assumption) (by assumption) ?_
    refine zg_iload_n (i := 1) dX0_pop_22 rfl rfl ?_
    refine zg_dup2 dX0_pop_23 ?_
    first | with_reducible refine zg_ialdR dX0_pop_24 (by assumption) (by assumption) rfl (by omega) (by decide) ?_ | refine zg_iald dX0_pop_24 (by assumption) (by assumption) rfl (by omega) (by decide) ?_
    refine zg_val fsz ?_
    refine zg_iconst (v := nI 1) dX0_pop_25 (by decide) ?_
    first | with_reducible refine zg_isubN dX0_pop_26 (by omega) ?_ | refine zg_isub dX0_pop_26 ?_
    first | with_reducible refine zg_iastR dX0_pop_27 (by assumption) (by assumption) rfl (by omega) (by decide) ?_ | refine zg_iast dX0_pop_27 (by assumption) (by assumption) rfl (by omega) (by decide) ?_
    refine zg_aload_n (i := 0) dX0_pop_28 rfl rfl ?_
    refine zg_dup dX0_pop_29 ?_
    first | with_reducible refine zg_getIR dX0_pop_30 flX0_37 (by decide) (by assumption) (by assumption) (by omega) ?_ | refine zg_getI dX0_pop_30 flX0_37 (by decide) (by assumption) (by assumption) ?_
    refine zg_val (y := nI (s0 + s1 + s2)) (by rw [zup_n (by omega)]; exact f6) ?_
    refine zg_iconst (v := nI 1) dX0_pop_33 (by decide) ?_
    first | with_reducible refine zg_isubN dX0_pop_34 (by omega) ?_ | refine zg_isub dX0_pop_34 ?_
    refine zg_putI dX0_pop_35 flX0_37 (by decide) (by assumption) (by assumption) ?_
    refine zg_aload_n (i := 0) dX0_pop_38 rfl rfl ?_
    refine zg_getR dX0_pop_39 flX0_9 (by decide) (by assumption) (by assumption) (by assumption) ?_
    refine zg_aload_n (i := 0) dX0_pop_42 rfl rfl ?_
    first | with_reducible refine zg_getIR dX0_pop_43 flX0_37 (by decide) (by assumption) (by assumption) (by omega) ?_ | refine zg_getI dX0_pop_43 flX0_37 (by decide) (by assumption) (by assumption) ?_
    refine zg_val (y := nI (s0 + s1 + s2 - 1)) (by rw [zup_s, upd_s]) ?_
    first | with_reducible refine zg_ialdR dX0_pop_46 (by assumption) (by assumption) rfl (by omega) (by decide) ?_ | refine zg_iald dX0_pop_46 (by assumption) (by assumption) rfl (by omega) (by decide) ?_
    refine zg_iret dX0_pop_47 rfl ⟨_, rfl, rfl, ?_⟩
    refine ⟨?_, ⟨_, _, _, _, _, _, _, _, _, hP2.1, ?_⟩, ?_⟩
    · rw [eR, zup_n (by omega), zup_n (by omega), fv _ (by omega), show o + 9 + (s0 + s1 + s2 - 1) = o + 8 + (s0 + s1 + s2) by omega]
    · rw [hP2.2, eP]
      refine PR_stk hR (fun i hi => by rw [zup_s, upd_n (by omega), zup_n (by omega)]) (fun i hi => by rw [upd_n (by omega), upd_n (by omega)]) ?_ (by rw [zup_s, upd_s]) (fun j hj => ?_) (fun j hj => ?_)
      · rw [zup_s, upd_n (by omega), zup_n (by omega), f8, upd_n (by omega), upd_n (by omega)]; exact hP.2.2.2.2.2.1.symm
      · rw [zup_n (by omega), zup_s]
        by_cases hj2 : j = ns - 1
        · rw [hj2, upd_s, show o + 6 + (ns - 1) = o + 5 + ns by omega, upd_s]
        · rw [upd_n hj2, upd_n (by omega), upd_n (by omega)]; exact fs j hj
      · rw [zup_n (by omega), zup_n (by omega), upd_n (by omega), upd_n (by omega)]; exact fv j (by omega)
    · exact (zfr_up (by omega) (by omega)).trans (zfr_up (by omega) (by omega))
  · obtain ⟨eP, eR⟩ := hP.pop0 (by omega)
    refine zg_iconst (v := nI 0) dX0_pop_16 (by decide) ?_
    exact zg_iret dX0_pop_17 rfl ⟨_, rfl, rfl, ⟨eR.symm, by rw [eP]; exact hX, zfr.rf _ _ _⟩⟩
set_option maxRecDepth 20000 in
theorem cx_push {S : zS} {k : Nat} (hS : PS S k) {mu : zU} {v : Nat → Int32} {o : Nat} (hX : PX mu k v o) (e : Int32) : zM yX0_push cX0_push 2 none 0 0 0 [.inr (k + 1), .inl e] S mu (zPv S (fun mu2 => PX mu2 k (qpush v o e) o ∧ zfr mu mu2 k 3)) := by
  obtain ⟨hN2, k0, k1, k2, r5, r7⟩ := hS
  have hN0 : k < S.1 := by omega
  have hN1 : k + 1 < S.1 := by omega
  obtain ⟨x, y, dr, ss, sl, ns, s0, s1, s2, hP, hR⟩ := id hX
  obtain ⟨hc, hq, hh, hcl⟩ := hP.cur
  obtain ⟨z5, a1, a2, a3⟩ := hP.ns
  obtain ⟨-, -, -, -, -, f8, f6, fs, fv⟩ := id hR
  have f8 : mu k 8 = nI ns := f8.trans hP.2.2.2.2.2.1
  have fsz : mu (k + 2) (ns - 1) = nI (PIsc ns s0 s1 s2) := by rw [fs _ (by omega), show o + 6 + (ns - 1) = o + 5 + ns by omega]; exact hc
  refine zM.ofG (by decide +kernel) (Nat.le_of_ble_eq_true rfl) ?_
  refine zg_aload_n (i := 0) dX0_push_0 rfl rfl ?_
  first | with_reducible refine zg_getIR dX0_push_1 flX0_37 (by decide) (by assumption) (by assumption) (by omega) ?_ | refine zg_getI dX0_push_1 flX0_37 (by decide) (by assumption) (by assumption) ?_
  refine zg_val f6 ?_
  refine zg_bipush (v := nI 16) dX0_push_4 (by decide) ?_
  first | with_reducible refine zg_icmpN_lt (tgt := 15) dX0_push_6 (by decide) (by omega) (by omega) (fun c => ?_) (fun c => ?_) | refine zg_icmp_lt (tgt := 15) dX0_push_6 (by decide) (fun c => ?_) (fun c => ?_)
  · have hz : s0 + s1 + s2 ≠ 16 := by omega
    have hP2 := hP.push hz e
    have eP := hP.pushE hz e
    refine zg_aload_n (i := 0) dX0_push_15 rfl rfl ?_
    refine zg_getR dX0_push_16 flX0_9 (by decide) (by assumption) (by assumption) (by assumption) ?_
    refine zg_aload_n (i := 0) dX0_push_19 rfl rfl ?_
    first | with_reducible refine zg_getIR dX0_push_20 flX0_37 (by decide) (by assumption) (by assumption) (by omega) ?_ | refine zg_getI dX0_push_20 flX0_37 (by decide) (by assumption) (by assumption) ?_
    refine zg_val f6 ?_
    refine zg_iload_n (i := 1) dX0_push_23 rfl rfl ?_
    first | with_reducible refine zg_iastR dX0_push_24 (by assumption) (by assumption) rfl (by omega) (by decide) ?_ | refine zg_iast dX0_push_24 (by assumption) (by assumption) rfl (by omega) (by decide) ?_
    refine zg_aload_n (i := 0) dX0_push_25 rfl rfl ?_
    refine zg_dup dX0_push_26 ?_
    first | with_reducible refine zg_getIR dX0_push_27 flX0_37 (by decide) (by assumption) (by assumption) (by omega) ?_ | refine zg_getI dX0_push_27 flX0_37 (by decide) (by assumption) (by assumption) ?_
    refine zg_val (y := nI (s0 + s1 + s2)) (by rw [zup_n (by omega)]; exact f6) ?_
    refine zg_iconst (v := nI 1) dX0_push_30 (by decide) ?_
    first | with_reducible refine zg_iaddN dX0_push_31 ?_ | refine zg_iadd dX0_push_31 ?_
    refine zg_putI dX0_push_32 flX0_37 (by decide) (by assumption) (by assumption) ?_
    refine zg_aload_n (i := 0) dX0_push_35 rfl rfl ?_
    refine zg_getR dX0_push_36 flX0_15 (by decide) (by assumption) (by assumption) (by assumption) ?_
    refine zg_aload_n (i := 0) dX0_push_39 rfl rfl ?_
    first | with_reducible refine zg_getIR dX0_push_40 flX0_18 (by decide) (by assumption) (by assumption) (by omega) ?_ | refine zg_getI dX0_push_40 flX0_18 (by decide) (by assumption) (by assumption) ?_
    refine zg_val (y := nI ns) (by rw [zup_s, upd_n (by omega), zup_n (by omega)]; exact f8) ?_
    refine zg_iconst (v := nI 1) dX0_push_43 (by decide) ?_
    first | with_reducible refine zg_isubN dX0_push_44 (by omega) ?_ | refine zg_isub dX0_push_44 ?_
    refine zg_dup2 dX0_push_45 ?_
    first | with_reducible refine zg_ialdR dX0_push_46 (by assumption) (by assumption) rfl (by omega) (by decide) ?_ | refine zg_iald dX0_push_46 (by assumption) (by assumption) rfl (by omega) (by decide) ?_
    refine zg_val (y := nI (PIsc ns s0 s1 s2)) (by rw [zup_n (by omega), zup_n (by omega)]; exact fsz) ?_
    refine zg_iconst (v := nI 1) dX0_push_47 (by decide) ?_
    first | with_reducible refine zg_iaddN dX0_push_48 ?_ | refine zg_iadd dX0_push_48 ?_
    first | with_reducible refine zg_iastR dX0_push_49 (by assumption) (by assumption) rfl (by omega) (by decide) ?_ | refine zg_iast dX0_push_49 (by assumption) (by assumption) rfl (by omega) (by decide) ?_
    refine zg_vret dX0_push_50 rfl ⟨rfl, rfl, ?_⟩
    refine ⟨⟨_, _, _, _, _, _, _, _, _, hP2.1, ?_⟩, ?_⟩
    · rw [hP2.2, eP]
      refine PR_stk hR (fun i hi => by rw [zup_n (by omega), zup_s, upd_n (by omega), zup_n (by omega)]) (fun i hi => by rw [upd_n (by omega), upd_n (by omega)]) ?_ (by rw [zup_n (by omega), zup_s, upd_s]) (fun j hj => ?_) (fun j hj => ?_)
      · rw [zup_n (by omega), zup_s, upd_n (by omega), zup_n (by omega), f8, upd_n (by omega), upd_n (by omega)]; exact hP.2.2.2.2.2.1.symm
      · rw [zup_s]
        by_cases hj2 : j = ns - 1
        · rw [hj2, upd_s, show o + 6 + (ns - 1) = o + 5 + ns by omega, upd_s]
        · rw [upd_n hj2, zup_n (by omega), zup_n (by omega), upd_n (by omega), upd_n (by omega)]; exact fs j hj
      · rw [zup_n (by omega), zup_n (by omega), zup_s, upd_n (show o + 9 + j ≠ o + 5 + ns by omega)]
        by_cases hj2 : j = s0 + s1 + s2
        · rw [hj2, upd_s, upd_s]
        · rw [upd_n hj2, upd_n (by omega)]; exact fv j (by omega)
    · exact (zfr_up (by omega) (by omega)).trans ((zfr_up (by omega) (by omega)).trans (zfr_up (by omega) (by omega)))
  · have hz : s0 + s1 + s2 = 16 := by omega
    rw [hP.pushF hz]
    refine zg_aload_n (i := 0) dX0_push_9 rfl rfl ?_
    refine zg_iconst (v := nI 2) dX0_push_10 (by decide) ?_
    refine zg_putI dX0_push_11 flX0_31 (by decide) (by assumption) (by assumption) ?_
    exact zg_vret dX0_push_14 rfl ⟨rfl, rfl, ⟨⟨_, _, _, _, _, _, _, _, _, hP.stat (by omega), PR_fld hR (by omega) (by omega) (by omega)⟩, zfr_up (by omega) (by omega)⟩⟩
set_option maxRecDepth 20000 in
theorem cx_turn {S : zS} {k : Nat} (hS : PS S k) {mu : zU} {v : Nat → Int32} {o : Nat} (hX : PX mu k v o) {n : Nat} (hn : n < 4) : zM yX0_turn cX0_turn 2 none 0 0 0 [.inr (k + 1), .inl (nI n)] S mu (zPv S (fun mu2 => PX mu2 k (qturn v o n) o ∧ zfr mu mu2 k 3)) := by
  obtain ⟨hN2, k0, k1, k2, r5, r7⟩ := hS
  have hN0 : k < S.1 := by omega
  obtain ⟨x, y, dr, ss, sl, ns, s0, s1, s2, hP, hR⟩ := id hX
  obtain ⟨z5, a1, a2, a3⟩ := hP.ns
  have f2 : mu k 2 = nI dr := hR.2.2.1.trans hP.2.2.1
  have hdr : dr < 4 := hP.2.2.2.2.2.2.2.2.2.1.2.2.1
  obtain ⟨eT, hT⟩ := hP.turn n
  refine zM.ofG (by decide +kernel) (Nat.le_of_ble_eq_true rfl) ?_
  refine zg_aload_n (i := 0) dX0_turn_0 rfl rfl ?_
  refine zg_aload_n (i := 0) dX0_turn_1 rfl rfl ?_
  first | with_reducible refine zg_getIR dX0_turn_2 flX0_28 (by decide) (by assumption) (by assumption) (by omega) ?_ | refine zg_getI dX0_turn_2 flX0_28 (by decide) (by assumption) (by assumption) ?_
  refine zg_val f2 ?_
  refine zg_iload_n (i := 1) dX0_turn_5 rfl rfl ?_
  first | with_reducible refine zg_iaddN dX0_turn_6 ?_ | refine zg_iadd dX0_turn_6 ?_
  refine zg_iconst (v := nI 3) dX0_turn_7 (by decide) ?_
  refine zg_iand dX0_turn_8 ?_
  refine zg_val (y := nI ((dr + n) % 4)) (pk_andN (by omega) 2 (by decide)) ?_
  refine zg_putI dX0_turn_9 flX0_28 (by decide) (by assumption) (by assumption) ?_
  exact zg_vret dX0_turn_12 rfl ⟨rfl, rfl, ⟨⟨_, _, _, _, _, _, _, _, _, hT, by rw [eT]; exact PR_fld hR (by omega) (by omega) (by omega)⟩, zfr_up (by omega) (by omega)⟩⟩
set_option maxRecDepth 20000 in
theorem cx_cell {S : zS} {k : Nat} (hS : PS S k) {mu : zU} {x y : Nat} (hx : mu k 0 = nI x) (hy : mu k 1 = nI y) : zM yX0_cell cX0_cell 1 (some .int) 0 0 0 [.inr (k + 1)] S mu (zPi S (fun r mu2 => mu2 = mu ∧ r = nI (12 * y + x))) := by
  obtain ⟨hN2, k0, k1, k2, r5, r7⟩ := hS
  have hN0 : k < S.1 := by omega
  refine zM.ofG (by decide +kernel) (Nat.le_of_ble_eq_true rfl) ?_
  refine zg_bipush (v := nI 12) dX0_cell_0 (by decide) ?_
  refine zg_aload_n (i := 0) dX0_cell_2 rfl rfl ?_
  first | with_reducible refine zg_getIR dX0_cell_3 flX0_25 (by decide) (by assumption) (by assumption) (by omega) ?_ | refine zg_getI dX0_cell_3 flX0_25 (by decide) (by assumption) (by assumption) ?_
  refine zg_val hy ?_
  first | with_reducible refine zg_imulN dX0_cell_6 ?_ | refine zg_imul dX0_cell_6 ?_
  refine zg_aload_n (i := 0) dX0_cell_7 rfl rfl ?_
  first | with_reducible refine zg_getIR dX0_cell_8 flX0_22 (by decide) (by assumption) (by assumption) (by omega) ?_ | refine zg_getI dX0_cell_8 flX0_22 (by decide) (by assumption) (by assumption) ?_
  refine zg_val hx ?_
  first | with_reducible refine zg_iaddN dX0_cell_11 ?_ | refine zg_iadd dX0_cell_11 ?_
  exact zg_iret dX0_cell_12 rfl ⟨_, rfl, rfl, ⟨rfl, rfl⟩⟩
