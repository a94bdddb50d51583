/-! THE REFERENCE's work on one pointer -/
set_option maxRecDepth 20000 in
theorem cm_heldBy {S : zS} {m : Nat} (hS : MS S m) (mu : zU) {v : Nat → Int32} {p x y dr ss sl ns s0 s1 s2 : Nat} (hp : p < 4) (hP : PI v (150 + 25 * p) x y dr ss sl ns s0 s1 s2) : zM yX3_heldBy cX3_heldBy 2 (some .int) 1 0 0 [.inr (m + 1), .inl (nI p)] S (zrow mu (m + 1) v) (zPi S (fun r mu2 => mu2 = zrow mu (m + 1) v ∧ r = nI (s0 + s1 + s2))) := by
  have hS' := hS
  obtain ⟨⟨hN, k0, k1, -⟩, r0, -⟩ := hS'
  have hN0 : m < S.1 := by omega
  obtain ⟨-, -, -, -, -, h5, h6, h7, h8, ⟨-, -, -, -, -, a1, a2, a3, -, -⟩, -⟩ := hP
  generalize hmu : zrow mu (m + 1) v = mu1
  refine zM.ofG (by decide +kernel) (Nat.le_of_ble_eq_true rfl) ?_
  subst hmu
  refine zg_aload_n (i := 0) dX3_heldBy_0 rfl rfl ?_
  refine zg_iload_n (i := 1) dX3_heldBy_1 rfl rfl ?_
  refine zg_bipush (v := nI 6) dX3_heldBy_2 (by decide) ?_
  refine zg_callVi (cm_of hS mu v (p := p) (w := 6) (by omega)) dX3_heldBy_4 cvX3_of mlX3_69 rfl (by assumption) (by assumption) rfl (Nat.le_of_ble_eq_true rfl) ⟨by decide, by decide⟩ ⟨Nat.le_refl _, Nat.le_refl _⟩ (fun r mu2 h2 => ?_)
  obtain ⟨rfl, rfl⟩ := h2
  refine zg_val h6 ?_
  refine zg_aload_n (i := 0) dX3_heldBy_7 rfl rfl ?_
  refine zg_iload_n (i := 1) dX3_heldBy_8 rfl rfl ?_
  refine zg_bipush (v := nI 7) dX3_heldBy_9 (by decide) ?_
  refine zg_callVi (cm_of hS mu v (p := p) (w := 7) (by omega)) dX3_heldBy_11 cvX3_of mlX3_69 rfl (by assumption) (by assumption) rfl (Nat.le_of_ble_eq_true rfl) ⟨by decide, by decide⟩ ⟨Nat.le_refl _, Nat.le_refl _⟩ (fun r mu2 h2 => ?_)
  obtain ⟨rfl, rfl⟩ := h2
  refine zg_val h7 ?_
  first | with_reducible refine zg_iaddN dX3_heldBy_14 ?_ | refine zg_iadd dX3_heldBy_14 ?_
  refine zg_aload_n (i := 0) dX3_heldBy_15 rfl rfl ?_
  refine zg_iload_n (i := 1) dX3_heldBy_16 rfl rfl ?_
  refine zg_bipush (v := nI 8) dX3_heldBy_17 (by decide) ?_
  refine zg_callVi (cm_of hS mu v (p := p) (w := 8) (by omega)) dX3_heldBy_19 cvX3_of mlX3_69 rfl (by assumption) (by assumption) rfl (Nat.le_of_ble_eq_true rfl) ⟨by decide, by decide⟩ ⟨Nat.le_refl _, Nat.le_refl _⟩ (fun r mu2 h2 => ?_)
  obtain ⟨rfl, rfl⟩ := h2
  refine zg_val h8 ?_
  first | with_reducible refine zg_iaddN dX3_heldBy_22 ?_ | refine zg_iadd dX3_heldBy_22 ?_
  exact zg_iret dX3_heldBy_23 rfl ⟨_, rfl, rfl, ⟨rfl, rfl⟩⟩
set_option maxRecDepth 20000 in
theorem cm_current {S : zS} {m : Nat} (hS : MS S m) (mu : zU) {v : Nat → Int32} {p ns : Nat} (hp : p < 4) (h5 : v (150 + 25 * p + 5) = nI ns) (a1 : 1 ≤ ns) : zM yX3_current cX3_current 2 (some .int) 1 0 0 [.inr (m + 1), .inl (nI p)] S (zrow mu (m + 1) v) (zPi S (fun r mu2 => mu2 = zrow mu (m + 1) v ∧ r = nI (5 + ns))) := by
  have hS' := hS
  obtain ⟨⟨hN, k0, k1, -⟩, r0, -⟩ := hS'
  have hN0 : m < S.1 := by omega
  refine zM.ofG (by decide +kernel) (Nat.le_of_ble_eq_true rfl) ?_
  refine zg_bipush (v := nI 6) dX3_current_0 (by decide) ?_
  refine zg_aload_n (i := 0) dX3_current_2 rfl rfl ?_
  refine zg_iload_n (i := 1) dX3_current_3 rfl rfl ?_
  refine zg_iconst (v := nI 5) dX3_current_4 (by decide) ?_
  refine zg_callVi (cm_of hS mu v (p := p) (w := 5) (by omega)) dX3_current_5 cvX3_of mlX3_69 rfl (by assumption) (by assumption) rfl (Nat.le_of_ble_eq_true rfl) ⟨by decide, by decide⟩ ⟨Nat.le_refl _, Nat.le_refl _⟩ (fun r mu2 h2 => ?_)
  obtain ⟨rfl, rfl⟩ := h2
  refine zg_val h5 ?_
  first | with_reducible refine zg_iaddN dX3_current_8 ?_ | refine zg_iadd dX3_current_8 ?_
  refine zg_iconst (v := nI 1) dX3_current_9 (by decide) ?_
  first | with_reducible refine zg_isubN dX3_current_10 (by omega) ?_ | refine zg_isub dX3_current_10 ?_
  exact zg_iret dX3_current_11 rfl ⟨_, rfl, rfl, ⟨rfl, by congr 1; omega⟩⟩
set_option maxRecDepth 20000 in
theorem cm_pop {S : zS} {m : Nat} (hS : MS S m) (mu : zU) {v : Nat → Int32} {p x y dr ss sl ns s0 s1 s2 : Nat} (hp : p < 4) (hP : PI v (150 + 25 * p) x y dr ss sl ns s0 s1 s2) : zM yX3_pop cX3_pop 5 (some .int) 2 0 0 [.inr (m + 1), .inl (nI p)] S (zrow mu (m + 1) v) (zPi S (fun r mu2 => mu2 = zrow mu (m + 1) (qpop v (150 + 25 * p)) ∧ r = qpopR v (150 + 25 * p))) := by
  have hS' := hS
  obtain ⟨⟨hN, k0, k1, -⟩, r0, -⟩ := hS'
  have hN0 : m < S.1 := by omega
  obtain ⟨hc, hq, hh, hcl⟩ := hP.cur
  have hP' := hP
  obtain ⟨-, -, -, -, -, h5, h6, h7, h8, ⟨-, -, -, -, -, a1, a2, a3, -, -⟩, -⟩ := hP'
  refine zM.ofG (by decide +kernel) (Nat.le_of_ble_eq_true rfl) ?_
  refine zg_aload_n (i := 0) dX3_pop_0 rfl rfl ?_
  refine zg_iload_n (i := 1) dX3_pop_1 rfl rfl ?_
  refine zg_callVi (cm_current hS mu hp h5 a1) dX3_pop_2 cvX3_current mlX3_73 rfl (by assumption) (by assumption) rfl (Nat.le_of_ble_eq_true rfl) ⟨by decide, by decide⟩ ⟨Nat.le_refl _, Nat.le_refl _⟩ (fun r mu2 h2 => ?_)
  obtain ⟨rfl, rfl⟩ := h2
  refine zg_istore_n (i := 2) (L2 := [_, _, _, _, _]) dX3_pop_5 rfl (by decide) rfl ?_
  refine zg_aload_n (i := 0) dX3_pop_6 rfl rfl ?_
  refine zg_iload_n (i := 1) dX3_pop_7 rfl rfl ?_
  refine zg_iload_n (i := 2) dX3_pop_8 rfl rfl ?_
  refine zg_callVi (cm_of hS mu v (p := p) (w := 5 + ns) (by omega)) dX3_pop_9 cvX3_of mlX3_69 rfl (by assumption) (by assumption) rfl (Nat.le_of_ble_eq_true rfl) ⟨by decide, by decide⟩ ⟨Nat.le_refl _, Nat.le_refl _⟩ (fun r mu2 h2 => ?_)
  obtain ⟨rfl, rfl⟩ := h2
  refine zg_val (y := nI (PIsc ns s0 s1 s2)) (by rw [← Nat.add_assoc]; exact hc) ?_
  first | with_reducible refine zg_ifN_ne (tgt := 17) dX3_pop_12 (by decide) (by omega) (fun c => ?_) (fun c => ?_) | refine zg_if_ne (tgt := 17) dX3_pop_12 (by decide) (fun c => ?_) (fun c => ?_)
  · refine zg_bipush (v := nI 9) dX3_pop_17 (by decide) ?_
    refine zg_aload_n (i := 0) dX3_pop_19 rfl rfl ?_
    refine zg_iload_n (i := 1) dX3_pop_20 rfl rfl ?_
    refine zg_callVi (cm_heldBy hS mu hp hP) dX3_pop_21 cvX3_heldBy mlX3_77 rfl (by assumption) (by assumption) rfl (Nat.le_of_ble_eq_true rfl) ⟨by decide, by decide⟩ ⟨Nat.le_refl _, Nat.le_refl _⟩ (fun r mu2 h2 => ?_)
    obtain ⟨rfl, rfl⟩ := h2
    first | with_reducible refine zg_iaddN dX3_pop_24 ?_ | refine zg_iadd dX3_pop_24 ?_
    refine zg_iconst (v := nI 1) dX3_pop_25 (by decide) ?_
    first | with_reducible refine zg_isubN dX3_pop_26 (by omega) ?_ | refine zg_isub dX3_pop_26 ?_
    refine zg_istore_n (i := 3) (L2 := [_, _, _, _, _]) dX3_pop_27 rfl (by decide) rfl ?_
    refine zg_aload_n (i := 0) dX3_pop_28 rfl rfl ?_
    refine zg_iload_n (i := 1) dX3_pop_29 rfl rfl ?_
    refine zg_iload_n (i := 3) dX3_pop_30 rfl rfl ?_
    refine zg_callVi (cm_of hS mu v (p := p) (w := 9 + (s0 + s1 + s2) - 1) (by omega)) dX3_pop_31 cvX3_of mlX3_69 rfl (by assumption) (by assumption) rfl (Nat.le_of_ble_eq_true rfl) ⟨by decide, by decide⟩ ⟨Nat.le_refl _, Nat.le_refl _⟩ (fun r mu2 h2 => ?_)
    obtain ⟨rfl, rfl⟩ := h2
    refine zg_istore (L2 := [_, _, _, _, _]) dX3_pop_34 (by decide) rfl ?_
    refine zg_aload_n (i := 0) dX3_pop_36 rfl rfl ?_
    refine zg_iload_n (i := 1) dX3_pop_37 rfl rfl ?_
    refine zg_iload_n (i := 3) dX3_pop_38 rfl rfl ?_
    refine zg_iconst (v := nI 0) dX3_pop_39 (by decide) ?_
    refine zg_callVv (cm_put hS mu v (p := p) (w := 9 + (s0 + s1 + s2) - 1) (by omega) (nI 0)) dX3_pop_40 cvX3_put mlX3_80 rfl (by assumption) (by assumption) rfl (Nat.le_of_ble_eq_true rfl) ⟨by decide, by decide⟩ ⟨Nat.le_refl _, Nat.le_refl _⟩ (fun mu2 h2 => ?_)
    subst h2
    refine zg_aload_n (i := 0) dX3_pop_43 rfl rfl ?_
    refine zg_iload_n (i := 1) dX3_pop_44 rfl rfl ?_
    refine zg_iload_n (i := 2) dX3_pop_45 rfl rfl ?_
    refine zg_aload_n (i := 0) dX3_pop_46 rfl rfl ?_
    refine zg_iload_n (i := 1) dX3_pop_47 rfl rfl ?_
    refine zg_iload_n (i := 2) dX3_pop_48 rfl rfl ?_
    refine zg_callVi (cm_of hS mu (upd v (150 + 25 * p + (9 + (s0 + s1 + s2) - 1)) (nI 0)) (p := p) (w := 5 + ns) (by omega)) dX3_pop_49 cvX3_of mlX3_69 rfl (by assumption) (by assumption) rfl (Nat.le_of_ble_eq_true rfl) ⟨by decide, by decide⟩ ⟨Nat.le_refl _, Nat.le_refl _⟩ (fun r mu2 h2 => ?_)
    obtain ⟨rfl, rfl⟩ := h2
    refine zg_val (y := nI (PIsc ns s0 s1 s2)) (by rw [upd_n (by omega), ← Nat.add_assoc]; exact hc) ?_
    refine zg_iconst (v := nI 1) dX3_pop_52 (by decide) ?_
    first | with_reducible refine zg_isubN dX3_pop_53 (by omega) ?_ | refine zg_isub dX3_pop_53 ?_
    refine zg_callVv (cm_put hS mu _ (p := p) (w := 5 + ns) (by omega) (nI (PIsc ns s0 s1 s2 - 1))) dX3_pop_54 cvX3_put mlX3_80 rfl (by assumption) (by assumption) rfl (Nat.le_of_ble_eq_true rfl) ⟨by decide, by decide⟩ ⟨Nat.le_refl _, Nat.le_refl _⟩ (fun mu2 h2 => ?_)
    subst h2
    refine zg_iload dX3_pop_57 rfl ?_
    have hne : ¬ v (150 + 25 * p + 5 + ns) = 0 := by rw [hc, ← n0, nI_eq (by omega) (by omega)]; exact c
    refine zg_iret dX3_pop_59 rfl ⟨_, rfl, rfl, ?_⟩
    refine ⟨?_, ?_⟩
    · rw [qpop, hq, hh, if_neg hne, hc, show 150 + 25 * p + (9 + (s0 + s1 + s2) - 1) = 150 + 25 * p + 8 + (s0 + s1 + s2) by omega, ← Nat.add_assoc (150 + 25 * p) 5 ns, n0, ← pk_sub (by omega)]
      rfl
    · rw [qpopR, hq, hh, if_neg hne]
      congr 1
      omega
  · refine zg_iconst (v := nI 0) dX3_pop_15 (by decide) ?_
    have hz : v (150 + 25 * p + 5 + ns) = 0 := by rw [hc, c]; rfl
    exact zg_iret dX3_pop_16 rfl ⟨_, rfl, rfl, ⟨by rw [qpop, hq, if_pos hz], by rw [qpopR, hq, if_pos hz]; rfl⟩⟩
set_option maxRecDepth 20000 in
theorem cm_push {S : zS} {m : Nat} (hS : MS S m) (mu : zU) {v : Nat → Int32} {p x y dr ss sl ns s0 s1 s2 : Nat} (hp : p < 4) (hP : PI v (150 + 25 * p) x y dr ss sl ns s0 s1 s2) (e : Int32) : zM yX3_push cX3_push 4 none 2 0 0 [.inr (m + 1), .inl (nI p), .inl e] S (zrow mu (m + 1) v) (zPv S (fun mu2 => mu2 = zrow mu (m + 1) (qpush v (150 + 25 * p) e))) := by
  have hS' := hS
  obtain ⟨⟨hN, k0, k1, -⟩, r0, -⟩ := hS'
  have hN0 : m < S.1 := by omega
  obtain ⟨hc, hq, hh, hcl⟩ := hP.cur
  have hP' := hP
  obtain ⟨-, -, -, -, -, h5, h6, h7, h8, ⟨-, -, -, -, -, a1, a2, a3, -, -⟩, -⟩ := hP'
  refine zM.ofG (by decide +kernel) (Nat.le_of_ble_eq_true rfl) ?_
  refine zg_aload_n (i := 0) dX3_push_0 rfl rfl ?_
  refine zg_iload_n (i := 1) dX3_push_1 rfl rfl ?_
  refine zg_callVi (cm_heldBy hS mu hp hP) dX3_push_2 cvX3_heldBy mlX3_77 rfl (by assumption) (by assumption) rfl (Nat.le_of_ble_eq_true rfl) ⟨by decide, by decide⟩ ⟨Nat.le_refl _, Nat.le_refl _⟩ (fun r mu2 h2 => ?_)
  obtain ⟨rfl, rfl⟩ := h2
  refine zg_istore_n (i := 3) (L2 := [_, _, _, _]) dX3_push_5 rfl (by decide) rfl ?_
  refine zg_iload_n (i := 3) dX3_push_6 rfl rfl ?_
  refine zg_bipush (v := nI 16) dX3_push_7 (by decide) ?_
  first | with_reducible refine zg_icmpN_ne (tgt := 20) dX3_push_9 (by decide) (by omega) (by omega) (fun c => ?_) (fun c => ?_) | refine zg_icmp_ne (tgt := 20) dX3_push_9 (by decide) (fun c => ?_) (fun c => ?_)
  · refine zg_aload_n (i := 0) dX3_push_20 rfl rfl ?_
    refine zg_iload_n (i := 1) dX3_push_21 rfl rfl ?_
    refine zg_bipush (v := nI 9) dX3_push_22 (by decide) ?_
    refine zg_iload_n (i := 3) dX3_push_24 rfl rfl ?_
    first | with_reducible refine zg_iaddN dX3_push_25 ?_ | refine zg_iadd dX3_push_25 ?_
    refine zg_iload_n (i := 2) dX3_push_26 rfl rfl ?_
    refine zg_callVv (cm_put hS mu v (p := p) (w := 9 + (s0 + s1 + s2)) (by omega) e) dX3_push_27 cvX3_put mlX3_80 rfl (by assumption) (by assumption) rfl (Nat.le_of_ble_eq_true rfl) ⟨by decide, by decide⟩ ⟨Nat.le_refl _, Nat.le_refl _⟩ (fun mu2 h2 => ?_)
    subst h2
    have h5' : upd v (150 + 25 * p + (9 + (s0 + s1 + s2))) e (150 + 25 * p + 5) = nI ns := by rw [upd_n (by omega)]; exact h5
    refine zg_aload_n (i := 0) dX3_push_30 rfl rfl ?_
    refine zg_iload_n (i := 1) dX3_push_31 rfl rfl ?_
    refine zg_aload_n (i := 0) dX3_push_32 rfl rfl ?_
    refine zg_iload_n (i := 1) dX3_push_33 rfl rfl ?_
    refine zg_callVi (cm_current hS mu hp h5' a1) dX3_push_34 cvX3_current mlX3_73 rfl (by assumption) (by assumption) rfl (Nat.le_of_ble_eq_true rfl) ⟨by decide, by decide⟩ ⟨Nat.le_refl _, Nat.le_refl _⟩ (fun r mu2 h2 => ?_)
    obtain ⟨rfl, rfl⟩ := h2
    refine zg_aload_n (i := 0) dX3_push_37 rfl rfl ?_
    refine zg_iload_n (i := 1) dX3_push_38 rfl rfl ?_
    refine zg_aload_n (i := 0) dX3_push_39 rfl rfl ?_
    refine zg_iload_n (i := 1) dX3_push_40 rfl rfl ?_
    refine zg_callVi (cm_current hS mu hp h5' a1) dX3_push_41 cvX3_current mlX3_73 rfl (by assumption) (by assumption) rfl (Nat.le_of_ble_eq_true rfl) ⟨by decide, by decide⟩ ⟨Nat.le_refl _, Nat.le_refl _⟩ (fun r mu2 h2 => ?_)
    obtain ⟨rfl, rfl⟩ := h2
    refine zg_callVi (cm_of hS mu _ (p := p) (w := 5 + ns) (by omega)) dX3_push_44 cvX3_of mlX3_69 rfl (by assumption) (by assumption) rfl (Nat.le_of_ble_eq_true rfl) ⟨by decide, by decide⟩ ⟨Nat.le_refl _, Nat.le_refl _⟩ (fun r mu2 h2 => ?_)
    obtain ⟨rfl, rfl⟩ := h2
    refine zg_val (y := nI (PIsc ns s0 s1 s2)) (by rw [upd_n (by omega), ← Nat.add_assoc]; exact hc) ?_
    refine zg_iconst (v := nI 1) dX3_push_47 (by decide) ?_
    first | with_reducible refine zg_iaddN dX3_push_48 ?_ | refine zg_iadd dX3_push_48 ?_
    refine zg_callVv (cm_put hS mu _ (p := p) (w := 5 + ns) (by omega) (nI (PIsc ns s0 s1 s2 + 1))) dX3_push_49 cvX3_put mlX3_80 rfl (by assumption) (by assumption) rfl (Nat.le_of_ble_eq_true rfl) ⟨by decide, by decide⟩ ⟨Nat.le_refl _, Nat.le_refl _⟩ (fun mu2 h2 => ?_)
    subst h2
    refine zg_vret dX3_push_52 rfl ⟨rfl, rfl, ?_⟩
    show zrow _ _ _ = zrow _ _ _
    rw [qpush, hh, if_neg c, hq, hc, ← nI_1, show 150 + 25 * p + (9 + (s0 + s1 + s2)) = 150 + 25 * p + 9 + (s0 + s1 + s2) by omega, show 150 + 25 * p + (5 + ns) = 150 + 25 * p + 5 + ns by omega]
  · refine zg_aload_n (i := 0) dX3_push_12 rfl rfl ?_
    refine zg_iload_n (i := 1) dX3_push_13 rfl rfl ?_
    refine zg_iconst (v := nI 3) dX3_push_14 (by decide) ?_
    refine zg_iconst (v := nI 2) dX3_push_15 (by decide) ?_
    refine zg_callVv (cm_put hS mu v (p := p) (w := 3) (by omega) (nI 2)) dX3_push_16 cvX3_put mlX3_80 rfl (by assumption) (by assumption) rfl (Nat.le_of_ble_eq_true rfl) ⟨by decide, by decide⟩ ⟨Nat.le_refl _, Nat.le_refl _⟩ (fun mu2 h2 => ?_)
    subst h2
    refine zg_vret dX3_push_19 rfl ⟨rfl, rfl, ?_⟩
    show zrow _ _ _ = zrow _ _ _
    rw [qpush, hh, if_pos c]
set_option maxRecDepth 20000 in
theorem cm_modulo (S : zS) (mu : zU) (x : Int32) {n : Nat} (hn : n = 6 ∨ n = 12) : zM yX3_modulo cX3_modulo 3 (some .int) 0 0 0 [.inl x, .inl (nI n)] S mu (zPi S (fun r mu2 => mu2 = mu ∧ r = nI (qmod x n))) := by
  have hne : ¬ nI n = 0 := by rcases hn with rfl | rfl <;> decide
  refine zM.ofG (by decide +kernel) (Nat.le_of_ble_eq_true rfl) ?_
  refine zg_iload_n (i := 0) dX3_modulo_0 rfl rfl ?_
  refine zg_iload_n (i := 1) dX3_modulo_1 rfl rfl ?_
  refine zg_irem dX3_modulo_2 hne ?_
  refine zg_istore_n (i := 2) (L2 := [_, _, _]) dX3_modulo_3 rfl (by decide) rfl ?_
  refine zg_iload_n (i := 2) dX3_modulo_4 rfl rfl ?_
  refine zg_if_ge (tgt := 14) dX3_modulo_5 (by decide) (fun c => ?_) (fun c => ?_)
  · refine zg_iload_n (i := 2) dX3_modulo_14 rfl rfl ?_
    exact zg_iret dX3_modulo_15 rfl ⟨_, rfl, rfl, ⟨rfl, qmod_nn hn c⟩⟩
  · refine zg_iload_n (i := 2) dX3_modulo_8 rfl rfl ?_
    refine zg_iload_n (i := 1) dX3_modulo_9 rfl rfl ?_
    first | with_reducible refine zg_iaddN dX3_modulo_10 ?_ | refine zg_iadd dX3_modulo_10 ?_
    refine zg_goto (tgt := 15) dX3_modulo_11 (by decide) ?_
    exact zg_iret dX3_modulo_15 rfl ⟨_, rfl, rfl, ⟨rfl, qmod_neg hn c⟩⟩
set_option maxRecDepth 20000 in
theorem cm_cell (S : zS) (mu : zU) (x y : Int32) : zM yX3_cell cX3_cell 2 (some .int) 1 0 0 [.inl x, .inl y] S mu (zPi S (fun r mu2 => mu2 = mu ∧ r = nI (qcell x y))) := by
  refine zM.ofG (by decide +kernel) (Nat.le_of_ble_eq_true rfl) ?_
  refine zg_bipush (v := nI 72) dX3_cell_0 (by decide) ?_
  refine zg_bipush (v := nI 12) dX3_cell_2 (by decide) ?_
  refine zg_iload_n (i := 1) dX3_cell_4 rfl rfl ?_
  refine zg_bipush (v := nI 6) dX3_cell_5 (by decide) ?_
  refine zg_callSi (cm_modulo S mu y (n := 6) (Or.inl rfl)) dX3_cell_7 ctX3_modulo mlX3_84 rfl rfl (Nat.le_of_ble_eq_true rfl) ⟨by decide, by decide⟩ ⟨Nat.le_refl _, Nat.le_refl _⟩ (fun r mu2 h2 => ?_)
  obtain ⟨rfl, rfl⟩ := h2
  first | with_reducible refine zg_imulN dX3_cell_10 ?_ | refine zg_imul dX3_cell_10 ?_
  first | with_reducible refine zg_iaddN dX3_cell_11 ?_ | refine zg_iadd dX3_cell_11 ?_
  refine zg_iload_n (i := 0) dX3_cell_12 rfl rfl ?_
  refine zg_bipush (v := nI 12) dX3_cell_13 (by decide) ?_
  refine zg_callSi (cm_modulo S mu2 x (n := 12) (Or.inr rfl)) dX3_cell_15 ctX3_modulo mlX3_84 rfl rfl (Nat.le_of_ble_eq_true rfl) ⟨by decide, by decide⟩ ⟨Nat.le_refl _, Nat.le_refl _⟩ (fun r mu2 h2 => ?_)
  obtain ⟨rfl, rfl⟩ := h2
  first | with_reducible refine zg_iaddN dX3_cell_18 ?_ | refine zg_iadd dX3_cell_18 ?_
  exact zg_iret dX3_cell_19 rfl ⟨_, rfl, rfl, ⟨rfl, rfl⟩⟩
set_option maxRecDepth 20000 in
theorem cm_clamp (S : zS) (mu : zU) (x : Int32) {n : Nat} (hn : n < 2 ^ 31) : zM yX3_clamp cX3_clamp 2 (some .int) 0 0 0 [.inl x, .inl (nI n)] S mu (zPi S (fun r mu2 => mu2 = mu ∧ r = nI (qclamp x n))) := by
  refine zM.ofG (by decide +kernel) (Nat.le_of_ble_eq_true rfl) ?_
  refine zg_iload_n (i := 0) dX3_clamp_0 rfl rfl ?_
  refine zg_if_ge (tgt := 8) dX3_clamp_1 (by decide) (fun c => ?_) (fun c => ?_)
  · refine zg_iload_n (i := 0) dX3_clamp_8 rfl rfl ?_
    refine zg_iload_n (i := 1) dX3_clamp_9 rfl rfl ?_
    refine zg_icmp_le (tgt := 17) dX3_clamp_10 (by decide) (fun c2 => ?_) (fun c2 => ?_)
    · refine zg_iload_n (i := 0) dX3_clamp_17 rfl rfl ?_
      exact zg_iret dX3_clamp_18 rfl ⟨_, rfl, rfl, ⟨rfl, (qclamp_in c c2).symm⟩⟩
    · refine zg_iload_n (i := 1) dX3_clamp_13 rfl rfl ?_
      refine zg_goto (tgt := 18) dX3_clamp_14 (by decide) ?_
      exact zg_iret dX3_clamp_18 rfl ⟨_, rfl, rfl, ⟨rfl, by rw [qclamp, if_neg (Int32.not_lt.mpr c), if_pos (Int32.not_le.mp c2)]⟩⟩
  · refine zg_iconst (v := nI 0) dX3_clamp_4 (by decide) ?_
    refine zg_goto (tgt := 18) dX3_clamp_5 (by decide) ?_
    exact zg_iret dX3_clamp_18 rfl ⟨_, rfl, rfl, ⟨rfl, by rw [qclamp, if_pos (Int32.not_le.mp c)]⟩⟩
