/-! THE REFERENCE: cycles -/
set_option maxRecDepth 20000 in
theorem lm_same0 {S : zS} {m : Nat} (mu : zU) (Ph : Option zV → zS → zU → Prop) (hx : Ph (some (.inl (nI 0))) S mu) (i : Nat) (hi : i ≤ 267) :
    zG RX3 "isSameAsFirst" cX3_isSameAsFirst 3 (some .boolean) (zroom 0 0 0) 0 0 Ph 5 [some (.inr (m + 1)), some (.inl (nI 0)), some (.inl (nI i))] [] S (mu) 0 0 := by
  refine zg_iload_n (i := 2) dX3_isSameAsFirst_5 rfl rfl ?_
  refine zg_sipush (v := nI 267) dX3_isSameAsFirst_6 (by decide) ?_
  first | with_reducible refine zg_icmpN_ge (tgt := 50) dX3_isSameAsFirst_9 (by decide) (by omega) (by omega) (fun c => ?_) (fun c => ?_) | refine zg_icmp_ge (tgt := 50) dX3_isSameAsFirst_9 (by decide) (fun c => ?_) (fun c => ?_)
  · refine zg_iload_n (i := 1) dX3_isSameAsFirst_50 rfl rfl ?_
    exact zg_zret dX3_isSameAsFirst_51 rfl (Or.inl rfl) hx
  · refine zg_iload_n (i := 1) dX3_isSameAsFirst_12 rfl rfl ?_
    first | with_reducible refine zg_ifN_eq (tgt := 50) dX3_isSameAsFirst_13 (by decide) (by omega) (fun c2 => ?_) (fun c2 => ?_) | refine zg_if_eq (tgt := 50) dX3_isSameAsFirst_13 (by decide) (fun c2 => ?_) (fun c2 => ?_)
    · refine zg_iload_n (i := 1) dX3_isSameAsFirst_50 rfl rfl ?_
      exact zg_zret dX3_isSameAsFirst_51 rfl (Or.inl rfl) hx
    · exact absurd rfl c2
set_option maxRecDepth 20000 in
theorem lm_same5 {S : zS} {m : Nat} (hS : MS S m) (mu : zU) {v : Nat → Int32} (Ph : Option zV → zS → zU → Prop) (hx1 : QE v (mu (m + 4)) → Ph (some (.inl (nI 1))) S (zrow mu (m + 1) v)) (hx0 : ¬ QE v (mu (m + 4)) → Ph (some (.inl (nI 0))) S (zrow mu (m + 1) v)) :
    ∀ (t i : Nat), i + t = 267 → 72 ≤ i → (∀ j, 72 ≤ j → j < i → j ≠ 144 → v j = mu (m + 4) j) → zG RX3 "isSameAsFirst" cX3_isSameAsFirst 3 (some .boolean) (zroom 0 0 0) 0 0 Ph 5 [some (.inr (m + 1)), some (.inl (nI 1)), some (.inl (nI i))] [] S (zrow mu (m + 1) v) 0 0 := by
  have hN0 : m < S.1 := hS.lt (i := 0) (by decide)
  have hN1 : m + 1 < S.1 := hS.lt (by decide)
  have hN4 : m + 4 < S.1 := hS.lt (by decide)
  obtain ⟨⟨-, k0, k1, -, -, k4, -⟩, r0, -, -, r4, -⟩ := id hS
  intro t
  induction t with
  | zero =>
    intro i hit h72 he
    obtain rfl : i = 267 := by omega
    refine zg_iload_n (i := 2) dX3_isSameAsFirst_5 rfl rfl ?_
    refine zg_sipush (v := nI 267) dX3_isSameAsFirst_6 (by decide) ?_
    first | with_reducible refine zg_icmpN_ge (tgt := 50) dX3_isSameAsFirst_9 (by decide) (by omega) (by omega) (fun c => ?_) (fun c => ?_) | refine zg_icmp_ge (tgt := 50) dX3_isSameAsFirst_9 (by decide) (fun c => ?_) (fun c => ?_)
    · refine zg_iload_n (i := 1) dX3_isSameAsFirst_50 rfl rfl ?_
      exact zg_zret dX3_isSameAsFirst_51 rfl (Or.inr rfl) (hx1 he)
    · omega
  | succ t ih =>
    intro i hit h72 he
    refine zg_iload_n (i := 2) dX3_isSameAsFirst_5 rfl rfl ?_
    refine zg_sipush (v := nI 267) dX3_isSameAsFirst_6 (by decide) ?_
    first | with_reducible refine zg_icmpN_ge (tgt := 50) dX3_isSameAsFirst_9 (by decide) (by omega) (by omega) (fun c => ?_) (fun c => ?_) | refine zg_icmp_ge (tgt := 50) dX3_isSameAsFirst_9 (by decide) (fun c => ?_) (fun c => ?_)
    · omega
    · refine zg_iload_n (i := 1) dX3_isSameAsFirst_12 rfl rfl ?_
      first | with_reducible refine zg_ifN_eq (tgt := 50) dX3_isSameAsFirst_13 (by decide) (by omega) (fun c2 => ?_) (fun c2 => ?_) | refine zg_if_eq (tgt := 50) dX3_isSameAsFirst_13 (by decide) (fun c2 => ?_) (fun c2 => ?_)
      · exact absurd c2 (by decide)
      · refine zg_iload_n (i := 2) dX3_isSameAsFirst_16 rfl rfl ?_
        refine zg_sipush (v := nI 144) dX3_isSameAsFirst_17 (by decide) ?_
        first | with_reducible refine zg_icmpN_eq (tgt := 38) dX3_isSameAsFirst_20 (by decide) (by omega) (by omega) (fun c3 => ?_) (fun c3 => ?_) | refine zg_icmp_eq (tgt := 38) dX3_isSameAsFirst_20 (by decide) (fun c3 => ?_) (fun c3 => ?_)
        · refine zg_iconst (v := nI 1) dX3_isSameAsFirst_38 (by decide) ?_
          refine zg_goto (tgt := 43) dX3_isSameAsFirst_39 (by decide) ?_
          refine zg_istore_n (i := 1) (L2 := [_, _, _]) dX3_isSameAsFirst_43 rfl (by decide) rfl ?_
          refine zg_iinc1 (L2 := [_, _, _]) dX3_isSameAsFirst_44 (by decide) rfl rfl ?_
          refine zg_goto (tgt := 5) dX3_isSameAsFirst_47 (by decide) ?_
          refine ih (i + 1) (by omega) (by omega) (fun j a b d => ?_)
          exact he j a (by omega) d
        · refine zg_aload_n (i := 0) dX3_isSameAsFirst_23 rfl rfl ?_
          refine zg_getR dX3_isSameAsFirst_24 flX3_7 (by decide) (by assumption) (by assumption) (by assumption) ?_
          refine zg_iload_n (i := 2) dX3_isSameAsFirst_27 rfl rfl ?_
          first | with_reducible refine zg_ialdR dX3_isSameAsFirst_28 (by assumption) (by assumption) rfl (by omega) (by decide) ?_ | refine zg_iald dX3_isSameAsFirst_28 (by assumption) (by assumption) rfl (by omega) (by decide) ?_
          refine zg_aload_n (i := 0) dX3_isSameAsFirst_29 rfl rfl ?_
          refine zg_getR dX3_isSameAsFirst_30 flX3_19 (by decide) (by assumption) (by assumption) (by assumption) ?_
          refine zg_iload_n (i := 2) dX3_isSameAsFirst_33 rfl rfl ?_
          first | with_reducible refine zg_ialdR dX3_isSameAsFirst_34 (by assumption) (by assumption) rfl (by omega) (by decide) ?_ | refine zg_iald dX3_isSameAsFirst_34 (by assumption) (by assumption) rfl (by omega) (by decide) ?_
          refine zg_val (y := mu (m + 4) i) (by rw [zrow_n (by omega)]) ?_
          refine zg_icmp_ne (tgt := 42) dX3_isSameAsFirst_35 (by decide) (fun c4 => ?_) (fun c4 => ?_)
          · refine zg_iconst (v := nI 0) dX3_isSameAsFirst_42 (by decide) ?_
            refine zg_istore_n (i := 1) (L2 := [_, _, _]) dX3_isSameAsFirst_43 rfl (by decide) rfl ?_
            refine zg_iinc1 (L2 := [_, _, _]) dX3_isSameAsFirst_44 (by decide) rfl rfl ?_
            refine zg_goto (tgt := 5) dX3_isSameAsFirst_47 (by decide) ?_
            exact lm_same0 _ _ (hx0 (fun z => c4 (z i (by omega) (by omega) c3))) (i + 1) (by omega)
          · refine zg_iconst (v := nI 1) dX3_isSameAsFirst_38 (by decide) ?_
            refine zg_goto (tgt := 43) dX3_isSameAsFirst_39 (by decide) ?_
            refine zg_istore_n (i := 1) (L2 := [_, _, _]) dX3_isSameAsFirst_43 rfl (by decide) rfl ?_
            refine zg_iinc1 (L2 := [_, _, _]) dX3_isSameAsFirst_44 (by decide) rfl rfl ?_
            refine zg_goto (tgt := 5) dX3_isSameAsFirst_47 (by decide) ?_
            refine ih (i + 1) (by omega) (by omega) (fun j a b d => ?_)
            rcases Nat.lt_or_ge j i with h1 | h1
            · exact he j a h1 d
            · rw [show j = i by omega]; exact c4
set_option maxRecDepth 20000 in
theorem cm_isSameAsFirst {S : zS} {m : Nat} (hS : MS S m) (mu : zU) (v : Nat → Int32) : zM yX3_isSameAsFirst cX3_isSameAsFirst 3 (some .boolean) 0 0 0 [.inr (m + 1)] S (zrow mu (m + 1) v) (zPi S (fun r mu2 => mu2 = zrow mu (m + 1) v ∧ ans r (QE v (mu (m + 4))))) := by
  refine zM.ofG (by decide +kernel) (Nat.le_of_ble_eq_true rfl) ?_
  refine zg_iconst (v := nI 1) dX3_isSameAsFirst_0 (by decide) ?_
  refine zg_istore_n (i := 1) (L2 := [_, _, _]) dX3_isSameAsFirst_1 rfl (by decide) rfl ?_
  refine zg_bipush (v := nI 72) dX3_isSameAsFirst_2 (by decide) ?_
  refine zg_istore_n (i := 2) (L2 := [_, _, _]) dX3_isSameAsFirst_4 rfl (by decide) rfl ?_
  exact lm_same5 hS mu _ (fun h => ⟨_, rfl, rfl, rfl, Or.inl ⟨rfl, h⟩⟩) (fun h => ⟨_, rfl, rfl, rfl, Or.inr ⟨rfl, h⟩⟩) 195 72 (by omega) (by omega) (fun j a b => absurd b (by omega))
/-- no state that comes up to lim is like state i -/
def CN (v : Nat → Int32) (lim i : Nat) : Prop := ∀ l, 1 ≤ l → i + l ≤ lim → ¬ QE (qit v (i + l)) (qit v i)
def CF (v : Nat → Int32) (lim i l : Nat) : Prop := (1 ≤ l ∧ i + l ≤ lim) ∧ QE (qit v (i + l)) (qit v i) ∧ ∀ l', 1 ≤ l' → l' < l → ¬ QE (qit v (i + l')) (qit v i)
def CI (v : Nat → Int32) (lim i : Nat) (a c : Int32) : Prop := (∃ l, CF v lim i l ∧ a = nI i ∧ c = nI l) ∨ (CN v lim i ∧ a = -9 ∧ c = -9)
def CO (v : Nat → Int32) (lim n : Nat) (a c : Int32) : Prop := (∃ i l, i < n ∧ CF v lim i l ∧ (∀ i', i' < i → CN v lim i') ∧ a = nI i ∧ c = nI l) ∨ ((∀ i', i' < n → CN v lim i') ∧ a = -9 ∧ c = -9)
def FC (v : Nat → Int32) (lim : Nat) (a c : Int32) : Prop := ((∃ n, n ≤ lim ∧ qhalt (qit v n) = true) ∧ a = -9 ∧ c = -9) ∨ ((∀ n, n ≤ lim → qhalt (qit v n) = false) ∧ CO v lim lim a c)
theorem nI_m9 {n : Nat} (h : n < 2 ^ 31) : nI n ≠ -9 := fun e => by
  have := congrArg Int32.toInt e
  rw [nI_toInt h] at this
  have h2 : (-9 : Int32).toInt = -9 := by decide
  omega
def cfr (mu0 A : zU) (m : Nat) : Prop := (∀ q, q ≠ m → q ≠ m + 1 → q ≠ m + 4 → q ≠ m + 10 → A q = mu0 q) ∧ ∀ j, j ≠ 12 → j ≠ 13 → A m j = mu0 m j
set_option maxRecDepth 20000 in
theorem lm_fc101 {S : zS} {m : Nat} (hS : MS S m) {v : Nat → Int32} {ol : List Nat} {lim i : Nat} (hV : VI v ol) (hlim : lim ≤ 200) (hi : i < lim) (mu0 : zU) (Ph : Option zV → zS → zU → Prop) (hx : ∀ A w c, c ≤ lim + 1 → cfr mu0 A m → A (m + 4) = qit v i → CI v lim i (A m 12) (A m 13) → zG RX3 "findCycle" cX3_findCycle 4 none (zroom 8 0 0) 0 0 Ph 144 [some (.inr (m + 1)), some (.inl (nI lim)), some (.inl (nI i)), some (.inl (nI c))] [] S (zrow A (m + 1) w) 0 0) :
    ∀ (t c : Nat) (A : zU), c + t = lim + 1 → i < c → (∀ l, 1 ≤ l → i + l < c → ¬ QE (qit v (i + l)) (qit v i)) → cfr mu0 A m → A (m + 4) = qit v i → A m 12 = -9 → A m 13 = -9 → zG RX3 "findCycle" cX3_findCycle 4 none (zroom 8 0 0) 0 0 Ph 101 [some (.inr (m + 1)), some (.inl (nI lim)), some (.inl (nI i)), some (.inl (nI c))] [] S (zrow A (m + 1) (qit v (c - 1))) 0 0 := by
  have hN0 : m < S.1 := hS.lt (i := 0) (by decide)
  have k0 := hS.1.2.1
  intro t
  induction t with
  | zero =>
    intro c A hc hic hno hA h4 h12 h13
    refine zg_iload_n (i := 3) dX3_findCycle_101 rfl rfl ?_
    refine zg_iload_n (i := 1) dX3_findCycle_102 rfl rfl ?_
    first | with_reducible refine zg_icmpN_gt (tgt := 144) dX3_findCycle_103 (by decide) (by omega) (by omega) (fun c1 => ?_) (fun c1 => ?_) | refine zg_icmp_gt (tgt := 144) dX3_findCycle_103 (by decide) (fun c1 => ?_) (fun c1 => ?_)
    · exact hx A _ c (by omega) hA h4 (Or.inr ⟨fun l a b => hno l a (by omega), h12, h13⟩)
    · omega
  | succ t ih =>
    intro c A hc hic hno hA h4 h12 h13
    obtain ⟨ol2, hV2⟩ := VI_it hV (c - 1)
    refine zg_iload_n (i := 3) dX3_findCycle_101 rfl rfl ?_
    refine zg_iload_n (i := 1) dX3_findCycle_102 rfl rfl ?_
    first | with_reducible refine zg_icmpN_gt (tgt := 144) dX3_findCycle_103 (by decide) (by omega) (by omega) (fun c1 => ?_) (fun c1 => ?_) | refine zg_icmp_gt (tgt := 144) dX3_findCycle_103 (by decide) (fun c1 => ?_) (fun c1 => ?_)
    · omega
    · refine zg_aload_n (i := 0) dX3_findCycle_106 rfl rfl ?_
      first | with_reducible refine zg_getIR dX3_findCycle_107 flX3_170 (by decide) (by assumption) (by assumption) (by omega) ?_ | refine zg_getI dX3_findCycle_107 flX3_170 (by decide) (by assumption) (by assumption) ?_
      refine zg_val (y := -9) h12 ?_
      refine zg_bipush (v := -9) dX3_findCycle_110 (by decide) ?_
      refine zg_icmp_ne (tgt := 144) dX3_findCycle_112 (by decide) (fun c2 => ?_) (fun c2 => ?_)
      · exact absurd rfl c2
      · refine zg_aload_n (i := 0) dX3_findCycle_115 rfl rfl ?_
        refine zg_callVv (cm_step hS A hV2) dX3_findCycle_116 cvX3_step mlX3_148 rfl (by assumption) (by assumption) rfl (Nat.le_of_ble_eq_true rfl) ⟨by decide, by decide⟩ ⟨Nat.le_refl _, Nat.le_refl _⟩ (fun mu2 h2 => ?_)
        obtain ⟨B, hB, rfl⟩ := h2
        rw [show qstep (qit v (c - 1)) = qit v (c - 1 + 1) from rfl, show c - 1 + 1 = c by omega]
        refine zg_aload_n (i := 0) dX3_findCycle_119 rfl rfl ?_
        refine zg_callVi (cm_isSameAsFirst hS B (qit v c)) dX3_findCycle_120 cvX3_isSameAsFirst mlX3_176 rfl (by assumption) (by assumption) rfl (Nat.le_of_ble_eq_true rfl) ⟨by decide, by decide⟩ ⟨Nat.le_refl _, Nat.le_refl _⟩ (fun r mu2 h2 => ?_)
        obtain ⟨rfl, h3⟩ := h2
        have hB4 : B (m + 4) = qit v i := by rw [hB _ (by omega), h4]
        have hBm : B m = A m := hB m (by omega)
        have hBf : cfr mu0 B m := ⟨fun q a b d e => by rw [hB q e]; exact hA.1 q a b d e, fun j a b => by rw [hBm]; exact hA.2 j a b⟩
        rw [hB4] at h3
        rcases h3 with ⟨rfl, h3⟩ | ⟨rfl, h3⟩
        · first | with_reducible refine zg_ifN_eq (tgt := 138) dX3_findCycle_123 (by decide) (by omega) (fun c3 => ?_) (fun c3 => ?_) | refine zg_if_eq (tgt := 138) dX3_findCycle_123 (by decide) (fun c3 => ?_) (fun c3 => ?_)
          · exact absurd c3 (by decide)
          · refine zg_aload_n (i := 0) dX3_findCycle_126 rfl rfl ?_
            refine zg_iload_n (i := 2) dX3_findCycle_127 rfl rfl ?_
            refine zg_putI dX3_findCycle_128 flX3_170 (by decide) (by assumption) (by assumption) ?_
            refine zg_aload_n (i := 0) dX3_findCycle_131 rfl rfl ?_
            refine zg_iload_n (i := 3) dX3_findCycle_132 rfl rfl ?_
            refine zg_iload_n (i := 2) dX3_findCycle_133 rfl rfl ?_
            first | with_reducible refine zg_isubN dX3_findCycle_134 (by omega) ?_ | refine zg_isub dX3_findCycle_134 ?_
            refine zg_putI dX3_findCycle_135 flX3_173 (by decide) (by assumption) (by assumption) ?_
            refine zg_iinc1 (L2 := [_, _, _, _]) dX3_findCycle_138 (by decide) rfl rfl ?_
            refine zg_goto (tgt := 101) dX3_findCycle_141 (by decide) ?_
            refine zg_iload_n (i := 3) dX3_findCycle_101 rfl rfl ?_
            refine zg_iload_n (i := 1) dX3_findCycle_102 rfl rfl ?_
            refine zg_mu (mu2 := zrow (zup (zup B m 12 (nI i)) m 13 (nI (c - i))) (m + 1) (qit v c)) (by funext q; by_cases h1 : q = m + 1 <;> by_cases h2 : q = m <;> simp [zup, zrow, h1, h2]) ?_
            have hfin : CI v lim i ((zup (zup B m 12 (nI i)) m 13 (nI (c - i))) m 12) ((zup (zup B m 12 (nI i)) m 13 (nI (c - i))) m 13) := by
              refine Or.inl ⟨c - i, ⟨⟨by omega, by omega⟩, ?_, fun l' a b => hno l' a (by omega)⟩, ?_, ?_⟩
              · rw [show i + (c - i) = c by omega]; exact h3
              · rw [zup_s, upd_n (by omega), zup_s, upd_s]
              · rw [zup_s, upd_s]
            have hfr : cfr mu0 (zup (zup B m 12 (nI i)) m 13 (nI (c - i))) m := ⟨fun q a b d e => by rw [zup_n a, zup_n a]; exact hBf.1 q a b d e, fun j a b => by rw [zup_s, upd_n b, zup_s, upd_n a]; exact hBf.2 j a b⟩
            have hf4 : (zup (zup B m 12 (nI i)) m 13 (nI (c - i))) (m + 4) = qit v i := by rw [zup_n (by omega), zup_n (by omega)]; exact hB4
            first | with_reducible refine zg_icmpN_gt (tgt := 144) dX3_findCycle_103 (by decide) (by omega) (by omega) (fun c4 => ?_) (fun c4 => ?_) | refine zg_icmp_gt (tgt := 144) dX3_findCycle_103 (by decide) (fun c4 => ?_) (fun c4 => ?_)
            · exact hx _ _ (c + 1) (by omega) hfr hf4 hfin
            · refine zg_aload_n (i := 0) dX3_findCycle_106 rfl rfl ?_
              first | with_reducible refine zg_getIR dX3_findCycle_107 flX3_170 (by decide) (by assumption) (by assumption) (by omega) ?_ | refine zg_getI dX3_findCycle_107 flX3_170 (by decide) (by assumption) (by assumption) ?_
              refine zg_val (y := nI i) (by rw [zup_s, upd_n (by omega), zup_s, upd_s]) ?_
              refine zg_bipush (v := -9) dX3_findCycle_110 (by decide) ?_
              refine zg_icmp_ne (tgt := 144) dX3_findCycle_112 (by decide) (fun c5 => ?_) (fun c5 => ?_)
              · exact hx _ _ (c + 1) (by omega) hfr hf4 hfin
              · exact absurd c5 (nI_m9 (by omega))
        · first | with_reducible refine zg_ifN_eq (tgt := 138) dX3_findCycle_123 (by decide) (by omega) (fun c3 => ?_) (fun c3 => ?_) | refine zg_if_eq (tgt := 138) dX3_findCycle_123 (by decide) (fun c3 => ?_) (fun c3 => ?_)
          · refine zg_iinc1 (L2 := [_, _, _, _]) dX3_findCycle_138 (by decide) rfl rfl ?_
            refine zg_goto (tgt := 101) dX3_findCycle_141 (by decide) ?_
            refine ih (c + 1) B (by omega) (by omega) (fun l a b => ?_) hBf hB4 (by rw [hBm]; exact h12) (by rw [hBm]; exact h13)
            rcases Nat.lt_or_ge (i + l) c with h1 | h1
            · exact hno l a h1
            · rw [show i + l = c by omega]; exact h3
          · exact absurd rfl c3
set_option maxRecDepth 20000 in
theorem lm_fc56 {S : zS} {m : Nat} (hS : MS S m) {v : Nat → Int32} {ol : List Nat} {lim : Nat} (hV : VI v ol) (hlim : lim ≤ 200) (mu0 : zU) (Ph : Option zV → zS → zU → Prop) (hx : ∀ A w l2 l3, cfr mu0 A m → CO v lim lim (A m 12) (A m 13) → zG RX3 "findCycle" cX3_findCycle 4 none (zroom 8 0 0) 0 0 Ph 208 [some (.inr (m + 1)), some (.inl (nI lim)), l2, l3] [] S (zrow A (m + 1) w) 0 0) :
    ∀ (t i : Nat) (A : zU) (w : Nat → Int32) (l3 : Option zV), i + t = lim → cfr mu0 A m → (∀ j, j < 289 → A (m + 4) j = qit v i j) → CO v lim i (A m 12) (A m 13) → zG RX3 "findCycle" cX3_findCycle 4 none (zroom 8 0 0) 0 0 Ph 56 [some (.inr (m + 1)), some (.inl (nI lim)), some (.inl (nI i)), l3] [] S (zrow A (m + 1) w) 0 0 := by
  have hN0 : m < S.1 := hS.lt (i := 0) (by decide)
  have hN1 : m + 1 < S.1 := hS.lt (by decide)
  have hN4 : m + 4 < S.1 := hS.lt (by decide)
  have k0 := hS.1.2.1
  have k1 := hS.1.2.2.1
  have k4 := hS.1.2.2.2.2.2.1
  intro t
  induction t with
  | zero =>
    intro i A w l3 hi hA h4 hco
    obtain rfl : i = lim := by omega
    refine zg_iload_n (i := 2) dX3_findCycle_56 rfl rfl ?_
    refine zg_iload_n (i := 1) dX3_findCycle_57 rfl rfl ?_
    first | with_reducible refine zg_icmpN_ge (tgt := 208) dX3_findCycle_58 (by decide) (by omega) (by omega) (fun c1 => ?_) (fun c1 => ?_) | refine zg_icmp_ge (tgt := 208) dX3_findCycle_58 (by decide) (fun c1 => ?_) (fun c1 => ?_)
    · exact hx A w _ _ hA hco
    · omega
  | succ t ih =>
    intro i A w l3 hi hA h4 hco
    refine zg_iload_n (i := 2) dX3_findCycle_56 rfl rfl ?_
    refine zg_iload_n (i := 1) dX3_findCycle_57 rfl rfl ?_
    first | with_reducible refine zg_icmpN_ge (tgt := 208) dX3_findCycle_58 (by decide) (by omega) (by omega) (fun c1 => ?_) (fun c1 => ?_) | refine zg_icmp_ge (tgt := 208) dX3_findCycle_58 (by decide) (fun c1 => ?_) (fun c1 => ?_)
    · omega
    · refine zg_aload_n (i := 0) dX3_findCycle_61 rfl rfl ?_
      first | with_reducible refine zg_getIR dX3_findCycle_62 flX3_170 (by decide) (by assumption) (by assumption) (by omega) ?_ | refine zg_getI dX3_findCycle_62 flX3_170 (by decide) (by assumption) (by assumption) ?_
      rcases hco with ⟨i0, l, hi0, hcf, hcn, h12, h13⟩ | ⟨hcn, h12, h13⟩
      · refine zg_val (y := nI i0) h12 ?_
        refine zg_bipush (v := -9) dX3_findCycle_65 (by decide) ?_
        refine zg_icmp_ne (tgt := 208) dX3_findCycle_67 (by decide) (fun c2 => ?_) (fun c2 => ?_)
        · exact hx A w _ _ hA (Or.inl ⟨i0, l, by omega, hcf, hcn, h12, h13⟩)
        · exact absurd c2 (nI_m9 (by omega))
      · refine zg_val (y := -9) h12 ?_
        refine zg_bipush (v := -9) dX3_findCycle_65 (by decide) ?_
        refine zg_icmp_ne (tgt := 208) dX3_findCycle_67 (by decide) (fun c2 => ?_) (fun c2 => ?_)
        · exact absurd rfl c2
        · refine zg_iconst (v := nI 0) dX3_findCycle_70 (by decide) ?_
          refine zg_istore_n (i := 3) (L2 := [_, _, _, _]) dX3_findCycle_71 rfl (by decide) rfl ?_
          refine zg_tail (f := qit v i) k4 (fun j hj => by rw [zrow_n (by omega), h4 j hj]) ?_
          refine zg_mu (mu2 := zrow (zrow (zrow A (m + 4) (qit v i)) (m + 1) w) (m + 1) (cpi w ((zrow (zrow A (m + 4) (qit v i)) (m + 1) w) (m + 4)) 0 0)) (by rw [cpi_0]; funext q; by_cases h1 : q = m + 1 <;> by_cases h2 : q = m + 4 <;> simp [zrow, h1, h2]) ?_
          refine lm_cyc72 hS (zrow (zrow A (m + 4) (qit v i)) (m + 1) w) w _ ?_ 289 0 rfl
          rw [zrow_row]
          refine zg_tail (f := qit v i) k1 (fun j hj => by rw [zrow_s, cpi_in (by omega) (by omega), zrow_n (by omega), zrow_s, Nat.sub_zero]) ?_
          rw [zrow_row]
          refine zg_iload_n (i := 2) dX3_findCycle_97 rfl rfl ?_
          refine zg_iconst (v := nI 1) dX3_findCycle_98 (by decide) ?_
          first | with_reducible refine zg_iaddN dX3_findCycle_99 ?_ | refine zg_iadd dX3_findCycle_99 ?_
          refine zg_istore_n (i := 3) (L2 := [_, _, _, _]) dX3_findCycle_100 rfl (by decide) rfl ?_
          have hC : cfr mu0 (zrow A (m + 4) (qit v i)) m := ⟨fun q a b d e => by rw [zrow_n d]; exact hA.1 q a b d e, fun j a b => by rw [zrow_n (by omega)]; exact hA.2 j a b⟩
          refine lm_fc101 hS hV hlim (by omega) mu0 _ ?_ (lim - i) (i + 1) (zrow A (m + 4) (qit v i)) (by omega) (by omega) (fun l a b => absurd b (by omega)) hC (by rw [zrow_s]) (by rw [zrow_n (by omega)]; exact h12) (by rw [zrow_n (by omega)]; exact h13)
          intro B w2 c hc hB hB4 hci
          refine zg_iconst (v := nI 0) dX3_findCycle_144 (by decide) ?_
          refine zg_istore_n (i := 3) (L2 := [_, _, _, _]) dX3_findCycle_145 rfl (by decide) rfl ?_
          refine zg_mu (mu2 := zrow (zrow B (m + 1) w2) (m + 1) (cpi w2 ((zrow B (m + 1) w2) (m + 4)) 0 0)) (by rw [cpi_0, zrow_row]) ?_
          refine lm_cyc146 hS (zrow B (m + 1) w2) w2 _ ?_ 289 0 rfl
          rw [zrow_row]
          refine zg_tail (f := qit v i) k1 (fun j hj => by rw [zrow_s, cpi_in (by omega) (by omega), zrow_n (by omega), hB4, Nat.sub_zero]) ?_
          rw [zrow_row]
          obtain ⟨ol2, hV2⟩ := VI_it hV i
          refine zg_aload_n (i := 0) dX3_findCycle_171 rfl rfl ?_
          refine zg_callVv (cm_step hS B hV2) dX3_findCycle_172 cvX3_step mlX3_148 rfl (by assumption) (by assumption) rfl (Nat.le_of_ble_eq_true rfl) ⟨by decide, by decide⟩ ⟨Nat.le_refl _, Nat.le_refl _⟩ (fun mu2 h2 => ?_)
          obtain ⟨E, hE, rfl⟩ := h2
          rw [show qstep (qit v i) = qit v (i + 1) from rfl]
          refine zg_iconst (v := nI 0) dX3_findCycle_175 (by decide) ?_
          refine zg_istore_n (i := 3) (L2 := [_, _, _, _]) dX3_findCycle_176 rfl (by decide) rfl ?_
          refine zg_mu (mu2 := zrow (zrow E (m + 1) (qit v (i + 1))) (m + 4) (cpi (E (m + 4)) ((zrow E (m + 1) (qit v (i + 1))) (m + 1)) 0 0)) (by rw [cpi_0]; funext q; by_cases h1 : q = m + 1 <;> by_cases h2 : q = m + 4 <;> simp [zrow, h1, h2]) ?_
          refine lm_cyc177 hS (zrow E (m + 1) (qit v (i + 1))) (E (m + 4)) _ ?_ 289 0 rfl
          refine zg_iinc1 (L2 := [_, _, _, _]) dX3_findCycle_202 (by decide) rfl rfl ?_
          refine zg_goto (tgt := 56) dX3_findCycle_205 (by decide) ?_
          have hEm : E m = B m := hE m (by omega)
          refine zg_mu (mu2 := zrow (zrow E (m + 4) (cpi (E (m + 4)) ((zrow E (m + 1) (qit v (i + 1))) (m + 1)) 0 289)) (m + 1) (qit v (i + 1))) (by funext q; by_cases h1 : q = m + 1 <;> by_cases h2 : q = m + 4 <;> simp [zrow, h1, h2]) ?_
          refine ih (i + 1) _ _ _ (by omega) ⟨fun q a b d e => by rw [zrow_n d, hE q e]; exact hB.1 q a b d e, fun j a b => by rw [zrow_n (by omega), hEm]; exact hB.2 j a b⟩ (fun j hj => by rw [zrow_s, cpi_in (by omega) (by omega), zrow_s, Nat.sub_zero]) ?_
          rw [zrow_n (by omega), hEm]
          rcases hci with ⟨l, g1, g2, g3⟩ | ⟨g1, g2, g3⟩
          · exact Or.inl ⟨i, l, by omega, g1, hcn, g2, g3⟩
          · refine Or.inr ⟨fun i' hi' => ?_, g2, g3⟩
            rcases Nat.lt_or_ge i' i with h1 | h1
            · exact hcn i' h1
            · rw [show i' = i by omega]; exact g1
set_option maxRecDepth 20000 in
theorem cm_findCycle {S : zS} {m : Nat} (hS : MS S m) (mu : zU) {ol : List Nat} (hV : VI (mu (m + 1)) ol) {lim : Nat} (hlim : lim ≤ 200) : zM yX3_findCycle cX3_findCycle 4 none 8 0 0 [.inr (m + 1), .inl (nI lim)] S mu (zPv S (fun mu2 => FC (mu (m + 1)) lim (mu2 m 12) (mu2 m 13) ∧ (∀ j, j < 289 → mu2 (m + 1) j = mu (m + 1) j) ∧ (∀ q, q ≠ m → q ≠ m + 1 → q ≠ m + 3 → q ≠ m + 4 → q ≠ m + 10 → mu2 q = mu q) ∧ ∀ j, j ≠ 12 → j ≠ 13 → mu2 m j = mu m j)) := by
  have hN0 : m < S.1 := hS.lt (i := 0) (by decide)
  have k0 := hS.1.2.1
  have k1 := hS.1.2.2.1
  refine zM.ofG (by decide +kernel) (Nat.le_of_ble_eq_true rfl) ?_
  refine zg_aload_n (i := 0) dX3_findCycle_0 rfl rfl ?_
  refine zg_bipush (v := -9) dX3_findCycle_1 (by decide) ?_
  refine zg_putI dX3_findCycle_3 flX3_170 (by decide) (by assumption) (by assumption) ?_
  refine zg_aload_n (i := 0) dX3_findCycle_6 rfl rfl ?_
  refine zg_bipush (v := -9) dX3_findCycle_7 (by decide) ?_
  refine zg_putI dX3_findCycle_9 flX3_173 (by decide) (by assumption) (by assumption) ?_
  refine zg_aload_n (i := 0) dX3_findCycle_12 rfl rfl ?_
  refine zg_iload_n (i := 1) dX3_findCycle_13 rfl rfl ?_
  have e1 : zup (zup mu m 12 (-9)) m 13 (-9) (m + 1) = mu (m + 1) := by rw [zup_n (by omega), zup_n (by omega)]
  refine zg_callVi (cm_halts hS (zup (zup mu m 12 (-9)) m 13 (-9)) (by rw [e1]; exact hV) hlim) dX3_findCycle_14 cvX3_halts mlX3_167 rfl (by assumption) (by assumption) rfl (Nat.le_of_ble_eq_true rfl) ⟨by decide, by decide⟩ ⟨Nat.le_refl _, Nat.le_refl _⟩ (fun r mu2 h2 => ?_)
  obtain ⟨hh, hj1, hfr⟩ := h2
  rw [e1] at hh hj1
  have hm2 : mu2 m = upd (upd (mu m) 12 (-9)) 13 (-9) := by rw [hfr m (by omega) (by omega) (by omega), zup_s, zup_s]
  refine zg_bipush (v := -9) dX3_findCycle_17 (by decide) ?_
  rcases hh with ⟨n, hn1, hn2, hn3, rfl⟩ | ⟨hn, rfl⟩
  · refine zg_icmp_eq (tgt := 23) dX3_findCycle_19 (by decide) (fun c => ?_) (fun c => ?_)
    · exact absurd c (nI_m9 (by omega))
    · refine zg_vret dX3_findCycle_22 rfl ⟨rfl, rfl, Or.inl ⟨⟨n, hn1, hn2⟩, ?_, ?_⟩, hj1, fun q a b d e g => ?_, fun j a b => ?_⟩
      · rw [hm2, upd_n (by omega), upd_s]
      · rw [hm2, upd_s]
      · rw [hfr q b d g, zup_n a, zup_n a]
      · rw [hm2, upd_n b, upd_n a]
  · refine zg_icmp_eq (tgt := 23) dX3_findCycle_19 (by decide) (fun c => ?_) (fun c => ?_)
    · refine zg_aload_n (i := 0) dX3_findCycle_23 rfl rfl ?_
      refine zg_tail (f := mu (m + 1)) k1 (fun j hj => (hj1 j hj).symm) ?_
      refine zg_callVv (cm_setAside hS _) dX3_findCycle_24 cvX3_setAside mlX3_161 rfl (by assumption) (by assumption) rfl (Nat.le_of_ble_eq_true rfl) ⟨by decide, by decide⟩ ⟨Nat.le_refl _, Nat.le_refl _⟩ (fun mu3 h3 => ?_)
      subst h3
      rw [zrow_s]
      refine zg_iconst (v := nI 0) dX3_findCycle_27 (by decide) ?_
      refine zg_istore_n (i := 2) (L2 := [_, _, _, _]) dX3_findCycle_28 rfl (by decide) rfl ?_
      generalize hX : zrow (zrow mu2 (m + 1) (mu (m + 1))) (m + 3) (cpi ((zrow mu2 (m + 1) (mu (m + 1))) (m + 3)) (mu (m + 1)) 0 289) = X
      have X1 : X (m + 1) = mu (m + 1) := by rw [← hX, zrow_n (by omega), zrow_s]
      have X3 : ∀ j, j < 289 → X (m + 3) j = mu (m + 1) j := fun j hj => by rw [← hX, zrow_s, cpi_in (by omega) (by omega), Nat.sub_zero]
      have Xm : X m = mu2 m := by rw [← hX, zrow_n (by omega), zrow_n (by omega)]
      have Xq : ∀ q, q ≠ m + 1 → q ≠ m + 3 → X q = mu2 q := fun q a b => by rw [← hX, zrow_n b, zrow_n a]
      refine zg_mu (mu2 := zrow X (m + 4) (cpi (X (m + 4)) (X (m + 1)) 0 0)) (by rw [cpi_0, zrow_self]) ?_
      refine lm_cyc29 hS X (X (m + 4)) _ ?_ 289 0 rfl
      refine zg_iconst (v := nI 0) dX3_findCycle_54 (by decide) ?_
      refine zg_istore_n (i := 2) (L2 := [_, _, _, _]) dX3_findCycle_55 rfl (by decide) rfl ?_
      refine zg_mu (mu2 := zrow (zrow X (m + 4) (cpi (X (m + 4)) (X (m + 1)) 0 289)) (m + 1) (X (m + 1))) (by funext q; by_cases h1 : q = m + 1 <;> by_cases h2 : q = m + 4 <;> simp [zrow, h1, h2]) ?_
      refine lm_fc56 hS hV hlim X _ ?_ lim 0 _ _ _ (by omega) ⟨fun q a b d e => by rw [zrow_n d], fun j a b => by rw [zrow_n (by omega)]⟩ (fun j hj => by rw [zrow_s, cpi_in (by omega) (by omega), X1, Nat.sub_zero]; rfl) (Or.inr ⟨fun i' h => absurd h (by omega), by rw [zrow_n (by omega), Xm, hm2, upd_n (by omega), upd_s], by rw [zrow_n (by omega), Xm, hm2, upd_s]⟩)
      intro A w l2 l3 hA hco
      refine zg_aload_n (i := 0) dX3_findCycle_208 rfl rfl ?_
      refine zg_callVv (cm_takeBack hS _) dX3_findCycle_209 cvX3_takeBack mlX3_164 rfl (by assumption) (by assumption) rfl (Nat.le_of_ble_eq_true rfl) ⟨by decide, by decide⟩ ⟨Nat.le_refl _, Nat.le_refl _⟩ (fun mu4 h4 => ?_)
      subst h4
      rw [zrow_row]
      refine zg_vret dX3_findCycle_212 rfl ⟨rfl, rfl, Or.inr ⟨hn, ?_⟩, fun j hj => ?_, fun q a b d e g => ?_, fun j a b => ?_⟩
      · rw [zrow_n (by omega)]; exact hco
      · rw [zrow_s, cpi_in (by omega) (by omega), zrow_n (by omega), hA.1 _ (by omega) (by omega) (by omega) (by omega), Nat.sub_zero]; exact X3 j hj
      · rw [zrow_n b, hA.1 q a b e g, Xq q b d, hfr q b d g, zup_n a, zup_n a]
      · rw [zrow_n (by omega), hA.2 j a b, Xm, hm2, upd_n b, upd_n a]
    · exact absurd rfl c
