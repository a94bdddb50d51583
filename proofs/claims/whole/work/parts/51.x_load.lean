/-! THE CLASS: errorPosition, load -/
set_option maxRecDepth 20000 in
theorem lx_err6 {S : zS} {x : Nat} {pm : Nat → Nat} (hS : XS S x pm) (mu : zU) {tx : Nat → Int32} {tl : Nat} (htl : mu x 1 = nI tl) (h90 : tl ≤ 90) (htx : ∀ j, j < tl → mu (x + 1) j = tx j) (Ph : Option zV → zS → zU → Prop) (hx : ∀ r, EP tx tl r → Ph (some (.inl r)) S mu) :
    ∀ (t i : Nat) (l4 : Option zV), i + t = tl → (∀ k, k < i → qok tx k) → zG RX2 "errorPosition" cX2_errorPosition 5 (some .int) (zroom 1 0 0) 0 0 Ph 6 [some (.inr (x + 1)), some (.inl (nI (qrc tx i).1)), some (.inl (nI (qrc tx i).2)), some (.inl (nI i)), l4] [] S (mu) 0 0 := by
  have hN0 : x < S.1 := hS.lt (i := 0) (by decide)
  have hN1 : x + 1 < S.1 := hS.lt (by decide)
  have xk0 := hS.1.2.1
  have xk1 := hS.1.2.2.1
  have xr0 := hS.2.1.1
  intro t
  induction t with
  | zero =>
    intro i l4 hit hok
    refine zg_iload_n (i := 3) dX2_errorPosition_6 rfl rfl ?_
    refine zg_aload_n (i := 0) dX2_errorPosition_7 rfl rfl ?_
    first | with_reducible refine zg_getIR dX2_errorPosition_8 flX2_40 (by decide) (by assumption) (by assumption) (by omega) ?_ | refine zg_getI dX2_errorPosition_8 flX2_40 (by decide) (by assumption) (by assumption) ?_
    refine zg_val htl ?_
    first | with_reducible refine zg_icmpN_ge (tgt := 70) dX2_errorPosition_11 (by decide) (by omega) (by omega) (fun c1 => ?_) (fun c1 => ?_) | refine zg_icmp_ge (tgt := 70) dX2_errorPosition_11 (by decide) (fun c1 => ?_) (fun c1 => ?_)
    · refine zg_bipush (v := -9) dX2_errorPosition_70 (by decide) ?_
      exact zg_iret dX2_errorPosition_72 rfl (hx _ (Or.inr ⟨fun k hk => hok k (by omega), rfl⟩))
    · omega
  | succ t ih =>
    intro i l4 hit hok
    obtain ⟨hr1, hr2⟩ := qrc_le tx i
    have hok2 : qok tx i → ∀ k, k < i + 1 → qok tx k := fun h k hk => by
      rcases Nat.lt_or_ge k i with h1 | h1
      · exact hok k h1
      · rw [show k = i by omega]; exact h
    refine zg_iload_n (i := 3) dX2_errorPosition_6 rfl rfl ?_
    refine zg_aload_n (i := 0) dX2_errorPosition_7 rfl rfl ?_
    first | with_reducible refine zg_getIR dX2_errorPosition_8 flX2_40 (by decide) (by assumption) (by assumption) (by omega) ?_ | refine zg_getI dX2_errorPosition_8 flX2_40 (by decide) (by assumption) (by assumption) ?_
    refine zg_val htl ?_
    first | with_reducible refine zg_icmpN_ge (tgt := 70) dX2_errorPosition_11 (by decide) (by omega) (by omega) (fun c1 => ?_) (fun c1 => ?_) | refine zg_icmp_ge (tgt := 70) dX2_errorPosition_11 (by decide) (fun c1 => ?_) (fun c1 => ?_)
    · omega
    · refine zg_aload_n (i := 0) dX2_errorPosition_14 rfl rfl ?_
      refine zg_getR dX2_errorPosition_15 flX2_9 (by decide) (by assumption) (by assumption) (by assumption) ?_
      refine zg_iload_n (i := 3) dX2_errorPosition_18 rfl rfl ?_
      first | with_reducible refine zg_ialdR dX2_errorPosition_19 (by assumption) (by assumption) rfl (by omega) (by decide) ?_ | refine zg_iald dX2_errorPosition_19 (by assumption) (by assumption) rfl (by omega) (by decide) ?_
      refine zg_val (htx i (by omega)) ?_
      refine zg_istore (L2 := [_, _, _, _, _]) dX2_errorPosition_20 (by decide) rfl ?_
      refine zg_iload_n (i := 1) dX2_errorPosition_22 rfl rfl ?_
      refine zg_bipush (v := nI 6) dX2_errorPosition_23 (by decide) ?_
      first | with_reducible refine zg_icmpN_lt (tgt := 30) dX2_errorPosition_25 (by decide) (by omega) (by omega) (fun c2 => ?_) (fun c2 => ?_) | refine zg_icmp_lt (tgt := 30) dX2_errorPosition_25 (by decide) (fun c2 => ?_) (fun c2 => ?_)
      · refine zg_iload dX2_errorPosition_30 rfl ?_
        refine zg_bipush (v := nI 10) dX2_errorPosition_32 (by decide) ?_
        refine zg_icmp_ne (tgt := 45) dX2_errorPosition_34 (by decide) (fun c3 => ?_) (fun c3 => ?_)
        · refine zg_iload_n (i := 2) dX2_errorPosition_45 rfl rfl ?_
          refine zg_bipush (v := nI 12) dX2_errorPosition_46 (by decide) ?_
          first | with_reducible refine zg_icmpN_ge (tgt := 59) dX2_errorPosition_48 (by decide) (by omega) (by omega) (fun c4 => ?_) (fun c4 => ?_) | refine zg_icmp_ge (tgt := 59) dX2_errorPosition_48 (by decide) (fun c4 => ?_) (fun c4 => ?_)
          · refine zg_iload_n (i := 3) dX2_errorPosition_59 rfl rfl ?_
            refine zg_iret dX2_errorPosition_60 rfl (hx _ (Or.inl ⟨i, by omega, ?_, hok, rfl⟩))
            exact fun z => z.2.elim c3 (fun z => by have := z.2; omega)
          · refine zg_iload dX2_errorPosition_51 rfl ?_
            refine zg_callSi (cx_isCode S mu (tx i)) dX2_errorPosition_53 ctX2_isCode mlX2_74 rfl rfl (Nat.le_of_ble_eq_true rfl) ⟨by decide, by decide⟩ ⟨Nat.le_refl _, Nat.le_refl _⟩ (fun r mu2 h2 => ?_)
            obtain ⟨rfl, rfl⟩ := h2
            by_cases hc : nI 32 ≤ tx i ∧ tx i ≤ nI 126
            · rw [if_pos hc]
              have ihn := ih (i + 1) (some (.inl (tx i))) (by omega) (hok2 ⟨c2, Or.inr ⟨hc, by omega⟩⟩)
              rw [qrc, if_neg c3] at ihn
              first | with_reducible refine zg_ifN_ne (tgt := 61) dX2_errorPosition_56 (by decide) (by omega) (fun c5 => ?_) (fun c5 => ?_) | refine zg_if_ne (tgt := 61) dX2_errorPosition_56 (by decide) (fun c5 => ?_) (fun c5 => ?_)
              · refine zg_iinc1 (L2 := [_, _, _, _, _]) dX2_errorPosition_61 (by decide) rfl rfl ?_
                refine zg_iinc1 (L2 := [_, _, _, _, _]) dX2_errorPosition_64 (by decide) rfl rfl ?_
                refine zg_goto (tgt := 6) dX2_errorPosition_67 (by decide) ?_
                exact ihn
              · exact absurd c5 (by decide)
            · rw [if_neg hc]
              first | with_reducible refine zg_ifN_ne (tgt := 61) dX2_errorPosition_56 (by decide) (by omega) (fun c5 => ?_) (fun c5 => ?_) | refine zg_if_ne (tgt := 61) dX2_errorPosition_56 (by decide) (fun c5 => ?_) (fun c5 => ?_)
              · exact absurd rfl c5
              · refine zg_iload_n (i := 3) dX2_errorPosition_59 rfl rfl ?_
                refine zg_iret dX2_errorPosition_60 rfl (hx _ (Or.inl ⟨i, by omega, ?_, hok, rfl⟩))
                exact fun z => z.2.elim c3 (fun z => hc z.1)
        · have ihn := ih (i + 1) (some (.inl (tx i))) (by omega) (hok2 ⟨c2, Or.inl c3⟩)
          rw [qrc, if_pos c3] at ihn
          refine zg_iinc1 (L2 := [_, _, _, _, _]) dX2_errorPosition_37 (by decide) rfl rfl ?_
          refine zg_iconst (v := nI 0) dX2_errorPosition_40 (by decide) ?_
          refine zg_istore_n (i := 2) (L2 := [_, _, _, _, _]) dX2_errorPosition_41 rfl (by decide) rfl ?_
          refine zg_goto (tgt := 64) dX2_errorPosition_42 (by decide) ?_
          refine zg_iinc1 (L2 := [_, _, _, _, _]) dX2_errorPosition_64 (by decide) rfl rfl ?_
          refine zg_goto (tgt := 6) dX2_errorPosition_67 (by decide) ?_
          exact ihn
      · refine zg_iload_n (i := 3) dX2_errorPosition_28 rfl rfl ?_
        refine zg_iret dX2_errorPosition_29 rfl (hx _ (Or.inl ⟨i, by omega, ?_, hok, rfl⟩))
        exact fun z => c2 z.1
set_option maxRecDepth 20000 in
theorem cx_errorPosition {S : zS} {x : Nat} {pm : Nat → Nat} (hS : XS S x pm) (mu : zU) {tx : Nat → Int32} {tl : Nat} (htl : mu x 1 = nI tl) (h90 : tl ≤ 90) (htx : ∀ j, j < tl → mu (x + 1) j = tx j) : zM yX2_errorPosition cX2_errorPosition 5 (some .int) 1 0 0 [.inr (x + 1)] S mu (zPi S (fun r mu2 => mu2 = mu ∧ EP tx tl r)) := by
  refine zM.ofG (by decide +kernel) (Nat.le_of_ble_eq_true rfl) ?_
  refine zg_iconst (v := nI 0) dX2_errorPosition_0 (by decide) ?_
  refine zg_istore_n (i := 1) (L2 := [_, _, _, _, _]) dX2_errorPosition_1 rfl (by decide) rfl ?_
  refine zg_iconst (v := nI 0) dX2_errorPosition_2 (by decide) ?_
  refine zg_istore_n (i := 2) (L2 := [_, _, _, _, _]) dX2_errorPosition_3 rfl (by decide) rfl ?_
  refine zg_iconst (v := nI 0) dX2_errorPosition_4 (by decide) ?_
  refine zg_istore_n (i := 3) (L2 := [_, _, _, _, _]) dX2_errorPosition_5 rfl (by decide) rfl ?_
  exact lx_err6 hS mu htl h90 htx _ (fun r hr => ⟨_, rfl, rfl, rfl, hr⟩) tl 0 _ (by omega) (fun k hk => absurd hk (by omega))
set_option maxRecDepth 20000 in
theorem lx_rdp2 {S : zS} {x : Nat} {pm : Nat → Nat} (hS : XS S x pm) (mu : zU) {f : Nat → Int32} {l2 l3 l4 : Option zV} (Ph : Option zV → zS → zU → Prop) (hx : zG RX2 "readProgram" cX2_readProgram 5 none (zroom 1 0 0) 0 0 Ph 25 [some (.inr (x + 1)), some (.inl (nI 72)), l2, l3, l4] [] S (zrow mu (x + 3 + 1) (cpi f (fun _ => nI 32) 0 72)) 0 0) :
    ∀ (t i : Nat), i + t = 72 → zG RX2 "readProgram" cX2_readProgram 5 none (zroom 1 0 0) 0 0 Ph 2 [some (.inr (x + 1)), some (.inl (nI i)), l2, l3, l4] [] S (zrow mu (x + 3 + 1) (cpi f (fun _ => nI 32) 0 i)) 0 0 := by
  have hN0 : x < S.1 := hS.lt (i := 0) (by decide)
  have hNs : x + 3 < S.1 := hS.lt (by decide)
  have hNs1 : x + 3 + 1 < S.1 := hS.lt3 (by decide)
  have xk0 := hS.1.2.1
  have xr4 := hS.2.1.2.2.1
  obtain ⟨-, sk0, sk1, -, -, -, -, -, sr0, -⟩ := hS.2.2.1.1
  intro t
  induction t with
  | zero =>
    intro i hit
    obtain rfl : i = 72 := by omega
    refine zg_iload_n (i := 1) dX2_readProgram_2 rfl rfl ?_
    refine zg_bipush (v := nI 72) dX2_readProgram_3 (by decide) ?_
    first | with_reducible refine zg_icmpN_ge (tgt := 25) dX2_readProgram_5 (by decide) (by omega) (by omega) (fun c => ?_) (fun c => ?_) | refine zg_icmp_ge (tgt := 25) dX2_readProgram_5 (by decide) (fun c => ?_) (fun c => ?_)
    · exact hx
    · omega
  | succ t ih =>
    intro i hit
    have ihn := ih (i + 1) (by omega)
    rw [← cpi_z f (fun _ => nI 32) i] at ihn
    refine zg_iload_n (i := 1) dX2_readProgram_2 rfl rfl ?_
    refine zg_bipush (v := nI 72) dX2_readProgram_3 (by decide) ?_
    first | with_reducible refine zg_icmpN_ge (tgt := 25) dX2_readProgram_5 (by decide) (by omega) (by omega) (fun c => ?_) (fun c => ?_) | refine zg_icmp_ge (tgt := 25) dX2_readProgram_5 (by decide) (fun c => ?_) (fun c => ?_)
    · omega
    · refine zg_aload_n (i := 0) dX2_readProgram_8 rfl rfl ?_
      refine zg_getR dX2_readProgram_9 flX2_20 (by decide) (by assumption) (by assumption) (by assumption) ?_
      refine zg_getR dX2_readProgram_12 flX2_113 (by decide) (by assumption) (by assumption) (by assumption) ?_
      refine zg_iload_n (i := 1) dX2_readProgram_15 rfl rfl ?_
      refine zg_bipush (v := nI 32) dX2_readProgram_16 (by decide) ?_
      first | with_reducible refine zg_iastR dX2_readProgram_18 (by assumption) (by assumption) rfl (by omega) (by decide) ?_ | refine zg_iast dX2_readProgram_18 (by assumption) (by assumption) rfl (by omega) (by decide) ?_
      refine zg_iinc1 (L2 := [_, _, _, _, _]) dX2_readProgram_19 (by decide) rfl rfl ?_
      refine zg_goto (tgt := 2) dX2_readProgram_22 (by decide) ?_
      exact ihn
set_option maxRecDepth 20000 in
theorem lx_rdp31 {S : zS} {x : Nat} {pm : Nat → Nat} (hS : XS S x pm) (mu : zU) {f tx : Nat → Int32} {tl : Nat} (htl : mu x 1 = nI tl) (h90 : tl ≤ 90) (htx : ∀ j, j < tl → mu (x + 1) j = tx j) (hok : ∀ k, k < tl → qok tx k) (Ph : Option zV → zS → zU → Prop) (hx : Ph none S (zrow mu (x + 3 + 1) (qpr tx f tl))) :
    ∀ (t i : Nat) (l4 : Option zV), i + t = tl → zG RX2 "readProgram" cX2_readProgram 5 none (zroom 1 0 0) 0 0 Ph 31 [some (.inr (x + 1)), some (.inl (nI (qrc tx i).1)), some (.inl (nI (qrc tx i).2)), some (.inl (nI i)), l4] [] S (zrow mu (x + 3 + 1) (qpr tx f i)) 0 0 := by
  have hN0 : x < S.1 := hS.lt (i := 0) (by decide)
  have hN1 : x + 1 < S.1 := hS.lt (by decide)
  have hNs : x + 3 < S.1 := hS.lt (by decide)
  have hNs1 : x + 3 + 1 < S.1 := hS.lt3 (by decide)
  have xk0 := hS.1.2.1
  have xk1 := hS.1.2.2.1
  have xr0 := hS.2.1.1
  have xr4 := hS.2.1.2.2.1
  obtain ⟨-, sk0, sk1, -, -, -, -, -, sr0, -⟩ := hS.2.2.1.1
  intro t
  induction t with
  | zero =>
    intro i l4 hit
    obtain rfl : i = tl := by omega
    refine zg_iload_n (i := 3) dX2_readProgram_31 rfl rfl ?_
    refine zg_aload_n (i := 0) dX2_readProgram_32 rfl rfl ?_
    first | with_reducible refine zg_getIR dX2_readProgram_33 flX2_40 (by decide) (by assumption) (by assumption) (by omega) ?_ | refine zg_getI dX2_readProgram_33 flX2_40 (by decide) (by assumption) (by assumption) ?_
    refine zg_val (y := nI i) (by first | exact htl | (rw [zrow_n (by omega)]; exact htl)) ?_
    first | with_reducible refine zg_icmpN_ge (tgt := 95) dX2_readProgram_36 (by decide) (by omega) (by omega) (fun c => ?_) (fun c => ?_) | refine zg_icmp_ge (tgt := 95) dX2_readProgram_36 (by decide) (fun c => ?_) (fun c => ?_)
    · exact zg_vret dX2_readProgram_95 rfl hx
    · omega
  | succ t ih =>
    intro i l4 hit
    have ihn := ih (i + 1) (some (.inl (tx i))) (by omega)
    have hk := hok i (by omega)
    obtain ⟨hr1, hr2⟩ := qrc_le tx i
    refine zg_iload_n (i := 3) dX2_readProgram_31 rfl rfl ?_
    refine zg_aload_n (i := 0) dX2_readProgram_32 rfl rfl ?_
    first | with_reducible refine zg_getIR dX2_readProgram_33 flX2_40 (by decide) (by assumption) (by assumption) (by omega) ?_ | refine zg_getI dX2_readProgram_33 flX2_40 (by decide) (by assumption) (by assumption) ?_
    refine zg_val (y := nI tl) (by first | exact htl | (rw [zrow_n (by omega)]; exact htl)) ?_
    first | with_reducible refine zg_icmpN_ge (tgt := 95) dX2_readProgram_36 (by decide) (by omega) (by omega) (fun c => ?_) (fun c => ?_) | refine zg_icmp_ge (tgt := 95) dX2_readProgram_36 (by decide) (fun c => ?_) (fun c => ?_)
    · omega
    · refine zg_aload_n (i := 0) dX2_readProgram_39 rfl rfl ?_
      refine zg_getR dX2_readProgram_40 flX2_9 (by decide) (by assumption) (by assumption) (by assumption) ?_
      refine zg_iload_n (i := 3) dX2_readProgram_43 rfl rfl ?_
      first | with_reducible refine zg_ialdR dX2_readProgram_44 (by assumption) (by assumption) rfl (by omega) (by decide) ?_ | refine zg_iald dX2_readProgram_44 (by assumption) (by assumption) rfl (by omega) (by decide) ?_
      refine zg_val (y := tx i) (by rw [zrow_n (by omega)]; exact htx i (by omega)) ?_
      refine zg_istore (L2 := [_, _, _, _, _]) dX2_readProgram_45 (by decide) rfl ?_
      refine zg_iload dX2_readProgram_47 rfl ?_
      refine zg_bipush (v := nI 10) dX2_readProgram_49 (by decide) ?_
      refine zg_icmp_ne (tgt := 62) dX2_readProgram_51 (by decide) (fun c2 => ?_) (fun c2 => ?_)
      · rw [qrc, if_neg c2, qpr, if_neg c2] at ihn
        have hcol : (qrc tx i).1 < 6 ∧ (qrc tx i).2 < 12 := ⟨hk.1, hk.2.elim (fun z => absurd z c2) (fun z => z.2)⟩
        generalize hR : (qrc tx i).1 = Rw at ihn hr1 hcol
        generalize hC : (qrc tx i).2 = Cl at ihn hr2 hcol
        refine zg_iload_n (i := 2) dX2_readProgram_62 rfl rfl ?_
        refine zg_iload_n (i := 1) dX2_readProgram_63 rfl rfl ?_
        refine zg_callSi (cx_isCell S _ (nI Cl) (nI Rw)) dX2_readProgram_64 ctX2_isCell mlX2_70 rfl rfl (Nat.le_of_ble_eq_true rfl) ⟨by decide, by decide⟩ ⟨Nat.le_refl _, Nat.le_refl _⟩ (fun r mu2 h2 => ?_)
        obtain ⟨rfl, rfl⟩ := h2
        rw [if_pos (cellC hcol.2 hcol.1)]
        first | with_reducible refine zg_ifN_eq (tgt := 89) dX2_readProgram_67 (by decide) (by omega) (fun c3 => ?_) (fun c3 => ?_) | refine zg_if_eq (tgt := 89) dX2_readProgram_67 (by decide) (fun c3 => ?_) (fun c3 => ?_)
        · exact absurd c3 (by decide)
        · refine zg_aload_n (i := 0) dX2_readProgram_70 rfl rfl ?_
          refine zg_getR dX2_readProgram_71 flX2_20 (by decide) (by assumption) (by assumption) (by assumption) ?_
          refine zg_getR dX2_readProgram_74 flX2_113 (by decide) (by assumption) (by assumption) (by assumption) ?_
          refine zg_bipush (v := nI 12) dX2_readProgram_77 (by decide) ?_
          refine zg_iload_n (i := 1) dX2_readProgram_79 rfl rfl ?_
          first | with_reducible refine zg_imulN dX2_readProgram_80 ?_ | refine zg_imul dX2_readProgram_80 ?_
          refine zg_iload_n (i := 2) dX2_readProgram_81 rfl rfl ?_
          first | with_reducible refine zg_iaddN dX2_readProgram_82 ?_ | refine zg_iadd dX2_readProgram_82 ?_
          refine zg_iload dX2_readProgram_83 rfl ?_
          first | with_reducible refine zg_iastR dX2_readProgram_85 (by assumption) (by assumption) rfl (by omega) (by decide) ?_ | refine zg_iast dX2_readProgram_85 (by assumption) (by assumption) rfl (by omega) (by decide) ?_
          refine zg_iinc1 (L2 := [_, _, _, _, _]) dX2_readProgram_86 (by decide) rfl rfl ?_
          refine zg_iinc1 (L2 := [_, _, _, _, _]) dX2_readProgram_89 (by decide) rfl rfl ?_
          refine zg_goto (tgt := 31) dX2_readProgram_92 (by decide) ?_
          exact ihn
      · rw [qrc, if_pos c2, qpr, if_pos c2] at ihn
        refine zg_iinc1 (L2 := [_, _, _, _, _]) dX2_readProgram_54 (by decide) rfl rfl ?_
        refine zg_iconst (v := nI 0) dX2_readProgram_57 (by decide) ?_
        refine zg_istore_n (i := 2) (L2 := [_, _, _, _, _]) dX2_readProgram_58 rfl (by decide) rfl ?_
        refine zg_goto (tgt := 89) dX2_readProgram_59 (by decide) ?_
        refine zg_iinc1 (L2 := [_, _, _, _, _]) dX2_readProgram_89 (by decide) rfl rfl ?_
        refine zg_goto (tgt := 31) dX2_readProgram_92 (by decide) ?_
        exact ihn
set_option maxRecDepth 20000 in
theorem cx_readProgram {S : zS} {x : Nat} {pm : Nat → Nat} (hS : XS S x pm) (mu : zU) {tx : Nat → Int32} {tl : Nat} (htl : mu x 1 = nI tl) (h90 : tl ≤ 90) (htx : ∀ j, j < tl → mu (x + 1) j = tx j) (hok : ∀ k, k < tl → qok tx k) : zM yX2_readProgram cX2_readProgram 5 none 1 0 0 [.inr (x + 1)] S mu (zPv S (fun mu2 => mu2 = zrow mu (x + 3 + 1) (qpr tx (mu (x + 3 + 1)) tl))) := by
  refine zM.ofG (by decide +kernel) (Nat.le_of_ble_eq_true rfl) ?_
  refine zg_iconst (v := nI 0) dX2_readProgram_0 (by decide) ?_
  refine zg_istore_n (i := 1) (L2 := [_, _, _, _, _]) dX2_readProgram_1 rfl (by decide) rfl ?_
  refine zg_mu (mu2 := zrow mu (x + 3 + 1) (cpi (mu (x + 3 + 1)) (fun _ => nI 32) 0 0)) (by rw [cpi_0, zrow_self]) ?_
  refine lx_rdp2 hS mu _ ?_ 72 0 rfl
  refine zg_iconst (v := nI 0) dX2_readProgram_25 (by decide) ?_
  refine zg_istore_n (i := 1) (L2 := [_, _, _, _, _]) dX2_readProgram_26 rfl (by decide) rfl ?_
  refine zg_iconst (v := nI 0) dX2_readProgram_27 (by decide) ?_
  refine zg_istore_n (i := 2) (L2 := [_, _, _, _, _]) dX2_readProgram_28 rfl (by decide) rfl ?_
  refine zg_iconst (v := nI 0) dX2_readProgram_29 (by decide) ?_
  refine zg_istore_n (i := 3) (L2 := [_, _, _, _, _]) dX2_readProgram_30 rfl (by decide) rfl ?_
  exact lx_rdp31 hS mu htl h90 htx hok _ ⟨rfl, rfl, rfl⟩ tl 0 _ (by omega)
theorem qpr_lt {tx f g : Nat → Int32} {j : Nat} (hj : j < 72) : ∀ n, qpr tx f n j = qpr tx g n j
  | 0 => by rw [qpr, qpr, cpi_in (by omega) (by omega), cpi_in (by omega) (by omega)]
  | n + 1 => by
    rw [qpr, qpr]
    split
    · exact qpr_lt hj n
    · by_cases h : j = 12 * (qrc tx n).1 + (qrc tx n).2
      · rw [h, upd_s, upd_s]
      · rw [upd_n h, upd_n h]; exact qpr_lt hj n
theorem qpr_ge {tx v : Nat → Int32} {j : Nat} (hj : 72 ≤ j) : ∀ n, (∀ k, k < n → qok tx k) → qpr tx v n j = v j
  | 0, _ => by rw [qpr, cpi_out (by omega)]
  | n + 1, h => by
    rw [qpr]
    split
    · exact qpr_ge hj n (fun k hk => h k (by omega))
    · next c =>
      obtain ⟨h1, h2⟩ := h n (by omega)
      have h3 := h2.elim (fun z => absurd z c) (fun z => z.2)
      rw [upd_n (by omega)]
      exact qpr_ge hj n (fun k hk => h k (by omega))
theorem qfill_upd {f : Nat → Int32} {j : Nat} {y : Int32} : ∀ n, j < n → qfill (upd f j y) n + (if f j = nI 32 then 0 else 1) = qfill f n + (if y = nI 32 then 0 else 1)
  | 0, h => absurd h (by omega)
  | n + 1, h => by
    rw [qfill, qfill]
    by_cases hj : j = n
    · subst hj
      rw [upd_s, qfill_cg (g := f) j (fun i hi => upd_n (by omega))]
      omega
    · rw [upd_n (by omega)]
      have := qfill_upd (f := f) (j := j) (y := y) n (by omega)
      omega
theorem qfill_32 {f : Nat → Int32} : ∀ n, (∀ j, j < n → f j = nI 32) → qfill f n = 0
  | 0, _ => rfl
  | n + 1, h => by rw [qfill, qfill_32 n (fun j hj => h j (by omega)), if_pos (h n (by omega))]
theorem qpr_fill {tx v : Nat → Int32} : ∀ n, (∀ k, k < n → qok tx k) → (qrc tx n).2 ≤ 12 ∧ (∀ j, 12 * (qrc tx n).1 + (qrc tx n).2 ≤ j → j < 72 → qpr tx v n j = nI 32) ∧ qfill (qpr tx v n) 72 = qmny tx n
  | 0, _ => ⟨by show 0 ≤ 12; omega, fun j _ b => by rw [qpr, cpi_in (by omega) (by omega)], qfill_32 72 (fun j hj => by rw [qpr, cpi_in (by omega) (by omega)])⟩
  | n + 1, h => by
    obtain ⟨a1, a2, a3⟩ := qpr_fill (v := v) n (fun k hk => h k (by omega))
    obtain ⟨h1, h2⟩ := h n (by omega)
    by_cases c : tx n = nI 10
    · rw [qrc, if_pos c, qpr, if_pos c, qmny, if_pos c]
      refine ⟨by show 0 ≤ 12; omega, fun j a b => a2 j ?_ b, a3⟩
      have a' : 12 * ((qrc tx n).1 + 1) + 0 ≤ j := a
      omega
    · have h3 := h2.elim (fun z => absurd z c) (fun z => z.2)
      rw [qrc, if_neg c, qpr, if_neg c, qmny, if_neg c]
      refine ⟨by show (qrc tx n).2 + 1 ≤ 12; omega, fun j a b => ?_, ?_⟩
      · have a' : 12 * (qrc tx n).1 + ((qrc tx n).2 + 1) ≤ j := a
        rw [upd_n (by omega)]
        exact a2 j (by omega) b
      · have hu := qfill_upd (f := qpr tx v n) (j := 12 * (qrc tx n).1 + (qrc tx n).2) (y := tx n) 72 (by omega)
        rw [if_pos (a2 _ (by omega) (by omega)), a3] at hu
        omega
theorem qload_eq {tx v : Nat → Int32} {tl : Nat} : qbegin (cpi (qpr tx v tl) (fun _ => nI 0) 250 17) = qload tx tl v := by
  funext j
  rw [qload]
  by_cases h1 : 250 ≤ j ∧ j < 250 + 17
  · rw [cpi_in h1.1 h1.2, qbegin, if_neg (by omega), if_neg (by omega), if_neg (by omega), cpi_in h1.1 h1.2]
  · rw [cpi_out (a := 250) (i := 17) (f := qbegin (qpr tx v tl)) (by omega), qbegin, qbegin, cpi_out (a := 250) (i := 17) (j := j) (by omega)]
    by_cases h2 : 72 ≤ j ∧ j < 144
    · rw [if_pos h2, if_pos h2, cpi_out (by omega)]
    · rw [if_neg h2, if_neg h2]
