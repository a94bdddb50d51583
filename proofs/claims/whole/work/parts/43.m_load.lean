/-! THE REFERENCE: errorPosition, load -/
def qrc (tx : Nat → Int32) : Nat → Nat × Nat
  | 0 => (0, 0)
  | n + 1 => if tx n = nI 10 then ((qrc tx n).1 + 1, 0) else ((qrc tx n).1, (qrc tx n).2 + 1)
theorem qrc_le (tx : Nat → Int32) : ∀ n, (qrc tx n).1 ≤ n ∧ (qrc tx n).2 ≤ n
  | 0 => ⟨Nat.le_refl 0, Nat.le_refl 0⟩
  | n + 1 => by
    have := qrc_le tx n
    rw [qrc]
    split
    · exact ⟨by show (qrc tx n).1 + 1 ≤ n + 1; omega, by show 0 ≤ n + 1; omega⟩
    · exact ⟨by show (qrc tx n).1 ≤ n + 1; omega, by show (qrc tx n).2 + 1 ≤ n + 1; omega⟩
def qok (tx : Nat → Int32) (i : Nat) : Prop := (qrc tx i).1 < 6 ∧ (tx i = nI 10 ∨ ((nI 32 ≤ tx i ∧ tx i ≤ nI 126) ∧ (qrc tx i).2 < 12))
def EP (tx : Nat → Int32) (tl : Nat) (r : Int32) : Prop := (∃ i, i < tl ∧ ¬ qok tx i ∧ (∀ k, k < i → qok tx k) ∧ r = nI i) ∨ ((∀ k, k < tl → qok tx k) ∧ r = -9)
theorem EP_one {tx : Nat → Int32} {tl : Nat} {r s : Int32} (h1 : EP tx tl r) (h2 : EP tx tl s) : r = s := by
  rcases h1 with ⟨i, a1, a2, a3, rfl⟩ | ⟨a1, rfl⟩ <;> rcases h2 with ⟨k, b1, b2, b3, rfl⟩ | ⟨b1, rfl⟩
  · rcases Nat.lt_trichotomy i k with h | h | h
    · exact absurd (b3 i h) a2
    · rw [h]
    · exact absurd (a3 k h) b2
  · exact absurd (b1 i a1) a2
  · exact absurd (a1 k b1) b2
  · rfl
set_option maxRecDepth 20000 in
theorem lm_err6 {S : zS} {m : Nat} (hS : MS S m) (mu : zU) {tx : Nat → Int32} {tl : Nat} (htl : mu m 10 = nI tl) (h90 : tl ≤ 90) (htx : ∀ j, j < tl → mu (m + 9) j = tx j) (Ph : Option zV → zS → zU → Prop) (hx : ∀ r, EP tx tl r → Ph (some (.inl r)) S mu) :
    ∀ (t i : Nat) (l4 l5 : Option zV), i + t = tl → (∀ k, k < i → qok tx k) → zG RX3 "errorPosition" cX3_errorPosition 6 (some .int) (zroom 1 0 0) 0 0 Ph 6 [some (.inr (m + 1)), some (.inl (nI (qrc tx i).1)), some (.inl (nI (qrc tx i).2)), some (.inl (nI i)), l4, l5] [] S (mu) 0 0 := by
  have hN0 : m < S.1 := hS.lt (i := 0) (by decide)
  have hN9 : m + 9 < S.1 := hS.lt (by decide)
  obtain ⟨⟨-, k0, -, -, -, -, -, -, -, -, k9, -⟩, -, -, -, -, -, -, -, -, r9, -⟩ := id hS
  intro t
  induction t with
  | zero =>
    intro i l4 l5 hit hok
    refine zg_iload_n (i := 3) dX3_errorPosition_6 rfl rfl ?_
    refine zg_aload_n (i := 0) dX3_errorPosition_7 rfl rfl ?_
    first | with_reducible refine zg_getIR dX3_errorPosition_8 flX3_52 (by decide) (by assumption) (by assumption) (by omega) ?_ | refine zg_getI dX3_errorPosition_8 flX3_52 (by decide) (by assumption) (by assumption) ?_
    refine zg_val htl ?_
    first | with_reducible refine zg_icmpN_ge (tgt := 111) dX3_errorPosition_11 (by decide) (by omega) (by omega) (fun c1 => ?_) (fun c1 => ?_) | refine zg_icmp_ge (tgt := 111) dX3_errorPosition_11 (by decide) (fun c1 => ?_) (fun c1 => ?_)
    · refine zg_bipush (v := -9) dX3_errorPosition_111 (by decide) ?_
      exact zg_iret dX3_errorPosition_113 rfl (hx _ (Or.inr ⟨fun k hk => hok k (by omega), rfl⟩))
    · omega
  | succ t ih =>
    intro i l4 l5 hit hok
    obtain ⟨hr1, hr2⟩ := qrc_le tx i
    generalize hR : (qrc tx i).1 = R at hr1
    generalize hC : (qrc tx i).2 = C at hr2
    have hbad : ∀ l4, ¬ qok tx i → zG RX3 "errorPosition" cX3_errorPosition 6 (some .int) (zroom 1 0 0) 0 0 Ph 69 [some (.inr (m + 1)), some (.inl (nI R)), some (.inl (nI C)), some (.inl (nI i)), l4, l5] [] S mu 0 0 := by
      intro l4 hb
      refine zg_iconst (v := nI 0) dX3_errorPosition_69 (by decide) ?_
      refine zg_istore (L2 := [_, _, _, _, _, _]) dX3_errorPosition_70 (by decide) rfl ?_
      refine zg_iload dX3_errorPosition_72 rfl ?_
      first | with_reducible refine zg_ifN_ne (tgt := 79) dX3_errorPosition_74 (by decide) (by omega) (fun c => ?_) (fun c => ?_) | refine zg_if_ne (tgt := 79) dX3_errorPosition_74 (by decide) (fun c => ?_) (fun c => ?_)
      · exact absurd rfl c
      · refine zg_iload_n (i := 3) dX3_errorPosition_77 rfl rfl ?_
        exact zg_iret dX3_errorPosition_78 rfl (hx _ (Or.inl ⟨i, by omega, hb, hok, rfl⟩))
    have hok2 : qok tx i → ∀ k, k < i + 1 → qok tx k := fun h k hk => by
      rcases Nat.lt_or_ge k i with h1 | h1
      · exact hok k h1
      · rw [show k = i by omega]; exact h
    refine zg_iload_n (i := 3) dX3_errorPosition_6 rfl rfl ?_
    refine zg_aload_n (i := 0) dX3_errorPosition_7 rfl rfl ?_
    first | with_reducible refine zg_getIR dX3_errorPosition_8 flX3_52 (by decide) (by assumption) (by assumption) (by omega) ?_ | refine zg_getI dX3_errorPosition_8 flX3_52 (by decide) (by assumption) (by assumption) ?_
    refine zg_val htl ?_
    first | with_reducible refine zg_icmpN_ge (tgt := 111) dX3_errorPosition_11 (by decide) (by omega) (by omega) (fun c1 => ?_) (fun c1 => ?_) | refine zg_icmp_ge (tgt := 111) dX3_errorPosition_11 (by decide) (fun c1 => ?_) (fun c1 => ?_)
    · omega
    · refine zg_aload_n (i := 0) dX3_errorPosition_14 rfl rfl ?_
      refine zg_getR dX3_errorPosition_15 flX3_35 (by decide) (by assumption) (by assumption) (by assumption) ?_
      refine zg_iload_n (i := 3) dX3_errorPosition_18 rfl rfl ?_
      first | with_reducible refine zg_ialdR dX3_errorPosition_19 (by assumption) (by assumption) rfl (by omega) (by decide) ?_ | refine zg_iald dX3_errorPosition_19 (by assumption) (by assumption) rfl (by omega) (by decide) ?_
      refine zg_val (htx i (by omega)) ?_
      refine zg_bipush (v := nI 10) dX3_errorPosition_20 (by decide) ?_
      refine zg_icmp_ne (tgt := 29) dX3_errorPosition_22 (by decide) (fun c2 => ?_) (fun c2 => ?_)
      · have hgood : qok tx i → zG RX3 "errorPosition" cX3_errorPosition 6 (some .int) (zroom 1 0 0) 0 0 Ph 65 [some (.inr (m + 1)), some (.inl (nI R)), some (.inl (nI C)), some (.inl (nI i)), some (.inl (nI 0)), l5] [] S mu 0 0 := by
          intro hb
          have ihn := ih (i + 1) (some (.inl (nI 0))) (some (.inl (nI 1))) (by omega) (hok2 hb)
          rw [qrc, if_neg c2, hR, hC] at ihn
          refine zg_iconst (v := nI 1) dX3_errorPosition_65 (by decide) ?_
          refine zg_goto (tgt := 70) dX3_errorPosition_66 (by decide) ?_
          refine zg_istore (L2 := [_, _, _, _, _, _]) dX3_errorPosition_70 (by decide) rfl ?_
          refine zg_iload dX3_errorPosition_72 rfl ?_
          first | with_reducible refine zg_ifN_ne (tgt := 79) dX3_errorPosition_74 (by decide) (by omega) (fun c => ?_) (fun c => ?_) | refine zg_if_ne (tgt := 79) dX3_errorPosition_74 (by decide) (fun c => ?_) (fun c => ?_)
          · refine zg_iload_n (i := 1) dX3_errorPosition_79 rfl rfl ?_
            refine zg_iload dX3_errorPosition_80 rfl ?_
            first | with_reducible refine zg_ifN_eq (tgt := 89) dX3_errorPosition_82 (by decide) (by omega) (fun c3 => ?_) (fun c3 => ?_) | refine zg_if_eq (tgt := 89) dX3_errorPosition_82 (by decide) (fun c3 => ?_) (fun c3 => ?_)
            · refine zg_iconst (v := nI 0) dX3_errorPosition_89 (by decide) ?_
              first | with_reducible refine zg_iaddN dX3_errorPosition_90 ?_ | refine zg_iadd dX3_errorPosition_90 ?_
              refine zg_istore_n (i := 1) (L2 := [_, _, _, _, _, _]) dX3_errorPosition_91 rfl (by decide) rfl ?_
              refine zg_iload dX3_errorPosition_92 rfl ?_
              first | with_reducible refine zg_ifN_eq (tgt := 101) dX3_errorPosition_94 (by decide) (by omega) (fun c4 => ?_) (fun c4 => ?_) | refine zg_if_eq (tgt := 101) dX3_errorPosition_94 (by decide) (fun c4 => ?_) (fun c4 => ?_)
              · refine zg_iload_n (i := 2) dX3_errorPosition_101 rfl rfl ?_
                refine zg_iconst (v := nI 1) dX3_errorPosition_102 (by decide) ?_
                first | with_reducible refine zg_iaddN dX3_errorPosition_103 ?_ | refine zg_iadd dX3_errorPosition_103 ?_
                refine zg_istore_n (i := 2) (L2 := [_, _, _, _, _, _]) dX3_errorPosition_104 rfl (by decide) rfl ?_
                refine zg_iinc1 (L2 := [_, _, _, _, _, _]) dX3_errorPosition_105 (by decide) rfl rfl ?_
                refine zg_goto (tgt := 6) dX3_errorPosition_108 (by decide) ?_
                exact ihn
              · exact absurd rfl c4
            · exact absurd rfl c3
          · exact absurd c (by decide)
        refine zg_iconst (v := nI 0) dX3_errorPosition_29 (by decide) ?_
        refine zg_istore (L2 := [_, _, _, _, _, _]) dX3_errorPosition_30 (by decide) rfl ?_
        refine zg_iload_n (i := 1) dX3_errorPosition_32 rfl rfl ?_
        refine zg_bipush (v := nI 6) dX3_errorPosition_33 (by decide) ?_
        first | with_reducible refine zg_icmpN_ge (tgt := 69) dX3_errorPosition_35 (by decide) (by omega) (by omega) (fun c3 => ?_) (fun c3 => ?_) | refine zg_icmp_ge (tgt := 69) dX3_errorPosition_35 (by decide) (fun c3 => ?_) (fun c3 => ?_)
        · exact hbad _ (fun z => by have := z.1; omega)
        · refine zg_iload dX3_errorPosition_38 rfl ?_
          first | with_reducible refine zg_ifN_ne (tgt := 65) dX3_errorPosition_40 (by decide) (by omega) (fun c4 => ?_) (fun c4 => ?_) | refine zg_if_ne (tgt := 65) dX3_errorPosition_40 (by decide) (fun c4 => ?_) (fun c4 => ?_)
          · exact absurd rfl c4
          · refine zg_aload_n (i := 0) dX3_errorPosition_43 rfl rfl ?_
            refine zg_getR dX3_errorPosition_44 flX3_35 (by decide) (by assumption) (by assumption) (by assumption) ?_
            refine zg_iload_n (i := 3) dX3_errorPosition_47 rfl rfl ?_
            first | with_reducible refine zg_ialdR dX3_errorPosition_48 (by assumption) (by assumption) rfl (by omega) (by decide) ?_ | refine zg_iald dX3_errorPosition_48 (by assumption) (by assumption) rfl (by omega) (by decide) ?_
            refine zg_val (htx i (by omega)) ?_
            refine zg_bipush (v := nI 32) dX3_errorPosition_49 (by decide) ?_
            refine zg_bipush (v := nI 126) dX3_errorPosition_51 (by decide) ?_
            refine zg_callSi (cm_in S mu (tx i) (nI 32) (nI 126)) dX3_errorPosition_53 ctX3_in mlX3_44 rfl rfl (Nat.le_of_ble_eq_true rfl) ⟨by decide, by decide⟩ ⟨Nat.le_refl _, Nat.le_refl _⟩ (fun r mu2 h2 => ?_)
            obtain ⟨rfl, rfl⟩ := h2
            by_cases hc : nI 32 ≤ tx i ∧ tx i ≤ nI 126
            · rw [if_pos hc]
              first | with_reducible refine zg_ifN_eq (tgt := 69) dX3_errorPosition_56 (by decide) (by omega) (fun c5 => ?_) (fun c5 => ?_) | refine zg_if_eq (tgt := 69) dX3_errorPosition_56 (by decide) (fun c5 => ?_) (fun c5 => ?_)
              · exact absurd c5 (by decide)
              · refine zg_iload_n (i := 2) dX3_errorPosition_59 rfl rfl ?_
                refine zg_bipush (v := nI 12) dX3_errorPosition_60 (by decide) ?_
                first | with_reducible refine zg_icmpN_ge (tgt := 69) dX3_errorPosition_62 (by decide) (by omega) (by omega) (fun c6 => ?_) (fun c6 => ?_) | refine zg_icmp_ge (tgt := 69) dX3_errorPosition_62 (by decide) (fun c6 => ?_) (fun c6 => ?_)
                · exact hbad _ (fun z => z.2.elim c2 (fun z => by have := z.2; omega))
                · exact hgood ⟨by omega, Or.inr ⟨hc, by omega⟩⟩
            · rw [if_neg hc]
              first | with_reducible refine zg_ifN_eq (tgt := 69) dX3_errorPosition_56 (by decide) (by omega) (fun c5 => ?_) (fun c5 => ?_) | refine zg_if_eq (tgt := 69) dX3_errorPosition_56 (by decide) (fun c5 => ?_) (fun c5 => ?_)
              · exact hbad _ (fun z => z.2.elim c2 (fun z => hc z.1))
              · exact absurd rfl c5
      · have hgood : qok tx i → zG RX3 "errorPosition" cX3_errorPosition 6 (some .int) (zroom 1 0 0) 0 0 Ph 65 [some (.inr (m + 1)), some (.inl (nI R)), some (.inl (nI C)), some (.inl (nI i)), some (.inl (nI 1)), l5] [] S mu 0 0 := by
          intro hb
          have ihn := ih (i + 1) (some (.inl (nI 1))) (some (.inl (nI 1))) (by omega) (hok2 hb)
          rw [qrc, if_pos c2, hR] at ihn
          refine zg_iconst (v := nI 1) dX3_errorPosition_65 (by decide) ?_
          refine zg_goto (tgt := 70) dX3_errorPosition_66 (by decide) ?_
          refine zg_istore (L2 := [_, _, _, _, _, _]) dX3_errorPosition_70 (by decide) rfl ?_
          refine zg_iload dX3_errorPosition_72 rfl ?_
          first | with_reducible refine zg_ifN_ne (tgt := 79) dX3_errorPosition_74 (by decide) (by omega) (fun c => ?_) (fun c => ?_) | refine zg_if_ne (tgt := 79) dX3_errorPosition_74 (by decide) (fun c => ?_) (fun c => ?_)
          · refine zg_iload_n (i := 1) dX3_errorPosition_79 rfl rfl ?_
            refine zg_iload dX3_errorPosition_80 rfl ?_
            first | with_reducible refine zg_ifN_eq (tgt := 89) dX3_errorPosition_82 (by decide) (by omega) (fun c3 => ?_) (fun c3 => ?_) | refine zg_if_eq (tgt := 89) dX3_errorPosition_82 (by decide) (fun c3 => ?_) (fun c3 => ?_)
            · exact absurd c3 (by decide)
            · refine zg_iconst (v := nI 1) dX3_errorPosition_85 (by decide) ?_
              refine zg_goto (tgt := 90) dX3_errorPosition_86 (by decide) ?_
              first | with_reducible refine zg_iaddN dX3_errorPosition_90 ?_ | refine zg_iadd dX3_errorPosition_90 ?_
              refine zg_istore_n (i := 1) (L2 := [_, _, _, _, _, _]) dX3_errorPosition_91 rfl (by decide) rfl ?_
              refine zg_iload dX3_errorPosition_92 rfl ?_
              first | with_reducible refine zg_ifN_eq (tgt := 101) dX3_errorPosition_94 (by decide) (by omega) (fun c4 => ?_) (fun c4 => ?_) | refine zg_if_eq (tgt := 101) dX3_errorPosition_94 (by decide) (fun c4 => ?_) (fun c4 => ?_)
              · exact absurd c4 (by decide)
              · refine zg_iconst (v := nI 0) dX3_errorPosition_97 (by decide) ?_
                refine zg_goto (tgt := 104) dX3_errorPosition_98 (by decide) ?_
                refine zg_istore_n (i := 2) (L2 := [_, _, _, _, _, _]) dX3_errorPosition_104 rfl (by decide) rfl ?_
                refine zg_iinc1 (L2 := [_, _, _, _, _, _]) dX3_errorPosition_105 (by decide) rfl rfl ?_
                refine zg_goto (tgt := 6) dX3_errorPosition_108 (by decide) ?_
                exact ihn
          · exact absurd c (by decide)
        refine zg_iconst (v := nI 1) dX3_errorPosition_25 (by decide) ?_
        refine zg_goto (tgt := 30) dX3_errorPosition_26 (by decide) ?_
        refine zg_istore (L2 := [_, _, _, _, _, _]) dX3_errorPosition_30 (by decide) rfl ?_
        refine zg_iload_n (i := 1) dX3_errorPosition_32 rfl rfl ?_
        refine zg_bipush (v := nI 6) dX3_errorPosition_33 (by decide) ?_
        first | with_reducible refine zg_icmpN_ge (tgt := 69) dX3_errorPosition_35 (by decide) (by omega) (by omega) (fun c3 => ?_) (fun c3 => ?_) | refine zg_icmp_ge (tgt := 69) dX3_errorPosition_35 (by decide) (fun c3 => ?_) (fun c3 => ?_)
        · exact hbad _ (fun z => by have := z.1; omega)
        · refine zg_iload dX3_errorPosition_38 rfl ?_
          first | with_reducible refine zg_ifN_ne (tgt := 65) dX3_errorPosition_40 (by decide) (by omega) (fun c4 => ?_) (fun c4 => ?_) | refine zg_if_ne (tgt := 65) dX3_errorPosition_40 (by decide) (fun c4 => ?_) (fun c4 => ?_)
          · exact hgood ⟨by omega, Or.inl c2⟩
          · exact absurd c4 (by decide)
set_option maxRecDepth 20000 in
theorem cm_errorPosition {S : zS} {m : Nat} (hS : MS S m) (mu : zU) {tx : Nat → Int32} {tl : Nat} (htl : mu m 10 = nI tl) (h90 : tl ≤ 90) (htx : ∀ j, j < tl → mu (m + 9) j = tx j) : zM yX3_errorPosition cX3_errorPosition 6 (some .int) 1 0 0 [.inr (m + 1)] S mu (zPi S (fun r mu2 => mu2 = mu ∧ EP tx tl r)) := by
  refine zM.ofG (by decide +kernel) (Nat.le_of_ble_eq_true rfl) ?_
  refine zg_iconst (v := nI 0) dX3_errorPosition_0 (by decide) ?_
  refine zg_istore_n (i := 1) (L2 := [_, _, _, _, _, _]) dX3_errorPosition_1 rfl (by decide) rfl ?_
  refine zg_iconst (v := nI 0) dX3_errorPosition_2 (by decide) ?_
  refine zg_istore_n (i := 2) (L2 := [_, _, _, _, _, _]) dX3_errorPosition_3 rfl (by decide) rfl ?_
  refine zg_iconst (v := nI 0) dX3_errorPosition_4 (by decide) ?_
  refine zg_istore_n (i := 3) (L2 := [_, _, _, _, _, _]) dX3_errorPosition_5 rfl (by decide) rfl ?_
  exact lm_err6 hS mu htl h90 htx _ (fun r hr => ⟨_, rfl, rfl, rfl, hr⟩) tl 0 _ _ (by omega) (fun k hk => absurd hk (by omega))
def qpr (tx v : Nat → Int32) : Nat → Nat → Int32
  | 0 => cpi v (fun _ => nI 32) 0 72
  | n + 1 => if tx n = nI 10 then qpr tx v n else upd (qpr tx v n) (12 * (qrc tx n).1 + (qrc tx n).2) (tx n)
def qmny (tx : Nat → Int32) : Nat → Nat
  | 0 => 0
  | n + 1 => if tx n = nI 10 then qmny tx n else qmny tx n + (if tx n = nI 32 then 0 else 1)
theorem qmny_le (tx : Nat → Int32) : ∀ n, qmny tx n ≤ n
  | 0 => Nat.le_refl 0
  | n + 1 => by
    have := qmny_le tx n
    rw [qmny]
    split
    · omega
    · split <;> omega
def qload (tx : Nat → Int32) (tl : Nat) (v : Nat → Int32) : Nat → Int32 := cpi (qbegin (qpr tx v tl)) (fun _ => nI 0) 250 17
set_option maxRecDepth 20000 in
theorem lm_load22 {S : zS} {m : Nat} (hS : MS S m) (mu : zU) {f : Nat → Int32} {l1 l3 l4 l5 : Option zV} (Ph : Option zV → zS → zU → Prop) (hx : zG RX3 "load" cX3_load 6 (some .int) (zroom 2 0 0) 0 0 Ph 42 [some (.inr (m + 1)), l1, some (.inl (nI 72)), l3, l4, l5] [] S (zrow mu (m + 1) (cpi f (fun _ => nI 32) 0 72)) 0 0) :
    ∀ (t i : Nat), i + t = 72 → zG RX3 "load" cX3_load 6 (some .int) (zroom 2 0 0) 0 0 Ph 22 [some (.inr (m + 1)), l1, some (.inl (nI i)), l3, l4, l5] [] S (zrow mu (m + 1) (cpi f (fun _ => nI 32) 0 i)) 0 0 := by
  have hN0 : m < S.1 := hS.lt (i := 0) (by decide)
  have hN1 : m + 1 < S.1 := hS.lt (by decide)
  obtain ⟨⟨-, k0, k1, -⟩, r0, -⟩ := id hS
  intro t
  induction t with
  | zero =>
    intro i hit
    obtain rfl : i = 72 := by omega
    refine zg_iload_n (i := 2) dX3_load_22 rfl rfl ?_
    refine zg_bipush (v := nI 72) dX3_load_23 (by decide) ?_
    first | with_reducible refine zg_icmpN_ge (tgt := 42) dX3_load_25 (by decide) (by omega) (by omega) (fun c => ?_) (fun c => ?_) | refine zg_icmp_ge (tgt := 42) dX3_load_25 (by decide) (fun c => ?_) (fun c => ?_)
    · exact hx
    · omega
  | succ t ih =>
    intro i hit
    have ihn := ih (i + 1) (by omega)
    rw [← cpi_z f (fun _ => nI 32) i] at ihn
    refine zg_iload_n (i := 2) dX3_load_22 rfl rfl ?_
    refine zg_bipush (v := nI 72) dX3_load_23 (by decide) ?_
    first | with_reducible refine zg_icmpN_ge (tgt := 42) dX3_load_25 (by decide) (by omega) (by omega) (fun c => ?_) (fun c => ?_) | refine zg_icmp_ge (tgt := 42) dX3_load_25 (by decide) (fun c => ?_) (fun c => ?_)
    · omega
    · refine zg_aload_n (i := 0) dX3_load_28 rfl rfl ?_
      refine zg_getR dX3_load_29 flX3_7 (by decide) (by assumption) (by assumption) (by assumption) ?_
      refine zg_iload_n (i := 2) dX3_load_32 rfl rfl ?_
      refine zg_bipush (v := nI 32) dX3_load_33 (by decide) ?_
      first | with_reducible refine zg_iastR dX3_load_35 (by assumption) (by assumption) rfl (by omega) (by decide) ?_ | refine zg_iast dX3_load_35 (by assumption) (by assumption) rfl (by omega) (by decide) ?_
      refine zg_iinc1 (L2 := [_, _, _, _, _, _]) dX3_load_36 (by decide) rfl rfl ?_
      refine zg_goto (tgt := 22) dX3_load_39 (by decide) ?_
      exact ihn
set_option maxRecDepth 20000 in
theorem lm_load139 {S : zS} {m : Nat} (hS : MS S m) (mu : zU) {f : Nat → Int32} {l1 l2 l3 l4 : Option zV} (Ph : Option zV → zS → zU → Prop) (hx : zG RX3 "load" cX3_load 6 (some .int) (zroom 2 0 0) 0 0 Ph 161 [some (.inr (m + 1)), l1, l2, l3, l4, some (.inl (nI 267))] [] S (zrow mu (m + 1) (cpi f (fun _ => nI 0) 250 17)) 0 0) :
    ∀ (t i : Nat), i + t = 17 → zG RX3 "load" cX3_load 6 (some .int) (zroom 2 0 0) 0 0 Ph 139 [some (.inr (m + 1)), l1, l2, l3, l4, some (.inl (nI (250 + i)))] [] S (zrow mu (m + 1) (cpi f (fun _ => nI 0) 250 i)) 0 0 := by
  have hN0 : m < S.1 := hS.lt (i := 0) (by decide)
  have hN1 : m + 1 < S.1 := hS.lt (by decide)
  obtain ⟨⟨-, k0, k1, -⟩, r0, -⟩ := id hS
  intro t
  induction t with
  | zero =>
    intro i hit
    obtain rfl : i = 17 := by omega
    refine zg_iload dX3_load_139 rfl ?_
    refine zg_sipush (v := nI 267) dX3_load_141 (by decide) ?_
    first | with_reducible refine zg_icmpN_ge (tgt := 161) dX3_load_144 (by decide) (by omega) (by omega) (fun c => ?_) (fun c => ?_) | refine zg_icmp_ge (tgt := 161) dX3_load_144 (by decide) (fun c => ?_) (fun c => ?_)
    · exact hx
    · omega
  | succ t ih =>
    intro i hit
    have ihn := ih (i + 1) (by omega)
    rw [← cpi_1 f (fun _ => nI 0) 250 i] at ihn
    refine zg_iload dX3_load_139 rfl ?_
    refine zg_sipush (v := nI 267) dX3_load_141 (by decide) ?_
    first | with_reducible refine zg_icmpN_ge (tgt := 161) dX3_load_144 (by decide) (by omega) (by omega) (fun c => ?_) (fun c => ?_) | refine zg_icmp_ge (tgt := 161) dX3_load_144 (by decide) (fun c => ?_) (fun c => ?_)
    · omega
    · refine zg_aload_n (i := 0) dX3_load_147 rfl rfl ?_
      refine zg_getR dX3_load_148 flX3_7 (by decide) (by assumption) (by assumption) (by assumption) ?_
      refine zg_iload dX3_load_151 rfl ?_
      refine zg_iconst (v := nI 0) dX3_load_153 (by decide) ?_
      first | with_reducible refine zg_iastR dX3_load_154 (by assumption) (by assumption) rfl (by omega) (by decide) ?_ | refine zg_iast dX3_load_154 (by assumption) (by assumption) rfl (by omega) (by decide) ?_
      refine zg_iinc1 (L2 := [_, _, _, _, _, _]) dX3_load_155 (by decide) rfl rfl ?_
      refine zg_goto (tgt := 139) dX3_load_158 (by decide) ?_
      exact ihn
set_option maxRecDepth 20000 in
theorem lm_load52 {S : zS} {m : Nat} (hS : MS S m) (mu : zU) {v tx : Nat → Int32} {tl : Nat} {l1 : Option zV} (htl : mu m 10 = nI tl) (h90 : tl ≤ 90) (htx : ∀ j, j < tl → mu (m + 9) j = tx j) (hok : ∀ k, k < tl → qok tx k) (Ph : Option zV → zS → zU → Prop) (hx : ∀ l2 l3, zG RX3 "load" cX3_load 6 (some .int) (zroom 2 0 0) 0 0 Ph 130 [some (.inr (m + 1)), l1, l2, l3, some (.inl (nI (qmny tx tl))), some (.inl (nI tl))] [] S (zrow mu (m + 1) (qpr tx v tl)) 0 0) :
    ∀ (t i : Nat), i + t = tl → zG RX3 "load" cX3_load 6 (some .int) (zroom 2 0 0) 0 0 Ph 52 [some (.inr (m + 1)), l1, some (.inl (nI (qrc tx i).1)), some (.inl (nI (qrc tx i).2)), some (.inl (nI (qmny tx i))), some (.inl (nI i))] [] S (zrow mu (m + 1) (qpr tx v i)) 0 0 := by
  have hN0 : m < S.1 := hS.lt (i := 0) (by decide)
  have hN1 : m + 1 < S.1 := hS.lt (by decide)
  have hN9 : m + 9 < S.1 := hS.lt (by decide)
  obtain ⟨⟨-, k0, k1, -, -, -, -, -, -, -, k9, -⟩, r0, -, -, -, -, -, -, -, r9, -⟩ := id hS
  intro t
  induction t with
  | zero =>
    intro i hit
    obtain rfl : i = tl := by omega
    refine zg_iload dX3_load_52 rfl ?_
    refine zg_aload_n (i := 0) dX3_load_54 rfl rfl ?_
    first | with_reducible refine zg_getIR dX3_load_55 flX3_52 (by decide) (by assumption) (by assumption) (by omega) ?_ | refine zg_getI dX3_load_55 flX3_52 (by decide) (by assumption) (by assumption) ?_
    refine zg_val (y := nI i) htl ?_
    first | with_reducible refine zg_icmpN_ge (tgt := 130) dX3_load_58 (by decide) (by omega) (by omega) (fun c => ?_) (fun c => ?_) | refine zg_icmp_ge (tgt := 130) dX3_load_58 (by decide) (fun c => ?_) (fun c => ?_)
    · exact hx _ _
    · omega
  | succ t ih =>
    intro i hit
    have ihn := ih (i + 1) (by omega)
    have hk := hok i (by omega)
    obtain ⟨hr1, hr2⟩ := qrc_le tx i
    have hm := qmny_le tx i
    refine zg_iload dX3_load_52 rfl ?_
    refine zg_aload_n (i := 0) dX3_load_54 rfl rfl ?_
    first | with_reducible refine zg_getIR dX3_load_55 flX3_52 (by decide) (by assumption) (by assumption) (by omega) ?_ | refine zg_getI dX3_load_55 flX3_52 (by decide) (by assumption) (by assumption) ?_
    refine zg_val (y := nI tl) htl ?_
    first | with_reducible refine zg_icmpN_ge (tgt := 130) dX3_load_58 (by decide) (by omega) (by omega) (fun c => ?_) (fun c => ?_) | refine zg_icmp_ge (tgt := 130) dX3_load_58 (by decide) (fun c => ?_) (fun c => ?_)
    · omega
    · refine zg_aload_n (i := 0) dX3_load_61 rfl rfl ?_
      refine zg_getR dX3_load_62 flX3_35 (by decide) (by assumption) (by assumption) (by assumption) ?_
      refine zg_iload dX3_load_65 rfl ?_
      first | with_reducible refine zg_ialdR dX3_load_67 (by assumption) (by assumption) rfl (by omega) (by decide) ?_ | refine zg_iald dX3_load_67 (by assumption) (by assumption) rfl (by omega) (by decide) ?_
      refine zg_val (y := tx i) (by rw [zrow_n (by omega)]; exact htx i (by omega)) ?_
      refine zg_bipush (v := nI 10) dX3_load_68 (by decide) ?_
      refine zg_icmp_ne (tgt := 81) dX3_load_70 (by decide) (fun c2 => ?_) (fun c2 => ?_)
      · rw [qrc, if_neg c2, qpr, if_neg c2, qmny, if_neg c2] at ihn
        have hcol : (qrc tx i).1 < 6 ∧ (qrc tx i).2 < 12 := ⟨hk.1, hk.2.elim (fun z => absurd z c2) (fun z => z.2)⟩
        generalize hR : (qrc tx i).1 = R at ihn hr1 hcol
        generalize hC : (qrc tx i).2 = C at ihn hr2 hcol
        refine zg_aload_n (i := 0) dX3_load_81 rfl rfl ?_
        refine zg_getR dX3_load_82 flX3_7 (by decide) (by assumption) (by assumption) (by assumption) ?_
        refine zg_bipush (v := nI 12) dX3_load_85 (by decide) ?_
        refine zg_iload_n (i := 2) dX3_load_87 rfl rfl ?_
        first | with_reducible refine zg_imulN dX3_load_88 ?_ | refine zg_imul dX3_load_88 ?_
        refine zg_iload_n (i := 3) dX3_load_89 rfl rfl ?_
        first | with_reducible refine zg_iaddN dX3_load_90 ?_ | refine zg_iadd dX3_load_90 ?_
        refine zg_aload_n (i := 0) dX3_load_91 rfl rfl ?_
        refine zg_getR dX3_load_92 flX3_35 (by decide) (by assumption) (by assumption) (by assumption) ?_
        refine zg_iload dX3_load_95 rfl ?_
        first | with_reducible refine zg_ialdR dX3_load_97 (by assumption) (by assumption) rfl (by omega) (by decide) ?_ | refine zg_iald dX3_load_97 (by assumption) (by assumption) rfl (by omega) (by decide) ?_
        refine zg_val (y := tx i) (by rw [zrow_n (by omega)]; exact htx i (by omega)) ?_
        first | with_reducible refine zg_iastR dX3_load_98 (by assumption) (by assumption) rfl (by omega) (by decide) ?_ | refine zg_iast dX3_load_98 (by assumption) (by assumption) rfl (by omega) (by decide) ?_
        refine zg_iload dX3_load_99 rfl ?_
        refine zg_aload_n (i := 0) dX3_load_101 rfl rfl ?_
        refine zg_getR dX3_load_102 flX3_35 (by decide) (by assumption) (by assumption) (by assumption) ?_
        refine zg_iload dX3_load_105 rfl ?_
        first | with_reducible refine zg_ialdR dX3_load_107 (by assumption) (by assumption) rfl (by omega) (by decide) ?_ | refine zg_iald dX3_load_107 (by assumption) (by assumption) rfl (by omega) (by decide) ?_
        refine zg_val (y := tx i) (by rw [zrow_n (by omega)]; exact htx i (by omega)) ?_
        refine zg_bipush (v := nI 32) dX3_load_108 (by decide) ?_
        refine zg_icmp_ne (tgt := 117) dX3_load_110 (by decide) (fun c3 => ?_) (fun c3 => ?_)
        · rw [if_neg c3] at ihn
          refine zg_iconst (v := nI 1) dX3_load_117 (by decide) ?_
          first | with_reducible refine zg_iaddN dX3_load_118 ?_ | refine zg_iadd dX3_load_118 ?_
          refine zg_istore (L2 := [_, _, _, _, _, _]) dX3_load_119 (by decide) rfl ?_
          refine zg_iinc1 (L2 := [_, _, _, _, _, _]) dX3_load_121 (by decide) rfl rfl ?_
          refine zg_iinc1 (L2 := [_, _, _, _, _, _]) dX3_load_124 (by decide) rfl rfl ?_
          refine zg_goto (tgt := 52) dX3_load_127 (by decide) ?_
          exact ihn
        · rw [if_pos c3] at ihn
          refine zg_iconst (v := nI 0) dX3_load_113 (by decide) ?_
          refine zg_goto (tgt := 118) dX3_load_114 (by decide) ?_
          first | with_reducible refine zg_iaddN dX3_load_118 ?_ | refine zg_iadd dX3_load_118 ?_
          refine zg_istore (L2 := [_, _, _, _, _, _]) dX3_load_119 (by decide) rfl ?_
          refine zg_iinc1 (L2 := [_, _, _, _, _, _]) dX3_load_121 (by decide) rfl rfl ?_
          refine zg_iinc1 (L2 := [_, _, _, _, _, _]) dX3_load_124 (by decide) rfl rfl ?_
          refine zg_goto (tgt := 52) dX3_load_127 (by decide) ?_
          exact ihn
      · rw [qrc, if_pos c2, qpr, if_pos c2, qmny, if_pos c2] at ihn
        refine zg_iinc1 (L2 := [_, _, _, _, _, _]) dX3_load_73 (by decide) rfl rfl ?_
        refine zg_iconst (v := nI 0) dX3_load_76 (by decide) ?_
        refine zg_istore_n (i := 3) (L2 := [_, _, _, _, _, _]) dX3_load_77 rfl (by decide) rfl ?_
        refine zg_goto (tgt := 124) dX3_load_78 (by decide) ?_
        refine zg_iinc1 (L2 := [_, _, _, _, _, _]) dX3_load_124 (by decide) rfl rfl ?_
        refine zg_goto (tgt := 52) dX3_load_127 (by decide) ?_
        exact ihn
set_option maxRecDepth 20000 in
theorem cm_load {S : zS} {m : Nat} (hS : MS S m) {mu : zU} {tl uc : Nat} {v tx bp kp : Nat → Int32} {us sn : Nat → Nat → Int32} (hM : MR mu m v tl tx bp uc us kp sn) (hv : mu (m + 1) = v) : zM yX3_load cX3_load 6 (some .int) 2 0 0 [.inr (m + 1)] S mu (zPi S (fun r mu2 => ((∃ e, EP tx tl e ∧ e ≠ -9 ∧ r = -10 - e ∧ mu2 = mu) ∨ (EP tx tl (-9) ∧ r = nI (qmny tx tl) ∧ MR mu2 m (qload tx tl v) 0 tx bp (ucN uc) (usN uc us v) kp sn)) ∧ zfrm mu mu2 m)) := by
  have hN0 : m < S.1 := hS.lt (i := 0) (by decide)
  have hN1 : m + 1 < S.1 := hS.lt (by decide)
  obtain ⟨⟨-, k0, k1, -⟩, r0, -⟩ := id hS
  obtain ⟨v1, ⟨t1, t2, t3⟩, b1, ⟨u1, u2, u3⟩, s1⟩ := id hM
  refine zM.ofG (by decide +kernel) (Nat.le_of_ble_eq_true rfl) ?_
  refine zg_aload_n (i := 0) dX3_load_0 rfl rfl ?_
  refine zg_callVi (cm_errorPosition hS mu t1 t2 t3) dX3_load_1 cvX3_errorPosition mlX3_55 rfl (by assumption) (by assumption) rfl (Nat.le_of_ble_eq_true rfl) ⟨by decide, by decide⟩ ⟨Nat.le_refl _, Nat.le_refl _⟩ (fun r mu2 h2 => ?_)
  obtain ⟨rfl, he⟩ := h2
  refine zg_istore_n (i := 1) (L2 := [_, _, _, _, _, _]) dX3_load_4 rfl (by decide) rfl ?_
  refine zg_iload_n (i := 1) dX3_load_5 rfl rfl ?_
  refine zg_bipush (v := -9) dX3_load_6 (by decide) ?_
  refine zg_icmp_eq (tgt := 16) dX3_load_8 (by decide) (fun c => ?_) (fun c => ?_)
  · subst c
    have hok : ∀ k, k < tl → qok tx k := by
      rcases he with ⟨i, a1, a2, a3, a4⟩ | ⟨a1, -⟩
      · exact absurd a4.symm (nI_m9 (by omega))
      · exact a1
    refine zg_aload_n (i := 0) dX3_load_16 rfl rfl ?_
    refine zg_callVv (cm_remember hS mu2) dX3_load_17 cvX3_remember mlX3_59 rfl (by assumption) (by assumption) rfl (Nat.le_of_ble_eq_true rfl) ⟨by decide, by decide⟩ ⟨Nat.le_refl _, Nat.le_refl _⟩ (fun mu3 h3 => ?_)
    subst h3
    refine zg_iconst (v := nI 0) dX3_load_20 (by decide) ?_
    refine zg_istore_n (i := 2) (L2 := [_, _, _, _, _, _]) dX3_load_21 rfl (by decide) rfl ?_
    refine zg_mu (mu2 := zrow (zrow mu2 (m + 2) (cpi (mu2 (m + 2)) (mu2 (m + 1)) 0 289)) (m + 1) (cpi v (fun _ => nI 32) 0 0)) (by rw [cpi_0]; funext q; by_cases h1 : q = m + 1 <;> simp [zrow, h1, hv]) ?_
    refine lm_load22 hS _ _ ?_ 72 0 rfl
    refine zg_iconst (v := nI 0) dX3_load_42 (by decide) ?_
    refine zg_istore_n (i := 2) (L2 := [_, _, _, _, _, _]) dX3_load_43 rfl (by decide) rfl ?_
    refine zg_iconst (v := nI 0) dX3_load_44 (by decide) ?_
    refine zg_istore_n (i := 3) (L2 := [_, _, _, _, _, _]) dX3_load_45 rfl (by decide) rfl ?_
    refine zg_iconst (v := nI 0) dX3_load_46 (by decide) ?_
    refine zg_istore (L2 := [_, _, _, _, _, _]) dX3_load_47 (by decide) rfl ?_
    refine zg_iconst (v := nI 0) dX3_load_49 (by decide) ?_
    refine zg_istore (L2 := [_, _, _, _, _, _]) dX3_load_50 (by decide) rfl ?_
    refine lm_load52 hS _ (v := v) (tx := tx) (tl := tl) (by rw [zrow_n (by omega)]; exact t1) t2 (fun j hj => by rw [zrow_n (by omega)]; exact t3 j hj) hok _ ?_ tl 0 (by omega)
    intro l2 l3
    refine zg_aload_n (i := 0) dX3_load_130 rfl rfl ?_
    refine zg_callVv (cm_begin hS _ _) dX3_load_131 cvX3_begin mlX3_41 rfl (by assumption) (by assumption) rfl (Nat.le_of_ble_eq_true rfl) ⟨by decide, by decide⟩ ⟨Nat.le_refl _, Nat.le_refl _⟩ (fun mu4 h4 => ?_)
    subst h4
    refine zg_sipush (v := nI 250) dX3_load_134 (by decide) ?_
    refine zg_istore (L2 := [_, _, _, _, _, _]) dX3_load_137 (by decide) rfl ?_
    refine zg_mu (mu2 := zrow (zrow mu2 (m + 2) (cpi (mu2 (m + 2)) (mu2 (m + 1)) 0 289)) (m + 1) (cpi (qbegin (qpr tx v tl)) (fun _ => nI 0) 250 0)) (by rw [cpi_0]) ?_
    refine lm_load139 hS _ _ ?_ 17 0 rfl
    refine zg_aload_n (i := 0) dX3_load_161 rfl rfl ?_
    refine zg_iconst (v := nI 0) dX3_load_162 (by decide) ?_
    refine zg_putI dX3_load_163 flX3_52 (by decide) (by assumption) (by assumption) ?_
    refine zg_aload_n (i := 0) dX3_load_166 rfl rfl ?_
    refine zg_callVv (cm_saveBefore hS _ u2 (by rw [zup_s, upd_n (by omega), zrow_n (by omega), zrow_n (by omega)]; exact u1)) dX3_load_167 cvX3_saveBefore mlX3_62 rfl (by assumption) (by assumption) rfl (Nat.le_of_ble_eq_true rfl) ⟨by decide, by decide⟩ ⟨Nat.le_refl _, Nat.le_refl _⟩ (fun mu5 h5 => ?_)
    refine zg_iload dX3_load_170 rfl ?_
    have hM2 : MR (zup mu2 m 10 (nI 0)) m v 0 tx bp uc us kp sn := by
      refine ⟨fun j hj => ?_, ⟨?_, by omega, fun j hj => absurd hj (by omega)⟩, fun j hj => ?_, ⟨?_, u2, fun i j hi hj => ?_⟩, fun q hq => ⟨?_, fun e j hj => ?_⟩⟩
      · rw [zup_n (by omega)]; exact v1 j hj
      · rw [zup_s, upd_s]
      · rw [zup_n (by omega)]; exact b1 j hj
      · rw [zup_s, upd_n (by omega)]; exact u1
      · rw [zup_n (by omega)]; exact u3 i j hi hj
      · rw [zup_n (by omega)]; exact (s1 q hq).1
      · rw [zup_n (by omega)]; exact (s1 q hq).2 e j hj
    refine zg_iret dX3_load_172 rfl ⟨_, rfl, rfl, Or.inr ⟨he, rfl, MR_save hM2 (fun q a b d => ?_) (fun j hj => ?_) (fun j hj => ?_) h5⟩, SB_fr (fun q hq => ?_) h5⟩
    · by_cases hq : q = m
      · rw [hq, zup_s, zup_s, zrow_n (by omega), zrow_n (by omega)]
      · rw [zup_n hq, zup_n hq, zrow_n a, zrow_n b]
    · rw [zup_n (by omega), zrow_n (by omega), zrow_s, cpi_in (by omega) (by omega), Nat.sub_zero]; exact v1 j hj
    · rw [zup_n (by omega), zrow_s]; rfl
    · rw [zup_n (by omega), zrow_n (by omega), zrow_n (by omega)]
  · refine zg_bipush (v := -10) dX3_load_11 (by decide) ?_
    refine zg_iload_n (i := 1) dX3_load_13 rfl rfl ?_
    first | with_reducible refine zg_isubN dX3_load_14 (by omega) ?_ | refine zg_isub dX3_load_14 ?_
    exact zg_iret dX3_load_15 rfl ⟨_, rfl, rfl, ⟨Or.inl ⟨_, he, c, rfl, rfl⟩, fun _ _ => rfl⟩⟩
