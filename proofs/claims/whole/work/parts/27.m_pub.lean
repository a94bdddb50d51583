/-! THE REFERENCE: further calls -/
def qoff (v : Nat → Int32) (o : Nat) : Nat → Nat
  | 0 => 0
  | j + 1 => qoff v o j + zn v (o + 6 + j)
def aSize (v : Nat → Int32) (cn : Nat) (q s : Int32) : Int32 := atN q cn (fun j => atN s (zn v (150 + 25 * j + 5)) (fun t => v (150 + 25 * j + 6 + t)) (-1)) (-1)
def aValue (v : Nat → Int32) (cn : Nat) (q s e : Int32) : Int32 := atN q cn (fun j => atN s (zn v (150 + 25 * j + 5)) (fun t => atN e (zn v (150 + 25 * j + 6 + t)) (fun i => v (150 + 25 * j + 9 + i + qoff v (150 + 25 * j) t)) 0) 0) 0
set_option maxRecDepth 20000 in
theorem cm_stackSize {S : zS} {m : Nat} (hS : MS S m) (mu : zU) {ol : List Nat} (hV : VI (mu (m + 1)) ol) (q s : Int32) : zM yX3_stackSize cX3_stackSize 3 (some .int) 3 0 0 [.inr (m + 1), .inl q, .inl s] S mu (zPi S (fun r mu2 => mu2 = mu ∧ r = aSize (mu (m + 1)) ol.length q s)) := by
  have hN0 : m < S.1 := hS.lt (i := 0) (by decide)
  have k0 := hS.1.2.1
  obtain ⟨⟨h145, hl1, hl4⟩, -, -, -, hp, -⟩ := id hV
  have hns : ∀ j, j < ol.length → ∃ ns, 1 ≤ ns ∧ ns ≤ 3 ∧ mu (m + 1) (150 + 25 * j + 5) = nI ns := by
    intro j hj
    obtain ⟨x, y, dr, ss, sl, ns, s0, s1, s2, hP⟩ := hp j hj
    exact ⟨ns, hP.ns.2.1, hP.ns.2.2.1, hP.2.2.2.2.2.1⟩
  refine zM.ofG (by decide +kernel) (Nat.le_of_ble_eq_true rfl) ?_
  refine zg_aload_n (i := 0) dX3_stackSize_0 rfl rfl ?_
  refine zg_iload_n (i := 1) dX3_stackSize_1 rfl rfl ?_
  refine zg_iload_n (i := 2) dX3_stackSize_2 rfl rfl ?_
  refine zg_callVi (cm_isStack hS mu h145 hl1 hl4 q s hns) dX3_stackSize_3 cvX3_isStack mlX3_186 rfl (by assumption) (by assumption) rfl (Nat.le_of_ble_eq_true rfl) ⟨by decide, by decide⟩ ⟨Nat.le_refl _, Nat.le_refl _⟩ (fun r mu2 h2 => ?_)
  obtain ⟨rfl, h2⟩ := h2
  rcases h2 with ⟨rfl, h2⟩ | ⟨rfl, j, ns, t, hj, rfl, hn, hn3, ht, rfl⟩
  · first | with_reducible refine zg_ifN_eq (tgt := 21) dX3_stackSize_6 (by decide) (by omega) (fun c => ?_) (fun c => ?_) | refine zg_if_eq (tgt := 21) dX3_stackSize_6 (by decide) (fun c => ?_) (fun c => ?_)
    · refine zg_iconst (v := -1) dX3_stackSize_21 (by decide) ?_
      refine zg_iret dX3_stackSize_22 rfl ⟨_, rfl, rfl, rfl, ?_⟩
      rw [aSize]
      by_cases hq : 0 ≤ q ∧ q < nI ol.length
      · obtain ⟨j, hj, rfl⟩ := atN_ix (by omega) hq
        rw [atN_in hj (by omega)]
        obtain ⟨ns, n1', n3, hn⟩ := hns j hj
        rw [zn_of hn (by omega)]
        by_cases hs : 0 ≤ s ∧ s < nI ns
        · obtain ⟨t, ht, rfl⟩ := atN_ix (by omega) hs
          exact absurd ⟨j, ns, t, hj, rfl, hn, n3, ht, rfl⟩ h2
        · rw [atN_no hs]
      · rw [atN_no hq]
    · exact absurd rfl c
  · first | with_reducible refine zg_ifN_eq (tgt := 21) dX3_stackSize_6 (by decide) (by omega) (fun c => ?_) (fun c => ?_) | refine zg_if_eq (tgt := 21) dX3_stackSize_6 (by decide) (fun c => ?_) (fun c => ?_)
    · exact absurd c (by decide)
    · refine zg_aload_n (i := 0) dX3_stackSize_9 rfl rfl ?_
      refine zg_iload_n (i := 1) dX3_stackSize_10 rfl rfl ?_
      refine zg_bipush (v := nI 6) dX3_stackSize_11 (by decide) ?_
      refine zg_iload_n (i := 2) dX3_stackSize_13 rfl rfl ?_
      first | with_reducible refine zg_iaddN dX3_stackSize_14 ?_ | refine zg_iadd dX3_stackSize_14 ?_
      refine zg_mu (zrow_self mu2 (m + 1)).symm ?_
      refine zg_callVi (cm_of hS mu2 (mu2 (m + 1)) (p := j) (w := 6 + t) (by omega)) dX3_stackSize_15 cvX3_of mlX3_69 rfl (by assumption) (by assumption) rfl (Nat.le_of_ble_eq_true rfl) ⟨by decide, by decide⟩ ⟨Nat.le_refl _, Nat.le_refl _⟩ (fun r mu3 h3 => ?_)
      obtain ⟨rfl, rfl⟩ := h3
      refine zg_goto (tgt := 22) dX3_stackSize_18 (by decide) ?_
      exact zg_iret dX3_stackSize_22 rfl ⟨_, rfl, rfl, ⟨zrow_self _ _, by rw [aSize, atN_in hj (by omega), zn_of hn (by omega), atN_in ht (by omega), Nat.add_assoc (150 + 25 * j) 6 t]⟩⟩
set_option maxRecDepth 20000 in
theorem lm_value39 {S : zS} {m : Nat} (hS : MS S m) (mu : zU) (v : Nat → Int32) {j t e : Nat} (hj : j < 4) (ht : t ≤ 3) (hsz : ∀ i, i < t → v (150 + 25 * j + 6 + i) = nI (zn v (150 + 25 * j + 6 + i))) (Ph : Option zV → zS → zU → Prop)
    (hx : zG RX3 "valueAt" cX3_valueAt 6 (some .int) (zroom 3 0 0) 0 0 Ph 66 [some (.inr (m + 1)), some (.inl (nI j)), some (.inl (nI t)), some (.inl (nI e)), some (.inl (nI (9 + e + qoff v (150 + 25 * j) t))), some (.inl (nI t))] [] S (zrow mu (m + 1) v) 0 0) :
    ∀ (d i : Nat), i + d = t → zG RX3 "valueAt" cX3_valueAt 6 (some .int) (zroom 3 0 0) 0 0 Ph 39 [some (.inr (m + 1)), some (.inl (nI j)), some (.inl (nI t)), some (.inl (nI e)), some (.inl (nI (9 + e + qoff v (150 + 25 * j) i))), some (.inl (nI i))] [] S (zrow mu (m + 1) v) 0 0 := by
  have hN0 : m < S.1 := hS.lt (i := 0) (by decide)
  have k0 := hS.1.2.1
  intro d
  induction d with
  | zero =>
    intro i hi
    obtain rfl : i = t := by omega
    refine zg_iload dX3_valueAt_39 rfl ?_
    refine zg_iload_n (i := 2) dX3_valueAt_41 rfl rfl ?_
    first | with_reducible refine zg_icmpN_ge (tgt := 66) dX3_valueAt_42 (by decide) (by omega) (by omega) (fun c => ?_) (fun c => ?_) | refine zg_icmp_ge (tgt := 66) dX3_valueAt_42 (by decide) (fun c => ?_) (fun c => ?_)
    · exact hx
    · omega
  | succ d ih =>
    intro i hi
    refine zg_iload dX3_valueAt_39 rfl ?_
    refine zg_iload_n (i := 2) dX3_valueAt_41 rfl rfl ?_
    first | with_reducible refine zg_icmpN_ge (tgt := 66) dX3_valueAt_42 (by decide) (by omega) (by omega) (fun c => ?_) (fun c => ?_) | refine zg_icmp_ge (tgt := 66) dX3_valueAt_42 (by decide) (fun c => ?_) (fun c => ?_)
    · omega
    · refine zg_iload dX3_valueAt_45 rfl ?_
      refine zg_aload_n (i := 0) dX3_valueAt_47 rfl rfl ?_
      refine zg_iload_n (i := 1) dX3_valueAt_48 rfl rfl ?_
      refine zg_bipush (v := nI 6) dX3_valueAt_49 (by decide) ?_
      refine zg_iload dX3_valueAt_51 rfl ?_
      first | with_reducible refine zg_iaddN dX3_valueAt_53 ?_ | refine zg_iadd dX3_valueAt_53 ?_
      refine zg_callVi (cm_of hS mu v (p := j) (w := 6 + i) (by omega)) dX3_valueAt_54 cvX3_of mlX3_69 rfl (by assumption) (by assumption) rfl (Nat.le_of_ble_eq_true rfl) ⟨by decide, by decide⟩ ⟨Nat.le_refl _, Nat.le_refl _⟩ (fun r mu2 h2 => ?_)
      obtain ⟨rfl, rfl⟩ := h2
      refine zg_val (y := nI (zn v (150 + 25 * j + 6 + i))) (by rw [← Nat.add_assoc]; exact hsz i (by omega)) ?_
      first | with_reducible refine zg_iaddN dX3_valueAt_57 ?_ | refine zg_iadd dX3_valueAt_57 ?_
      refine zg_istore (L2 := [_, _, _, _, _, _]) dX3_valueAt_58 (by decide) rfl ?_
      refine zg_iinc1 (L2 := [_, _, _, _, _, _]) dX3_valueAt_60 (by decide) rfl rfl ?_
      refine zg_goto (tgt := 39) dX3_valueAt_63 (by decide) ?_
      rw [Nat.add_assoc (9 + e)]
      exact ih (i + 1) (by omega)
set_option maxRecDepth 20000 in
theorem cm_valueAt {S : zS} {m : Nat} (hS : MS S m) (mu : zU) {ol : List Nat} (hV : VI (mu (m + 1)) ol) (q s e : Int32) : zM yX3_valueAt cX3_valueAt 6 (some .int) 3 0 0 [.inr (m + 1), .inl q, .inl s, .inl e] S mu (zPi S (fun r mu2 => mu2 = mu ∧ r = aValue (mu (m + 1)) ol.length q s e)) := by
  have hN0 : m < S.1 := hS.lt (i := 0) (by decide)
  have k0 := hS.1.2.1
  obtain ⟨⟨h145, hl1, hl4⟩, -, -, -, hp, -⟩ := id hV
  have hns : ∀ j, j < ol.length → ∃ ns, 1 ≤ ns ∧ ns ≤ 3 ∧ mu (m + 1) (150 + 25 * j + 5) = nI ns := by
    intro j hj
    obtain ⟨x, y, dr, ss, sl, ns, s0, s1, s2, hP⟩ := hp j hj
    exact ⟨ns, hP.ns.2.1, hP.ns.2.2.1, hP.2.2.2.2.2.1⟩
  refine zM.ofG (by decide +kernel) (Nat.le_of_ble_eq_true rfl) ?_
  refine zg_aload_n (i := 0) dX3_valueAt_0 rfl rfl ?_
  refine zg_iload_n (i := 1) dX3_valueAt_1 rfl rfl ?_
  refine zg_iload_n (i := 2) dX3_valueAt_2 rfl rfl ?_
  refine zg_callVi (cm_isStack hS mu h145 hl1 hl4 q s hns) dX3_valueAt_3 cvX3_isStack mlX3_186 rfl (by assumption) (by assumption) rfl (Nat.le_of_ble_eq_true rfl) ⟨by decide, by decide⟩ ⟨Nat.le_refl _, Nat.le_refl _⟩ (fun r mu2 h2 => ?_)
  obtain ⟨rfl, h2⟩ := h2
  rcases h2 with ⟨rfl, h2⟩ | ⟨rfl, j, ns, t, hj, rfl, hn, hn3, ht, rfl⟩
  · first | with_reducible refine zg_ifN_eq (tgt := 28) dX3_valueAt_6 (by decide) (by omega) (fun c => ?_) (fun c => ?_) | refine zg_if_eq (tgt := 28) dX3_valueAt_6 (by decide) (fun c => ?_) (fun c => ?_)
    · refine zg_iconst (v := nI 0) dX3_valueAt_28 (by decide) ?_
      refine zg_iret dX3_valueAt_29 rfl ⟨_, rfl, rfl, rfl, ?_⟩
      rw [aValue]
      by_cases hq : 0 ≤ q ∧ q < nI ol.length
      · obtain ⟨j, hj, rfl⟩ := atN_ix (by omega) hq
        rw [atN_in hj (by omega)]
        obtain ⟨ns, n1', n3, hn⟩ := hns j hj
        rw [zn_of hn (by omega)]
        by_cases hs : 0 ≤ s ∧ s < nI ns
        · obtain ⟨t, ht, rfl⟩ := atN_ix (by omega) hs
          exact absurd ⟨j, ns, t, hj, rfl, hn, n3, ht, rfl⟩ h2
        · rw [atN_no hs]; rfl
      · rw [atN_no hq]; rfl
    · exact absurd rfl c
  · obtain ⟨x, y, dr, ss, sl, ns', s0, s1, s2, hP⟩ := hp j hj
    obtain ⟨z5, b1, b2, b3⟩ := hP.ns
    have hsz : ∀ i, i < 3 → ∃ z, z ≤ 16 ∧ mu2 (m + 1) (150 + 25 * j + 6 + i) = nI z := by
      intro i hi
      rcases (show i = 0 ∨ i = 1 ∨ i = 2 by omega) with rfl | rfl | rfl
      · exact ⟨s0, by omega, hP.2.2.2.2.2.2.1⟩
      · exact ⟨s1, by omega, hP.2.2.2.2.2.2.2.1⟩
      · exact ⟨s2, by omega, hP.2.2.2.2.2.2.2.2.1⟩
    have hszz : ∀ i, i < 3 → mu2 (m + 1) (150 + 25 * j + 6 + i) = nI (zn (mu2 (m + 1)) (150 + 25 * j + 6 + i)) := by
      intro i hi
      obtain ⟨z, hz, e1⟩ := hsz i hi
      rw [zn_of e1 (by omega)]; exact e1
    obtain ⟨z, hz16, hz⟩ := hsz t (by omega)
    have hzz : zn (mu2 (m + 1)) (150 + 25 * j + 6 + t) = z := zn_of hz (by omega)
    first | with_reducible refine zg_ifN_eq (tgt := 28) dX3_valueAt_6 (by decide) (by omega) (fun c => ?_) (fun c => ?_) | refine zg_if_eq (tgt := 28) dX3_valueAt_6 (by decide) (fun c => ?_) (fun c => ?_)
    · exact absurd c (by decide)
    · refine zg_iload_n (i := 3) dX3_valueAt_9 rfl rfl ?_
      refine zg_iconst (v := nI 0) dX3_valueAt_10 (by decide) ?_
      refine zg_aload_n (i := 0) dX3_valueAt_11 rfl rfl ?_
      refine zg_iload_n (i := 1) dX3_valueAt_12 rfl rfl ?_
      refine zg_bipush (v := nI 6) dX3_valueAt_13 (by decide) ?_
      refine zg_iload_n (i := 2) dX3_valueAt_15 rfl rfl ?_
      first | with_reducible refine zg_iaddN dX3_valueAt_16 ?_ | refine zg_iadd dX3_valueAt_16 ?_
      refine zg_mu (zrow_self mu2 (m + 1)).symm ?_
      refine zg_callVi (cm_of hS mu2 (mu2 (m + 1)) (p := j) (w := 6 + t) (by omega)) dX3_valueAt_17 cvX3_of mlX3_69 rfl (by assumption) (by assumption) rfl (Nat.le_of_ble_eq_true rfl) ⟨by decide, by decide⟩ ⟨Nat.le_refl _, Nat.le_refl _⟩ (fun r mu3 h3 => ?_)
      obtain ⟨rfl, rfl⟩ := h3
      refine zg_val (y := nI z) (by rw [← Nat.add_assoc]; exact hz) ?_
      refine zg_iconst (v := nI 1) dX3_valueAt_20 (by decide) ?_
      refine zg_isub dX3_valueAt_21 ?_
      refine zg_callSi (cm_in S _ e (nI 0) (nI z - nI 1)) dX3_valueAt_22 ctX3_in mlX3_44 rfl rfl (Nat.le_of_ble_eq_true rfl) ⟨by decide, by decide⟩ ⟨Nat.le_refl _, Nat.le_refl _⟩ (fun r mu4 h4 => ?_)
      obtain ⟨rfl, rfl⟩ := h4
      by_cases he : 0 ≤ e ∧ e < nI z
      · rw [if_pos ((in_lt e (by omega)).mpr he)]
        obtain ⟨i, hi, rfl⟩ := atN_ix (by omega) he
        have hoff : qoff (mu2 (m + 1)) (150 + 25 * j) t + z ≤ 16 := by
          have q6 := zn_of hP.2.2.2.2.2.2.1 (show s0 < 2 ^ 31 by omega)
          have q7 : zn (mu2 (m + 1)) (150 + 25 * j + 6 + 1) = s1 := zn_of hP.2.2.2.2.2.2.2.1 (show s1 < 2 ^ 31 by omega)
          have q8 : zn (mu2 (m + 1)) (150 + 25 * j + 6 + 2) = s2 := zn_of hP.2.2.2.2.2.2.2.2.1 (show s2 < 2 ^ 31 by omega)
          rcases (show t = 0 ∨ t = 1 ∨ t = 2 by omega) with rfl | rfl | rfl
          · simp only [qoff]; omega
          · simp only [qoff, Nat.add_zero] at hzz ⊢; omega
          · simp only [qoff, Nat.add_zero] at hzz ⊢; omega
        first | with_reducible refine zg_ifN_ne (tgt := 30) dX3_valueAt_25 (by decide) (by omega) (fun c2 => ?_) (fun c2 => ?_) | refine zg_if_ne (tgt := 30) dX3_valueAt_25 (by decide) (fun c2 => ?_) (fun c2 => ?_)
        · refine zg_bipush (v := nI 9) dX3_valueAt_30 (by decide) ?_
          refine zg_iload_n (i := 3) dX3_valueAt_32 rfl rfl ?_
          first | with_reducible refine zg_iaddN dX3_valueAt_33 ?_ | refine zg_iadd dX3_valueAt_33 ?_
          refine zg_istore (L2 := [_, _, _, _, _, _]) dX3_valueAt_34 (by decide) rfl ?_
          refine zg_iconst (v := nI 0) dX3_valueAt_36 (by decide) ?_
          refine zg_istore (L2 := [_, _, _, _, _, _]) dX3_valueAt_37 (by decide) rfl ?_
          refine lm_value39 hS mu2 (mu2 (m + 1)) (j := j) (t := t) (e := i) (by omega) (by omega) (fun i2 hi2 => hszz i2 (by omega)) _ ?_ t 0 (by omega)
          refine zg_aload_n (i := 0) dX3_valueAt_66 rfl rfl ?_
          refine zg_iload_n (i := 1) dX3_valueAt_67 rfl rfl ?_
          refine zg_iload dX3_valueAt_68 rfl ?_
          refine zg_callVi (cm_of hS mu2 (mu2 (m + 1)) (p := j) (w := 9 + i + qoff (mu2 (m + 1)) (150 + 25 * j) t) (by omega)) dX3_valueAt_70 cvX3_of mlX3_69 rfl (by assumption) (by assumption) rfl (Nat.le_of_ble_eq_true rfl) ⟨by decide, by decide⟩ ⟨Nat.le_refl _, Nat.le_refl _⟩ (fun r mu5 h5 => ?_)
          obtain ⟨rfl, rfl⟩ := h5
          refine zg_iret dX3_valueAt_73 rfl ⟨_, rfl, rfl, zrow_self _ _, ?_⟩
          rw [aValue, atN_in hj (by omega), zn_of hn (by omega), atN_in ht (by omega), hzz, atN_in hi (by omega)]
          congr 1
          omega
        · exact absurd c2 (by decide)
      · rw [if_neg (fun w => he ((in_lt e (by omega)).mp w))]
        first | with_reducible refine zg_ifN_ne (tgt := 30) dX3_valueAt_25 (by decide) (by omega) (fun c2 => ?_) (fun c2 => ?_) | refine zg_if_ne (tgt := 30) dX3_valueAt_25 (by decide) (fun c2 => ?_) (fun c2 => ?_)
        · exact absurd rfl c2
        · refine zg_iconst (v := nI 0) dX3_valueAt_28 (by decide) ?_
          refine zg_iret dX3_valueAt_29 rfl ⟨_, rfl, rfl, zrow_self _ _, ?_⟩
          rw [aValue, atN_in hj (by omega), zn_of hn (by omega), atN_in ht (by omega), hzz, atN_no he]; rfl
/-- how many of the first n cells differ -/
def qdiff (f g : Nat → Int32) : Nat → Nat
  | 0 => 0
  | n + 1 => qdiff f g n + (if f n = g n then 0 else 1)
theorem qdiff_le (f g : Nat → Int32) : ∀ n, qdiff f g n ≤ n
  | 0 => Nat.le_refl _
  | n + 1 => by
    have := qdiff_le f g n
    rw [qdiff]
    split <;> omega
theorem qdiff_cg {f g f2 g2 : Nat → Int32} : ∀ {n : Nat}, (∀ j, j < n → f j = f2 j) → (∀ j, j < n → g j = g2 j) → qdiff f g n = qdiff f2 g2 n
  | 0, _, _ => rfl
  | n + 1, h1, h2 => by rw [qdiff, qdiff, qdiff_cg (fun j hj => h1 j (by omega)) (fun j hj => h2 j (by omega)), h1 n (by omega), h2 n (by omega)]
set_option maxRecDepth 20000 in
theorem lm_chg4 {S : zS} {m : Nat} (hS : MS S m) (mu : zU) (Ph : Option zV → zS → zU → Prop) (hx : Ph (some (.inl (nI (qdiff (mu (m + 1)) (fun j => mu (m + 1) (72 + j)) 72)))) S mu) :
    ∀ (t i : Nat), i + t = 72 → zG RX3 "changedCells" cX3_changedCells 3 (some .int) (zroom 0 0 0) 0 0 Ph 4 [some (.inr (m + 1)), some (.inl (nI (qdiff (mu (m + 1)) (fun j => mu (m + 1) (72 + j)) i))), some (.inl (nI i))] [] S (mu) 0 0 := by
  have hN0 : m < S.1 := hS.lt (i := 0) (by decide)
  have hN1 : m + 1 < S.1 := hS.lt (by decide)
  obtain ⟨⟨-, k0, k1, -⟩, r0, -⟩ := id hS
  intro t
  induction t with
  | zero =>
    intro i hi
    obtain rfl : i = 72 := by omega
    refine zg_iload_n (i := 2) dX3_changedCells_4 rfl rfl ?_
    refine zg_bipush (v := nI 72) dX3_changedCells_5 (by decide) ?_
    first | with_reducible refine zg_icmpN_ge (tgt := 42) dX3_changedCells_7 (by decide) (by omega) (by omega) (fun c => ?_) (fun c => ?_) | refine zg_icmp_ge (tgt := 42) dX3_changedCells_7 (by decide) (fun c => ?_) (fun c => ?_)
    · refine zg_iload_n (i := 1) dX3_changedCells_42 rfl rfl ?_
      exact zg_iret dX3_changedCells_43 rfl hx
    · omega
  | succ t ih =>
    intro i hi
    have ihn := ih (i + 1) (by omega)
    rw [qdiff] at ihn
    refine zg_iload_n (i := 2) dX3_changedCells_4 rfl rfl ?_
    refine zg_bipush (v := nI 72) dX3_changedCells_5 (by decide) ?_
    first | with_reducible refine zg_icmpN_ge (tgt := 42) dX3_changedCells_7 (by decide) (by omega) (by omega) (fun c => ?_) (fun c => ?_) | refine zg_icmp_ge (tgt := 42) dX3_changedCells_7 (by decide) (fun c => ?_) (fun c => ?_)
    · omega
    · refine zg_iload_n (i := 1) dX3_changedCells_10 rfl rfl ?_
      refine zg_aload_n (i := 0) dX3_changedCells_11 rfl rfl ?_
      refine zg_getR dX3_changedCells_12 flX3_7 (by decide) (by assumption) (by assumption) (by assumption) ?_
      refine zg_iload_n (i := 2) dX3_changedCells_15 rfl rfl ?_
      first | with_reducible refine zg_ialdR dX3_changedCells_16 (by assumption) (by assumption) rfl (by omega) (by decide) ?_ | refine zg_iald dX3_changedCells_16 (by assumption) (by assumption) rfl (by omega) (by decide) ?_
      refine zg_aload_n (i := 0) dX3_changedCells_17 rfl rfl ?_
      refine zg_getR dX3_changedCells_18 flX3_7 (by decide) (by assumption) (by assumption) (by assumption) ?_
      refine zg_bipush (v := nI 72) dX3_changedCells_21 (by decide) ?_
      refine zg_iload_n (i := 2) dX3_changedCells_23 rfl rfl ?_
      first | with_reducible refine zg_iaddN dX3_changedCells_24 ?_ | refine zg_iadd dX3_changedCells_24 ?_
      first | with_reducible refine zg_ialdR dX3_changedCells_25 (by assumption) (by assumption) rfl (by omega) (by decide) ?_ | refine zg_iald dX3_changedCells_25 (by assumption) (by assumption) rfl (by omega) (by decide) ?_
      refine zg_icmp_ne (tgt := 33) dX3_changedCells_26 (by decide) (fun c2 => ?_) (fun c2 => ?_)
      · rw [if_neg c2] at ihn
        refine zg_iconst (v := nI 1) dX3_changedCells_33 (by decide) ?_
        first | with_reducible refine zg_iaddN dX3_changedCells_34 ?_ | refine zg_iadd dX3_changedCells_34 ?_
        refine zg_istore_n (i := 1) (L2 := [_, _, _]) dX3_changedCells_35 rfl (by decide) rfl ?_
        refine zg_iinc1 (L2 := [_, _, _]) dX3_changedCells_36 (by decide) rfl rfl ?_
        refine zg_goto (tgt := 4) dX3_changedCells_39 (by decide) ?_
        exact ihn
      · rw [if_pos c2] at ihn
        refine zg_iconst (v := nI 0) dX3_changedCells_29 (by decide) ?_
        refine zg_goto (tgt := 34) dX3_changedCells_30 (by decide) ?_
        first | with_reducible refine zg_iaddN dX3_changedCells_34 ?_ | refine zg_iadd dX3_changedCells_34 ?_
        refine zg_istore_n (i := 1) (L2 := [_, _, _]) dX3_changedCells_35 rfl (by decide) rfl ?_
        refine zg_iinc1 (L2 := [_, _, _]) dX3_changedCells_36 (by decide) rfl rfl ?_
        refine zg_goto (tgt := 4) dX3_changedCells_39 (by decide) ?_
        exact ihn
set_option maxRecDepth 20000 in
theorem cm_changedCells {S : zS} {m : Nat} (hS : MS S m) (mu : zU) : zM yX3_changedCells cX3_changedCells 3 (some .int) 0 0 0 [.inr (m + 1)] S mu (zPi S (fun r mu2 => mu2 = mu ∧ r = nI (qdiff (mu (m + 1)) (fun j => mu (m + 1) (72 + j)) 72))) := by
  refine zM.ofG (by decide +kernel) (Nat.le_of_ble_eq_true rfl) ?_
  refine zg_iconst (v := nI 0) dX3_changedCells_0 (by decide) ?_
  refine zg_istore_n (i := 1) (L2 := [_, _, _]) dX3_changedCells_1 rfl (by decide) rfl ?_
  refine zg_iconst (v := nI 0) dX3_changedCells_2 (by decide) ?_
  refine zg_istore_n (i := 2) (L2 := [_, _, _]) dX3_changedCells_3 rfl (by decide) rfl ?_
  exact lm_chg4 hS mu _ ⟨_, rfl, rfl, rfl, rfl⟩ 72 0 rfl
theorem in_zN (p : Int32) {a b : Nat} (hb : b < 2 ^ 31) (hab : a ≤ b) (h : nI a ≤ p ∧ p ≤ nI b) : ∃ j, a ≤ j ∧ j ≤ b ∧ p = nI j := by
  have h0 : ¬ p < 0 := by
    intro z
    have e := Int32.le_iff_toInt_le.mp h.1
    have e2 := Int32.lt_iff_toInt_lt.mp z
    rw [nI_toInt (by omega)] at e
    have e0 : (0 : Int32).toInt = 0 := rfl
    omega
  obtain ⟨j, hj, rfl⟩ := nI_of h0
  rw [nI_leI (by omega) hj, nI_leI hj hb] at h
  exact ⟨j, h.1, h.2, rfl⟩
set_option maxRecDepth 20000 in
theorem cm_append {S : zS} {m : Nat} (hS : MS S m) {mu : zU} {tl uc : Nat} {v tx bp kp : Nat → Int32} {us sn : Nat → Nat → Int32} (hM : MR mu m v tl tx bp uc us kp sn) (c : Int32) : zM yX3_append cX3_append 2 (some .int) 1 0 0 [.inr (m + 1), .inl c] S mu (zPi S (fun r mu2 => ((¬ (nI 0 ≤ c ∧ c ≤ nI 255) ∧ r = -1 ∧ mu2 = mu) ∨ ((nI 0 ≤ c ∧ c ≤ nI 255) ∧ tl = 90 ∧ r = -3 ∧ mu2 = mu) ∨ ((nI 0 ≤ c ∧ c ≤ nI 255) ∧ tl < 90 ∧ r = nI (tl + 1) ∧ MR mu2 m v (tl + 1) (upd tx tl c) bp uc us kp sn)) ∧ zfrm mu mu2 m)) := by
  have hN0 : m < S.1 := hS.lt (i := 0) (by decide)
  have hN9 : m + 9 < S.1 := hS.lt (by decide)
  obtain ⟨⟨-, k0, k1, k2, k3, k4, k5, k6, k7, k8, k9, k10⟩, r0, r1, r2, r3, r4, r6, r7, r8, r9, r11⟩ := id hS
  obtain ⟨v1, ⟨t1, t2, t3⟩, b1, ⟨u1, u2, u3⟩, s1⟩ := id hM
  refine zM.ofG (by decide +kernel) (Nat.le_of_ble_eq_true rfl) ?_
  refine zg_iload_n (i := 1) dX3_append_0 rfl rfl ?_
  refine zg_iconst (v := nI 0) dX3_append_1 (by decide) ?_
  refine zg_sipush (v := nI 255) dX3_append_2 (by decide) ?_
  refine zg_callSi (cm_in S mu c (nI 0) (nI 255)) dX3_append_5 ctX3_in mlX3_44 rfl rfl (Nat.le_of_ble_eq_true rfl) ⟨by decide, by decide⟩ ⟨Nat.le_refl _, Nat.le_refl _⟩ (fun r mu2 h2 => ?_)
  obtain ⟨rfl, rfl⟩ := h2
  by_cases hc : nI 0 ≤ c ∧ c ≤ nI 255
  · rw [if_pos hc]
    first | with_reducible refine zg_ifN_ne (tgt := 13) dX3_append_8 (by decide) (by omega) (fun cz => ?_) (fun cz => ?_) | refine zg_if_ne (tgt := 13) dX3_append_8 (by decide) (fun cz => ?_) (fun cz => ?_)
    · refine zg_aload_n (i := 0) dX3_append_13 rfl rfl ?_
      first | with_reducible refine zg_getIR dX3_append_14 flX3_52 (by decide) (by assumption) (by assumption) (by omega) ?_ | refine zg_getI dX3_append_14 flX3_52 (by decide) (by assumption) (by assumption) ?_
      refine zg_val t1 ?_
      refine zg_bipush (v := nI 90) dX3_append_17 (by decide) ?_
      first | with_reducible refine zg_icmpN_ne (tgt := 25) dX3_append_19 (by decide) (by omega) (by omega) (fun c2 => ?_) (fun c2 => ?_) | refine zg_icmp_ne (tgt := 25) dX3_append_19 (by decide) (fun c2 => ?_) (fun c2 => ?_)
      · refine zg_aload_n (i := 0) dX3_append_25 rfl rfl ?_
        refine zg_getR dX3_append_26 flX3_35 (by decide) (by assumption) (by assumption) (by assumption) ?_
        refine zg_aload_n (i := 0) dX3_append_29 rfl rfl ?_
        first | with_reducible refine zg_getIR dX3_append_30 flX3_52 (by decide) (by assumption) (by assumption) (by omega) ?_ | refine zg_getI dX3_append_30 flX3_52 (by decide) (by assumption) (by assumption) ?_
        refine zg_val t1 ?_
        refine zg_iload_n (i := 1) dX3_append_33 rfl rfl ?_
        first | with_reducible refine zg_iastR dX3_append_34 (by assumption) (by assumption) rfl (by omega) (by decide) ?_ | refine zg_iast dX3_append_34 (by assumption) (by assumption) rfl (by omega) (by decide) ?_
        refine zg_aload_n (i := 0) dX3_append_35 rfl rfl ?_
        refine zg_dup dX3_append_36 ?_
        first | with_reducible refine zg_getIR dX3_append_37 flX3_52 (by decide) (by assumption) (by assumption) (by omega) ?_ | refine zg_getI dX3_append_37 flX3_52 (by decide) (by assumption) (by assumption) ?_
        refine zg_val (y := nI tl) (by rw [zup_n (by omega)]; exact t1) ?_
        refine zg_iconst (v := nI 1) dX3_append_40 (by decide) ?_
        first | with_reducible refine zg_iaddN dX3_append_41 ?_ | refine zg_iadd dX3_append_41 ?_
        refine zg_putI dX3_append_42 flX3_52 (by decide) (by assumption) (by assumption) ?_
        refine zg_aload_n (i := 0) dX3_append_45 rfl rfl ?_
        first | with_reducible refine zg_getIR dX3_append_46 flX3_52 (by decide) (by assumption) (by assumption) (by omega) ?_ | refine zg_getI dX3_append_46 flX3_52 (by decide) (by assumption) (by assumption) ?_
        refine zg_val (y := nI (tl + 1)) (by rw [zup_s, upd_s]) ?_
        refine zg_iret dX3_append_49 rfl ⟨_, rfl, rfl, Or.inr (Or.inr ⟨hc, by omega, rfl, fun j hj => ?_, ⟨?_, by omega, fun j hj => ?_⟩, fun j hj => ?_, ⟨?_, u2, fun i j hi hj => ?_⟩, fun q hq => ⟨?_, fun e j hj => ?_⟩⟩), fun q hq => ?_⟩
        · rw [zup_n (by omega), zup_n (by omega)]; exact v1 j hj
        · rw [zup_s, upd_s]
        · rw [zup_n (by omega), zup_s]
          by_cases hjt : j = tl
          · rw [hjt, upd_s, upd_s]
          · rw [upd_n hjt, upd_n hjt]; exact t3 j (by omega)
        · rw [zup_n (by omega), zup_n (by omega)]; exact b1 j hj
        · rw [zup_s, upd_n (by omega), zup_n (by omega)]; exact u1
        · rw [zup_n (by omega), zup_n (by omega)]; exact u3 i j hi hj
        · rw [zup_n (by omega), zup_n (by omega)]; exact (s1 q hq).1
        · rw [zup_n (by omega), zup_n (by omega)]; exact (s1 q hq).2 e j hj
        · rw [zup_n (by omega), zup_n (by omega)]
      · refine zg_bipush (v := -3) dX3_append_22 (by decide) ?_
        exact zg_iret dX3_append_24 rfl ⟨_, rfl, rfl, ⟨Or.inr (Or.inl ⟨hc, c2, rfl, rfl⟩), fun _ _ => rfl⟩⟩
    · exact absurd cz (by decide)
  · rw [if_neg hc]
    first | with_reducible refine zg_ifN_ne (tgt := 13) dX3_append_8 (by decide) (by omega) (fun cz => ?_) (fun cz => ?_) | refine zg_if_ne (tgt := 13) dX3_append_8 (by decide) (fun cz => ?_) (fun cz => ?_)
    · exact absurd rfl cz
    · refine zg_iconst (v := -1) dX3_append_11 (by decide) ?_
      exact zg_iret dX3_append_12 rfl ⟨_, rfl, rfl, ⟨Or.inl ⟨hc, rfl, rfl⟩, fun _ _ => rfl⟩⟩
set_option maxRecDepth 20000 in
theorem cm_clearText {S : zS} {m : Nat} (hS : MS S m) {mu : zU} {tl uc : Nat} {v tx bp kp : Nat → Int32} {us sn : Nat → Nat → Int32} (hM : MR mu m v tl tx bp uc us kp sn) : zM yX3_clearText cX3_clearText 2 (some .int) 0 0 0 [.inr (m + 1)] S mu (zPi S (fun r mu2 => r = nI tl ∧ MR mu2 m v 0 tx bp uc us kp sn ∧ zfrm mu mu2 m)) := by
  have hN0 : m < S.1 := hS.lt (i := 0) (by decide)
  have k0 := hS.1.2.1
  obtain ⟨v1, ⟨t1, t2, t3⟩, b1, ⟨u1, u2, u3⟩, s1⟩ := id hM
  refine zM.ofG (by decide +kernel) (Nat.le_of_ble_eq_true rfl) ?_
  refine zg_aload_n (i := 0) dX3_clearText_0 rfl rfl ?_
  first | with_reducible refine zg_getIR dX3_clearText_1 flX3_52 (by decide) (by assumption) (by assumption) (by omega) ?_ | refine zg_getI dX3_clearText_1 flX3_52 (by decide) (by assumption) (by assumption) ?_
  refine zg_istore_n (i := 1) (L2 := [_, _]) dX3_clearText_4 rfl (by decide) rfl ?_
  refine zg_aload_n (i := 0) dX3_clearText_5 rfl rfl ?_
  refine zg_iconst (v := nI 0) dX3_clearText_6 (by decide) ?_
  refine zg_putI dX3_clearText_7 flX3_52 (by decide) (by assumption) (by assumption) ?_
  refine zg_iload_n (i := 1) dX3_clearText_10 rfl rfl ?_
  refine zg_iret dX3_clearText_11 rfl ⟨_, rfl, rfl, t1, ⟨fun j hj => ?_, ⟨?_, by omega, fun j hj => absurd hj (by omega)⟩, fun j hj => ?_, ⟨?_, u2, fun i j hi hj => ?_⟩, fun q hq => ⟨?_, fun e j hj => ?_⟩⟩, fun q hq => ?_⟩
  · rw [zup_n (by omega)]; exact v1 j hj
  · rw [zup_s, upd_s]
  · rw [zup_n (by omega)]; exact b1 j hj
  · rw [zup_s, upd_n (by omega)]; exact u1
  · rw [zup_n (by omega)]; exact u3 i j hi hj
  · rw [zup_n (by omega)]; exact (s1 q hq).1
  · rw [zup_n (by omega)]; exact (s1 q hq).2 e j hj
  · rw [zup_n (by omega)]
