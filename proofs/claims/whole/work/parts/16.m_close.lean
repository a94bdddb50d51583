/-! THE REFERENCE: "}", doubles and swaps -/
/-- i of the values from a on have gone down by l -/
def qmv (w : Nat → Int32) (a l i : Nat) : Nat → Int32 := fun j => if a - l ≤ j ∧ j < a - l + i then w (j + l) else w j
theorem qmv_0 (w : Nat → Int32) (a l : Nat) : qmv w a l 0 = w := by
  funext j
  rw [qmv, if_neg (by omega)]
theorem qmv_1 (w : Nat → Int32) {a l : Nat} (i : Nat) (h : l ≤ a) : upd (qmv w a l i) (a + i - l) (w (a + i)) = qmv w a l (i + 1) := by
  funext j
  by_cases hj : j = a + i - l
  · subst hj
    rw [upd_s, qmv, if_pos (by omega), show a + i - l + l = a + i by omega]
  · rw [upd_n hj]
    unfold qmv
    by_cases h2 : a - l ≤ j ∧ j < a - l + i
    · rw [if_pos h2, if_pos (by omega)]
    · rw [if_neg h2, if_neg (by omega)]
theorem qmv_at (w : Nat → Int32) (a l i : Nat) (h : l ≤ a) : qmv w a l i (a + i) = w (a + i) := by
  rw [qmv]
  by_cases h2 : a - l ≤ a + i ∧ a + i < a - l + i
  · omega
  · rw [if_neg h2]
def qzr (w : Nat → Int32) (a i : Nat) : Nat → Int32 := fun j => if a ≤ j ∧ j < a + i then 0 else w j
theorem qzr_0 (w : Nat → Int32) (a : Nat) : qzr w a 0 = w := by
  funext j
  rw [qzr, if_neg (by omega)]
theorem qzr_1 (w : Nat → Int32) (a i : Nat) : upd (qzr w a i) (a + i) 0 = qzr w a (i + 1) := by
  funext j
  by_cases hj : j = a + i
  · subst hj
    rw [upd_s, qzr, if_pos (by omega)]
  · rw [upd_n hj]
    unfold qzr
    by_cases h2 : a ≤ j ∧ j < a + i
    · rw [if_pos h2, if_pos (by omega)]
    · rw [if_neg h2, if_neg (by omega)]
theorem qshift_eq (w : Nat → Int32) {e k l : Nat} (h : k + l ≤ e) : qzr (qmv w (e - k) l k) (e - l) l = qshift w e k l := by
  funext j
  unfold qzr qmv qshift
  by_cases h1 : e - k - l ≤ j ∧ j < e - l
  · rw [if_neg (by omega), if_pos (by omega), if_pos h1]
  · rw [if_neg h1]
    by_cases h2 : e - l ≤ j ∧ j < e
    · rw [if_pos (by omega), if_pos h2]
    · rw [if_neg (by omega), if_neg (by omega), if_neg h2]
set_option maxRecDepth 20000 in
theorem lm_close1 {S : zS} {m : Nat} (hS : MS S m) (mu : zU) (w : Nat → Int32) {p c k l e : Nat} {n : Int32} (hp : p < 4) (he : e ≤ 25) (hk : 9 + k + l ≤ e) (Ph : Option zV → zS → zU → Prop)
    (hx : zG RX3 "closeStack" cX3_closeStack 8 none (zroom 3 0 0) 0 0 Ph 99 [some (.inr (m + 1)), some (.inl (nI p)), some (.inl n), some (.inl (nI c)), some (.inl (nI k)), some (.inl (nI l)), some (.inl (nI e)), some (.inl (nI e))] [] S (zrow mu (m + 1) (qmv w (150 + 25 * p + e - k) l k)) 0 0) :
    ∀ (t i : Nat), i + t = k → zG RX3 "closeStack" cX3_closeStack 8 none (zroom 3 0 0) 0 0 Ph 69 [some (.inr (m + 1)), some (.inl (nI p)), some (.inl n), some (.inl (nI c)), some (.inl (nI k)), some (.inl (nI l)), some (.inl (nI e)), some (.inl (nI (e - k + i)))] [] S (zrow mu (m + 1) (qmv w (150 + 25 * p + e - k) l i)) 0 0 := by
  obtain ⟨⟨hN, k0, k1, -⟩, r0, -⟩ := id hS
  have hN0 : m < S.1 := by omega
  intro t
  induction t with
  | zero =>
    intro i hi
    obtain rfl : i = k := by omega
    refine zg_iload dX3_closeStack_69 rfl ?_
    refine zg_iload dX3_closeStack_71 rfl ?_
    first | with_reducible refine zg_icmpN_ge (tgt := 99) dX3_closeStack_73 (by decide) (by omega) (by omega) (fun c2 => ?_) (fun c2 => ?_) | refine zg_icmp_ge (tgt := 99) dX3_closeStack_73 (by decide) (fun c2 => ?_) (fun c2 => ?_)
    · rw [show e - i + i = e by omega]; exact hx
    · omega
  | succ t ih =>
    intro i hi
    refine zg_iload dX3_closeStack_69 rfl ?_
    refine zg_iload dX3_closeStack_71 rfl ?_
    first | with_reducible refine zg_icmpN_ge (tgt := 99) dX3_closeStack_73 (by decide) (by omega) (by omega) (fun c2 => ?_) (fun c2 => ?_) | refine zg_icmp_ge (tgt := 99) dX3_closeStack_73 (by decide) (fun c2 => ?_) (fun c2 => ?_)
    · omega
    · refine zg_aload_n (i := 0) dX3_closeStack_76 rfl rfl ?_
      refine zg_iload_n (i := 1) dX3_closeStack_77 rfl rfl ?_
      refine zg_iload dX3_closeStack_78 rfl ?_
      refine zg_iload dX3_closeStack_80 rfl ?_
      first | with_reducible refine zg_isubN dX3_closeStack_82 (by omega) ?_ | refine zg_isub dX3_closeStack_82 ?_
      refine zg_aload_n (i := 0) dX3_closeStack_83 rfl rfl ?_
      refine zg_iload_n (i := 1) dX3_closeStack_84 rfl rfl ?_
      refine zg_iload dX3_closeStack_85 rfl ?_
      refine zg_callVi (cm_of hS mu _ (p := p) (w := e - k + i) (by omega)) dX3_closeStack_87 cvX3_of mlX3_69 rfl (by assumption) (by assumption) rfl (Nat.le_of_ble_eq_true rfl) ⟨by decide, by decide⟩ ⟨Nat.le_refl _, Nat.le_refl _⟩ (fun r mu2 h2 => ?_)
      obtain ⟨rfl, rfl⟩ := h2
      refine zg_val (y := w (150 + 25 * p + e - k + i)) (by rw [show 150 + 25 * p + (e - k + i) = 150 + 25 * p + e - k + i by omega, qmv_at _ _ _ _ (by omega)]) ?_
      refine zg_callVv (cm_put hS mu _ (p := p) (w := e - k + i - l) (by omega) _) dX3_closeStack_90 cvX3_put mlX3_80 rfl (by assumption) (by assumption) rfl (Nat.le_of_ble_eq_true rfl) ⟨by decide, by decide⟩ ⟨Nat.le_refl _, Nat.le_refl _⟩ (fun mu2 h2 => ?_)
      subst h2
      rw [show 150 + 25 * p + (e - k + i - l) = 150 + 25 * p + e - k + i - l by omega, qmv_1 w i (by omega)]
      refine zg_iinc1 (L2 := [_, _, _, _, _, _, _, _]) dX3_closeStack_93 (by decide) rfl rfl ?_
      refine zg_goto (tgt := 69) dX3_closeStack_96 (by decide) ?_
      rw [Nat.add_assoc (e - k) i 1]
      exact ih (i + 1) (by omega)
set_option maxRecDepth 20000 in
theorem lm_close2 {S : zS} {m : Nat} (hS : MS S m) (mu : zU) (w : Nat → Int32) {p c k l e : Nat} {n : Int32} (hp : p < 4) (he : e ≤ 25) (hk : l ≤ e) (Ph : Option zV → zS → zU → Prop)
    (hx : zG RX3 "closeStack" cX3_closeStack 8 none (zroom 3 0 0) 0 0 Ph 127 [some (.inr (m + 1)), some (.inl (nI p)), some (.inl n), some (.inl (nI c)), some (.inl (nI k)), some (.inl (nI l)), some (.inl (nI e)), some (.inl (nI e))] [] S (zrow mu (m + 1) (qzr w (150 + 25 * p + e - l) l)) 0 0) :
    ∀ (t i : Nat), i + t = l → zG RX3 "closeStack" cX3_closeStack 8 none (zroom 3 0 0) 0 0 Ph 106 [some (.inr (m + 1)), some (.inl (nI p)), some (.inl n), some (.inl (nI c)), some (.inl (nI k)), some (.inl (nI l)), some (.inl (nI e)), some (.inl (nI (e - l + i)))] [] S (zrow mu (m + 1) (qzr w (150 + 25 * p + e - l) i)) 0 0 := by
  obtain ⟨⟨hN, k0, k1, -⟩, r0, -⟩ := id hS
  have hN0 : m < S.1 := by omega
  intro t
  induction t with
  | zero =>
    intro i hi
    obtain rfl : i = l := by omega
    refine zg_iload dX3_closeStack_106 rfl ?_
    refine zg_iload dX3_closeStack_108 rfl ?_
    first | with_reducible refine zg_icmpN_ge (tgt := 127) dX3_closeStack_110 (by decide) (by omega) (by omega) (fun c2 => ?_) (fun c2 => ?_) | refine zg_icmp_ge (tgt := 127) dX3_closeStack_110 (by decide) (fun c2 => ?_) (fun c2 => ?_)
    · rw [show e - i + i = e by omega]; exact hx
    · omega
  | succ t ih =>
    intro i hi
    refine zg_iload dX3_closeStack_106 rfl ?_
    refine zg_iload dX3_closeStack_108 rfl ?_
    first | with_reducible refine zg_icmpN_ge (tgt := 127) dX3_closeStack_110 (by decide) (by omega) (by omega) (fun c2 => ?_) (fun c2 => ?_) | refine zg_icmp_ge (tgt := 127) dX3_closeStack_110 (by decide) (fun c2 => ?_) (fun c2 => ?_)
    · omega
    · refine zg_aload_n (i := 0) dX3_closeStack_113 rfl rfl ?_
      refine zg_iload_n (i := 1) dX3_closeStack_114 rfl rfl ?_
      refine zg_iload dX3_closeStack_115 rfl ?_
      refine zg_iconst (v := nI 0) dX3_closeStack_117 (by decide) ?_
      refine zg_callVv (cm_put hS mu _ (p := p) (w := e - l + i) (by omega) _) dX3_closeStack_118 cvX3_put mlX3_80 rfl (by assumption) (by assumption) rfl (Nat.le_of_ble_eq_true rfl) ⟨by decide, by decide⟩ ⟨Nat.le_refl _, Nat.le_refl _⟩ (fun mu2 h2 => ?_)
      subst h2
      rw [show 150 + 25 * p + (e - l + i) = 150 + 25 * p + e - l + i by omega, n0, qzr_1]
      refine zg_iinc1 (L2 := [_, _, _, _, _, _, _, _]) dX3_closeStack_121 (by decide) rfl rfl ?_
      refine zg_goto (tgt := 106) dX3_closeStack_124 (by decide) ?_
      rw [Nat.add_assoc (e - l) i 1]
      exact ih (i + 1) (by omega)
set_option maxRecDepth 20000 in
theorem cm_closeStack {S : zS} {m : Nat} (hS : MS S m) (mu : zU) {v : Nat → Int32} {p x y dr ss sl ns s0 s1 s2 : Nat} (hp : p < 4) (hP : PI v (150 + 25 * p) x y dr ss sl ns s0 s1 s2) : zM yX3_closeStack cX3_closeStack 8 none 3 0 0 [.inr (m + 1), .inl (nI p)] S (zrow mu (m + 1) v) (zPv S (fun mu2 => mu2 = zrow mu (m + 1) (qclose v (150 + 25 * p)))) := by
  obtain ⟨⟨hN, k0, k1, -⟩, r0, -⟩ := id hS
  have hN0 : m < S.1 := by omega
  have h5v : v (150 + 25 * p + 5) = nI ns := hP.2.2.2.2.2.1
  obtain ⟨z5v, -, -, -⟩ := hP.ns
  obtain ⟨t0, t1, t2, hQ, -⟩ := hP.pop1
  obtain ⟨hc, hq, hh, hcl⟩ := hQ.cur
  obtain ⟨z5, a1, a2, a3⟩ := hQ.ns
  have h5 : qpop v (150 + 25 * p) (150 + 25 * p + 5) = nI ns := hQ.2.2.2.2.2.1
  refine zM.ofG (by decide +kernel) (Nat.le_of_ble_eq_true rfl) ?_
  refine zg_aload_n (i := 0) dX3_closeStack_0 rfl rfl ?_
  refine zg_iload_n (i := 1) dX3_closeStack_1 rfl rfl ?_
  refine zg_iconst (v := nI 5) dX3_closeStack_2 (by decide) ?_
  refine zg_callVi (cm_of hS mu v (p := p) (w := 5) (by omega)) dX3_closeStack_3 cvX3_of mlX3_69 rfl (by assumption) (by assumption) rfl (Nat.le_of_ble_eq_true rfl) ⟨by decide, by decide⟩ ⟨Nat.le_refl _, Nat.le_refl _⟩ (fun r mu2 h2 => ?_)
  obtain ⟨rfl, rfl⟩ := h2
  refine zg_val h5v ?_
  refine zg_iconst (v := nI 1) dX3_closeStack_6 (by decide) ?_
  first | with_reducible refine zg_icmpN_ne (tgt := 17) dX3_closeStack_7 (by decide) (by omega) (by omega) (fun c => ?_) (fun c => ?_) | refine zg_icmp_ne (tgt := 17) dX3_closeStack_7 (by decide) (fun c => ?_) (fun c => ?_)
  · refine zg_aload_n (i := 0) dX3_closeStack_17 rfl rfl ?_
    refine zg_iload_n (i := 1) dX3_closeStack_18 rfl rfl ?_
    refine zg_callVi (cm_pop hS mu hp hP) dX3_closeStack_19 cvX3_pop mlX3_87 rfl (by assumption) (by assumption) rfl (Nat.le_of_ble_eq_true rfl) ⟨by decide, by decide⟩ ⟨Nat.le_refl _, Nat.le_refl _⟩ (fun r mu2 h2 => ?_)
    obtain ⟨rfl, rfl⟩ := h2
    rw [qclose, z5v, if_neg c]
    generalize qpopR v (150 + 25 * p) = n
    generalize qpop v (150 + 25 * p) = w at *
    have hkle := qclamp_le n (n := PIsc ns t0 t1 t2) (by omega)
    have hcls := (hQ.cls c hkle).1
    rw [qclose1, hq, zn_of hc (by omega), hcls]
    refine zg_istore_n (i := 2) (L2 := [_, _, _, _, _, _, _, _]) dX3_closeStack_22 rfl (by decide) rfl ?_
    refine zg_aload_n (i := 0) dX3_closeStack_23 rfl rfl ?_
    refine zg_iload_n (i := 1) dX3_closeStack_24 rfl rfl ?_
    refine zg_callVi (cm_current hS mu hp h5 a1) dX3_closeStack_25 cvX3_current mlX3_73 rfl (by assumption) (by assumption) rfl (Nat.le_of_ble_eq_true rfl) ⟨by decide, by decide⟩ ⟨Nat.le_refl _, Nat.le_refl _⟩ (fun r mu2 h2 => ?_)
    obtain ⟨rfl, rfl⟩ := h2
    refine zg_istore_n (i := 3) (L2 := [_, _, _, _, _, _, _, _]) dX3_closeStack_28 rfl (by decide) rfl ?_
    refine zg_iload_n (i := 2) dX3_closeStack_29 rfl rfl ?_
    refine zg_aload_n (i := 0) dX3_closeStack_30 rfl rfl ?_
    refine zg_iload_n (i := 1) dX3_closeStack_31 rfl rfl ?_
    refine zg_iload_n (i := 3) dX3_closeStack_32 rfl rfl ?_
    refine zg_callVi (cm_of hS mu w (p := p) (w := 5 + ns) (by omega)) dX3_closeStack_33 cvX3_of mlX3_69 rfl (by assumption) (by assumption) rfl (Nat.le_of_ble_eq_true rfl) ⟨by decide, by decide⟩ ⟨Nat.le_refl _, Nat.le_refl _⟩ (fun r mu2 h2 => ?_)
    obtain ⟨rfl, rfl⟩ := h2
    refine zg_val (y := nI (PIsc ns t0 t1 t2)) (by rw [← Nat.add_assoc]; exact hc) ?_
    refine zg_callSi (cm_clamp S (zrow mu (m + 1) w) n (n := PIsc ns t0 t1 t2) (by omega)) dX3_closeStack_36 ctX3_clamp mlX3_90 rfl rfl (Nat.le_of_ble_eq_true rfl) ⟨by decide, by decide⟩ ⟨Nat.le_refl _, Nat.le_refl _⟩ (fun r mu2 h2 => ?_)
    obtain ⟨rfl, rfl⟩ := h2
    generalize qclamp n (PIsc ns t0 t1 t2) = k at *
    refine zg_istore (L2 := [_, _, _, _, _, _, _, _]) dX3_closeStack_39 (by decide) rfl ?_
    refine zg_aload_n (i := 0) dX3_closeStack_41 rfl rfl ?_
    refine zg_iload_n (i := 1) dX3_closeStack_42 rfl rfl ?_
    refine zg_iload_n (i := 3) dX3_closeStack_43 rfl rfl ?_
    refine zg_callVi (cm_of hS mu w (p := p) (w := 5 + ns) (by omega)) dX3_closeStack_44 cvX3_of mlX3_69 rfl (by assumption) (by assumption) rfl (Nat.le_of_ble_eq_true rfl) ⟨by decide, by decide⟩ ⟨Nat.le_refl _, Nat.le_refl _⟩ (fun r mu2 h2 => ?_)
    obtain ⟨rfl, rfl⟩ := h2
    refine zg_val (y := nI (PIsc ns t0 t1 t2)) (by rw [← Nat.add_assoc]; exact hc) ?_
    refine zg_iload dX3_closeStack_47 rfl ?_
    first | with_reducible refine zg_isubN dX3_closeStack_49 (by omega) ?_ | refine zg_isub dX3_closeStack_49 ?_
    refine zg_istore (L2 := [_, _, _, _, _, _, _, _]) dX3_closeStack_50 (by decide) rfl ?_
    refine zg_bipush (v := nI 9) dX3_closeStack_52 (by decide) ?_
    refine zg_aload_n (i := 0) dX3_closeStack_54 rfl rfl ?_
    refine zg_iload_n (i := 1) dX3_closeStack_55 rfl rfl ?_
    refine zg_callVi (cm_heldBy hS mu hp hQ) dX3_closeStack_56 cvX3_heldBy mlX3_77 rfl (by assumption) (by assumption) rfl (Nat.le_of_ble_eq_true rfl) ⟨by decide, by decide⟩ ⟨Nat.le_refl _, Nat.le_refl _⟩ (fun r mu2 h2 => ?_)
    obtain ⟨rfl, rfl⟩ := h2
    first | with_reducible refine zg_iaddN dX3_closeStack_59 ?_ | refine zg_iadd dX3_closeStack_59 ?_
    refine zg_istore (L2 := [_, _, _, _, _, _, _, _]) dX3_closeStack_60 (by decide) rfl ?_
    refine zg_iload dX3_closeStack_62 rfl ?_
    refine zg_iload dX3_closeStack_64 rfl ?_
    first | with_reducible refine zg_isubN dX3_closeStack_66 (by omega) ?_ | refine zg_isub dX3_closeStack_66 ?_
    refine zg_istore (L2 := [_, _, _, _, _, _, _, _]) dX3_closeStack_67 (by decide) rfl ?_
    refine zg_mu (mu2 := zrow mu (m + 1) (qmv w (150 + 25 * p + (9 + (t0 + t1 + t2)) - k) (PIsc ns t0 t1 t2 - k) 0)) (by rw [qmv_0]) ?_
    refine lm_close1 hS mu w (p := p) (c := 5 + ns) (k := k) (l := PIsc ns t0 t1 t2 - k) (e := 9 + (t0 + t1 + t2)) (n := n) hp (by omega) (by omega) _ ?_ k 0 (by omega)
    refine zg_iload dX3_closeStack_99 rfl ?_
    refine zg_iload dX3_closeStack_101 rfl ?_
    first | with_reducible refine zg_isubN dX3_closeStack_103 (by omega) ?_ | refine zg_isub dX3_closeStack_103 ?_
    refine zg_istore (L2 := [_, _, _, _, _, _, _, _]) dX3_closeStack_104 (by decide) rfl ?_
    refine zg_mu (mu2 := zrow mu (m + 1) (qzr (qmv w (150 + 25 * p + (9 + (t0 + t1 + t2)) - k) (PIsc ns t0 t1 t2 - k) k) (150 + 25 * p + (9 + (t0 + t1 + t2)) - (PIsc ns t0 t1 t2 - k)) 0)) (by rw [qzr_0]) ?_
    refine lm_close2 hS mu (qmv w (150 + 25 * p + (9 + (t0 + t1 + t2)) - k) (PIsc ns t0 t1 t2 - k) k) (p := p) (c := 5 + ns) (k := k) (l := PIsc ns t0 t1 t2 - k) (e := 9 + (t0 + t1 + t2)) (n := n) hp (by omega) (by omega) _ ?_ (PIsc ns t0 t1 t2 - k) 0 (by omega)
    rw [qshift_eq w (by omega), show 150 + 25 * p + (9 + (t0 + t1 + t2)) = 150 + 25 * p + 9 + (t0 + t1 + t2) by omega]
    have hsh : ∀ i, i < 150 + 25 * p + 9 → qshift w (150 + 25 * p + 9 + (t0 + t1 + t2)) k (PIsc ns t0 t1 t2 - k) i = w i := by
      intro i hi
      rw [qshift, if_neg (by omega), if_neg (by omega)]
    generalize qshift w (150 + 25 * p + 9 + (t0 + t1 + t2)) k (PIsc ns t0 t1 t2 - k) = u at *
    refine zg_aload_n (i := 0) dX3_closeStack_127 rfl rfl ?_
    refine zg_iload_n (i := 1) dX3_closeStack_128 rfl rfl ?_
    refine zg_iload_n (i := 3) dX3_closeStack_129 rfl rfl ?_
    refine zg_iconst (v := nI 0) dX3_closeStack_130 (by decide) ?_
    refine zg_callVv (cm_put hS mu _ (p := p) (w := 5 + ns) (by omega) _) dX3_closeStack_131 cvX3_put mlX3_80 rfl (by assumption) (by assumption) rfl (Nat.le_of_ble_eq_true rfl) ⟨by decide, by decide⟩ ⟨Nat.le_refl _, Nat.le_refl _⟩ (fun mu2 h2 => ?_)
    subst h2
    refine zg_aload_n (i := 0) dX3_closeStack_134 rfl rfl ?_
    refine zg_iload_n (i := 1) dX3_closeStack_135 rfl rfl ?_
    refine zg_iload_n (i := 3) dX3_closeStack_136 rfl rfl ?_
    refine zg_iconst (v := nI 1) dX3_closeStack_137 (by decide) ?_
    first | with_reducible refine zg_isubN dX3_closeStack_138 (by omega) ?_ | refine zg_isub dX3_closeStack_138 ?_
    refine zg_aload_n (i := 0) dX3_closeStack_139 rfl rfl ?_
    refine zg_iload_n (i := 1) dX3_closeStack_140 rfl rfl ?_
    refine zg_iload_n (i := 3) dX3_closeStack_141 rfl rfl ?_
    refine zg_iconst (v := nI 1) dX3_closeStack_142 (by decide) ?_
    first | with_reducible refine zg_isubN dX3_closeStack_143 (by omega) ?_ | refine zg_isub dX3_closeStack_143 ?_
    refine zg_callVi (cm_of hS mu _ (p := p) (w := 5 + ns - 1) (by omega)) dX3_closeStack_144 cvX3_of mlX3_69 rfl (by assumption) (by assumption) rfl (Nat.le_of_ble_eq_true rfl) ⟨by decide, by decide⟩ ⟨Nat.le_refl _, Nat.le_refl _⟩ (fun r mu2 h2 => ?_)
    obtain ⟨rfl, rfl⟩ := h2
    refine zg_val (y := nI (if ns = 2 then t0 else t1)) (by
      rw [upd_n (by omega), hsh _ (by omega)]
      rcases (show ns = 2 ∨ ns = 3 by omega) with rfl | rfl
      · exact hQ.2.2.2.2.2.2.1
      · exact hQ.2.2.2.2.2.2.2.1) ?_
    refine zg_iload dX3_closeStack_147 rfl ?_
    first | with_reducible refine zg_iaddN dX3_closeStack_149 ?_ | refine zg_iadd dX3_closeStack_149 ?_
    refine zg_callVv (cm_put hS mu _ (p := p) (w := 5 + ns - 1) (by omega) _) dX3_closeStack_150 cvX3_put mlX3_80 rfl (by assumption) (by assumption) rfl (Nat.le_of_ble_eq_true rfl) ⟨by decide, by decide⟩ ⟨Nat.le_refl _, Nat.le_refl _⟩ (fun mu2 h2 => ?_)
    subst h2
    refine zg_aload_n (i := 0) dX3_closeStack_153 rfl rfl ?_
    refine zg_iload_n (i := 1) dX3_closeStack_154 rfl rfl ?_
    refine zg_iconst (v := nI 5) dX3_closeStack_155 (by decide) ?_
    refine zg_aload_n (i := 0) dX3_closeStack_156 rfl rfl ?_
    refine zg_iload_n (i := 1) dX3_closeStack_157 rfl rfl ?_
    refine zg_iconst (v := nI 5) dX3_closeStack_158 (by decide) ?_
    refine zg_callVi (cm_of hS mu _ (p := p) (w := 5) (by omega)) dX3_closeStack_159 cvX3_of mlX3_69 rfl (by assumption) (by assumption) rfl (Nat.le_of_ble_eq_true rfl) ⟨by decide, by decide⟩ ⟨Nat.le_refl _, Nat.le_refl _⟩ (fun r mu2 h2 => ?_)
    obtain ⟨rfl, rfl⟩ := h2
    refine zg_val (y := nI ns) (by rw [upd_n (by omega), upd_n (by omega), hsh _ (by omega)]; exact h5) ?_
    refine zg_iconst (v := nI 1) dX3_closeStack_162 (by decide) ?_
    first | with_reducible refine zg_isubN dX3_closeStack_163 (by omega) ?_ | refine zg_isub dX3_closeStack_163 ?_
    refine zg_callVv (cm_put hS mu _ (p := p) (w := 5) (by omega) _) dX3_closeStack_164 cvX3_put mlX3_80 rfl (by assumption) (by assumption) rfl (Nat.le_of_ble_eq_true rfl) ⟨by decide, by decide⟩ ⟨Nat.le_refl _, Nat.le_refl _⟩ (fun mu2 h2 => ?_)
    subst h2
    refine zg_vret dX3_closeStack_167 rfl ⟨rfl, rfl, ?_⟩
    show zrow _ _ _ = zrow _ _ _
    rw [show 150 + 25 * p + (5 + ns) = 150 + 25 * p + 5 + ns by omega, show 150 + 25 * p + (5 + ns - 1) = 150 + 25 * p + 4 + ns by omega, n0]
  · refine zg_aload_n (i := 0) dX3_closeStack_10 rfl rfl ?_
    refine zg_iload_n (i := 1) dX3_closeStack_11 rfl rfl ?_
    refine zg_iconst (v := nI 2) dX3_closeStack_12 (by decide) ?_
    refine zg_callVv (cm_turn hS mu hp hP (n := 2) (by omega)) dX3_closeStack_13 cvX3_turn mlX3_93 rfl (by assumption) (by assumption) rfl (Nat.le_of_ble_eq_true rfl) ⟨by decide, by decide⟩ ⟨Nat.le_refl _, Nat.le_refl _⟩ (fun mu2 h2 => ?_)
    subst h2
    refine zg_vret dX3_closeStack_16 rfl ⟨rfl, rfl, ?_⟩
    show zrow _ _ _ = zrow _ _ _
    rw [qclose, z5v, if_pos c]
set_option maxRecDepth 20000 in
theorem cm_swapTop {S : zS} {m : Nat} (hS : MS S m) (mu : zU) {v : Nat → Int32} {p x y dr ss sl ns s0 s1 s2 : Nat} (hp : p < 4) (hP : PI v (150 + 25 * p) x y dr ss sl ns s0 s1 s2) : zM yX3_swapTop cX3_swapTop 4 none 3 0 0 [.inr (m + 1), .inl (nI p)] S (zrow mu (m + 1) v) (zPv S (fun mu2 => mu2 = zrow mu (m + 1) (qswap v (150 + 25 * p)))) := by
  obtain ⟨⟨hN, k0, k1, -⟩, r0, -⟩ := id hS
  have hN0 : m < S.1 := by omega
  obtain ⟨t0, t1, t2, hQ, -⟩ := hP.pop1
  obtain ⟨u0, u1, u2, hU, -⟩ := hQ.pop1
  obtain ⟨ss2, w0, w1, w2, hW⟩ := hU.push1 (qpopR v (150 + 25 * p))
  refine zM.ofG (by decide +kernel) (Nat.le_of_ble_eq_true rfl) ?_
  refine zg_aload_n (i := 0) dX3_swapTop_0 rfl rfl ?_
  refine zg_iload_n (i := 1) dX3_swapTop_1 rfl rfl ?_
  refine zg_callVi (cm_pop hS mu hp hP) dX3_swapTop_2 cvX3_pop mlX3_87 rfl (by assumption) (by assumption) rfl (Nat.le_of_ble_eq_true rfl) ⟨by decide, by decide⟩ ⟨Nat.le_refl _, Nat.le_refl _⟩ (fun r mu2 h2 => ?_)
  obtain ⟨rfl, rfl⟩ := h2
  refine zg_istore_n (i := 2) (L2 := [_, _, _, _]) dX3_swapTop_5 rfl (by decide) rfl ?_
  refine zg_aload_n (i := 0) dX3_swapTop_6 rfl rfl ?_
  refine zg_iload_n (i := 1) dX3_swapTop_7 rfl rfl ?_
  refine zg_callVi (cm_pop hS mu hp hQ) dX3_swapTop_8 cvX3_pop mlX3_87 rfl (by assumption) (by assumption) rfl (Nat.le_of_ble_eq_true rfl) ⟨by decide, by decide⟩ ⟨Nat.le_refl _, Nat.le_refl _⟩ (fun r mu2 h2 => ?_)
  obtain ⟨rfl, rfl⟩ := h2
  refine zg_istore_n (i := 3) (L2 := [_, _, _, _]) dX3_swapTop_11 rfl (by decide) rfl ?_
  refine zg_aload_n (i := 0) dX3_swapTop_12 rfl rfl ?_
  refine zg_iload_n (i := 1) dX3_swapTop_13 rfl rfl ?_
  refine zg_iload_n (i := 2) dX3_swapTop_14 rfl rfl ?_
  refine zg_callVv (cm_push hS mu hp hU (qpopR v (150 + 25 * p))) dX3_swapTop_15 cvX3_push mlX3_97 rfl (by assumption) (by assumption) rfl (Nat.le_of_ble_eq_true rfl) ⟨by decide, by decide⟩ ⟨Nat.le_refl _, Nat.le_refl _⟩ (fun mu2 h2 => ?_)
  subst h2
  refine zg_aload_n (i := 0) dX3_swapTop_18 rfl rfl ?_
  refine zg_iload_n (i := 1) dX3_swapTop_19 rfl rfl ?_
  refine zg_iconst (v := nI 3) dX3_swapTop_20 (by decide) ?_
  refine zg_callVi (cm_of hS mu _ (p := p) (w := 3) (by omega)) dX3_swapTop_21 cvX3_of mlX3_69 rfl (by assumption) (by assumption) rfl (Nat.le_of_ble_eq_true rfl) ⟨by decide, by decide⟩ ⟨Nat.le_refl _, Nat.le_refl _⟩ (fun r mu2 h2 => ?_)
  obtain ⟨rfl, rfl⟩ := h2
  refine zg_if_ne (tgt := 33) dX3_swapTop_24 (by decide) (fun c => ?_) (fun c => ?_)
  · refine zg_vret dX3_swapTop_33 rfl ⟨rfl, rfl, ?_⟩
    show zrow _ _ _ = zrow _ _ _
    rw [qswap, qpush2, if_neg c]
  · refine zg_aload_n (i := 0) dX3_swapTop_27 rfl rfl ?_
    refine zg_iload_n (i := 1) dX3_swapTop_28 rfl rfl ?_
    refine zg_iload_n (i := 3) dX3_swapTop_29 rfl rfl ?_
    refine zg_callVv (cm_push hS mu hp hW _) dX3_swapTop_30 cvX3_push mlX3_97 rfl (by assumption) (by assumption) rfl (Nat.le_of_ble_eq_true rfl) ⟨by decide, by decide⟩ ⟨Nat.le_refl _, Nat.le_refl _⟩ (fun mu2 h2 => ?_)
    subst h2
    refine zg_vret dX3_swapTop_33 rfl ⟨rfl, rfl, ?_⟩
    show zrow _ _ _ = zrow _ _ _
    rw [qswap, qpush2, if_pos c]
set_option maxRecDepth 20000 in
theorem cm_duplicate {S : zS} {m : Nat} (hS : MS S m) (mu : zU) {v : Nat → Int32} {p x y dr ss sl ns s0 s1 s2 : Nat} (hp : p < 4) (hP : PI v (150 + 25 * p) x y dr ss sl ns s0 s1 s2) : zM yX3_duplicate cX3_duplicate 3 none 3 0 0 [.inr (m + 1), .inl (nI p)] S (zrow mu (m + 1) v) (zPv S (fun mu2 => mu2 = zrow mu (m + 1) (qdup v (150 + 25 * p)))) := by
  obtain ⟨⟨hN, k0, k1, -⟩, r0, -⟩ := id hS
  have hN0 : m < S.1 := by omega
  obtain ⟨t0, t1, t2, hQ, -⟩ := hP.pop1
  obtain ⟨ss2, w0, w1, w2, hW⟩ := hQ.push1 (qpopR v (150 + 25 * p))
  refine zM.ofG (by decide +kernel) (Nat.le_of_ble_eq_true rfl) ?_
  refine zg_aload_n (i := 0) dX3_duplicate_0 rfl rfl ?_
  refine zg_iload_n (i := 1) dX3_duplicate_1 rfl rfl ?_
  refine zg_callVi (cm_pop hS mu hp hP) dX3_duplicate_2 cvX3_pop mlX3_87 rfl (by assumption) (by assumption) rfl (Nat.le_of_ble_eq_true rfl) ⟨by decide, by decide⟩ ⟨Nat.le_refl _, Nat.le_refl _⟩ (fun r mu2 h2 => ?_)
  obtain ⟨rfl, rfl⟩ := h2
  refine zg_istore_n (i := 2) (L2 := [_, _, _]) dX3_duplicate_5 rfl (by decide) rfl ?_
  refine zg_aload_n (i := 0) dX3_duplicate_6 rfl rfl ?_
  refine zg_iload_n (i := 1) dX3_duplicate_7 rfl rfl ?_
  refine zg_iload_n (i := 2) dX3_duplicate_8 rfl rfl ?_
  refine zg_callVv (cm_push hS mu hp hQ (qpopR v (150 + 25 * p))) dX3_duplicate_9 cvX3_push mlX3_97 rfl (by assumption) (by assumption) rfl (Nat.le_of_ble_eq_true rfl) ⟨by decide, by decide⟩ ⟨Nat.le_refl _, Nat.le_refl _⟩ (fun mu2 h2 => ?_)
  subst h2
  refine zg_aload_n (i := 0) dX3_duplicate_12 rfl rfl ?_
  refine zg_iload_n (i := 1) dX3_duplicate_13 rfl rfl ?_
  refine zg_iconst (v := nI 3) dX3_duplicate_14 (by decide) ?_
  refine zg_callVi (cm_of hS mu _ (p := p) (w := 3) (by omega)) dX3_duplicate_15 cvX3_of mlX3_69 rfl (by assumption) (by assumption) rfl (Nat.le_of_ble_eq_true rfl) ⟨by decide, by decide⟩ ⟨Nat.le_refl _, Nat.le_refl _⟩ (fun r mu2 h2 => ?_)
  obtain ⟨rfl, rfl⟩ := h2
  refine zg_if_ne (tgt := 27) dX3_duplicate_18 (by decide) (fun c => ?_) (fun c => ?_)
  · refine zg_vret dX3_duplicate_27 rfl ⟨rfl, rfl, ?_⟩
    show zrow _ _ _ = zrow _ _ _
    rw [qdup, qpush2, if_neg c]
  · refine zg_aload_n (i := 0) dX3_duplicate_21 rfl rfl ?_
    refine zg_iload_n (i := 1) dX3_duplicate_22 rfl rfl ?_
    refine zg_iload_n (i := 2) dX3_duplicate_23 rfl rfl ?_
    refine zg_callVv (cm_push hS mu hp hW _) dX3_duplicate_24 cvX3_push mlX3_97 rfl (by assumption) (by assumption) rfl (Nat.le_of_ble_eq_true rfl) ⟨by decide, by decide⟩ ⟨Nat.le_refl _, Nat.le_refl _⟩ (fun mu2 h2 => ?_)
    subst h2
    refine zg_vret dX3_duplicate_27 rfl ⟨rfl, rfl, ?_⟩
    show zrow _ _ _ = zrow _ _ _
    rw [qdup, qpush2, if_pos c]
