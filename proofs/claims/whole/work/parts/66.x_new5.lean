/-! THE CONSTRUCTORS: the class -/
theorem qcnt_zero : ∀ n, qcnt (fun _ => nI 0) n = 0
  | 0 => rfl
  | n + 1 => by rw [qcnt, qcnt_zero n, if_pos nI_0]
set_option maxRecDepth 20000 in
theorem lx_X2i42 {S0 : zS} {x : Nat} {mu0 : zU} (Ph : Option zV → zS → zU → Prop)
    (hx : ∀ S mu, XB S0 mu0 x 137 23 6 0 S mu → zG RX2 "<init>" cX2_init 2 none (zroom 3 214 3593) 214 3593 Ph 67 [some (.inr (x + 1)), some (.inl (nI 6))] [] S mu (22 + 19 * 6) (479 + 311 * 6)) :
    ∀ (d i : Nat) (S : zS) (mu : zU), i + d = 6 → XB S0 mu0 x (23 + 19 * i) 23 i 0 S mu → zG RX2 "<init>" cX2_init 2 none (zroom 3 214 3593) 214 3593 Ph 42 [some (.inr (x + 1)), some (.inl (nI i))] [] S mu (22 + 19 * i) (479 + 311 * i) := by
  intro d
  induction d with
  | zero =>
    intro i S mu hid h
    obtain rfl : i = 6 := by omega
    refine zg_iload_n (i := 1) dX2_init_42 rfl rfl ?_
    refine zg_bipush (v := nI 6) dX2_init_43 (by decide) ?_
    first | with_reducible refine zg_icmpN_ge (tgt := 67) dX2_init_45 (by decide) (by omega) (by omega) (fun c => ?_) (fun c => ?_) | refine zg_icmp_ge (tgt := 67) dX2_init_45 (by decide) (fun c => ?_) (fun c => ?_)
    · exact hx S mu h
    · omega
  | succ d ih =>
    intro i S mu hid h
    have a1 := h.1.1
    have hN0 : x < S.1 := by omega
    have hk : S.2.1 x = (0, 2) := h.2.2.1 0 _ (by left; exact ⟨rfl, rfl⟩) (by omega)
    have hr : S.2.2 x 5 = x + 22 + 1 := h.2.2.2.2.2.1 5 22 (by right; right; right; left; exact ⟨rfl, rfl⟩) (by omega)
    refine zg_iload_n (i := 1) dX2_init_42 rfl rfl ?_
    refine zg_bipush (v := nI 6) dX2_init_43 (by decide) ?_
    first | with_reducible refine zg_icmpN_ge (tgt := 67) dX2_init_45 (by decide) (by omega) (by omega) (fun c => ?_) (fun c => ?_) | refine zg_icmp_ge (tgt := 67) dX2_init_45 (by decide) (fun c => ?_) (fun c => ?_)
    · omega
    · refine zg_aload_n (i := 0) dX2_init_48 rfl rfl ?_
      refine zg_getR dX2_init_49 flX2_24 (by decide) (by assumption) (by assumption) (by assumption) ?_
      refine zg_iload_n (i := 1) dX2_init_52 rfl rfl ?_
      refine zg_st h (by right; right; right; left; exact ⟨i, by omega, rfl⟩) dX2_init_53 dX2_init_56 dX2_init_57 (zok_r hN0 (zok_i (zok_nil _))) (zok_i (zok_r (by omega) (zok_nil _))) (Nat.le_of_ble_eq_true rfl) ⟨by decide, by decide⟩ ⟨by show 22 + 19 * i + 19 ≤ 214; omega, by show 479 + 311 * i + 311 ≤ 3593; omega⟩ (fun T mu2 hT => ?_)
      have t1 := hT.1.1
      have hk22 : T.2.1 (x + 22) = (4, 6) := hT.2.2.1 22 _ (by right; right; right; left; exact ⟨rfl, rfl⟩) (by omega)
      have hss := (hT.2.2.2.2.2.2.1 (23 + 19 * i) (by right; right; right; left; exact ⟨i, by omega, rfl⟩) (by omega)).1
      refine zg_sast (k := x + 22) (q := x + (23 + 19 * i)) dX2_init_60 hk22 (by omega) rfl (by omega) (by decide) hss.2.1 (by omega) ?_
      refine zg_iinc1 (L2 := [_, _]) dX2_init_61 (by decide) rfl rfl ?_
      refine zg_goto (tgt := 42) dX2_init_64 (by decide) ?_
      refine zg_cs (c2 := 22 + 19 * (i + 1)) (s2 := 479 + 311 * (i + 1)) (by omega) (by omega) ?_
      rw [show x + (23 + 19 * i) + 1 = x + 23 + 19 * i + 1 by omega]
      have key := XB_un hT (by omega)
      rw [show 23 + 19 * i + 19 = 23 + 19 * (i + 1) by omega] at key
      exact ih (i + 1) _ _ (by omega) key
set_option maxRecDepth 20000 in
theorem lx_X2i77 {S0 : zS} {x : Nat} {mu0 : zU} (Ph : Option zV → zS → zU → Prop)
    (hx : ∀ S mu, XB S0 mu0 x 176 138 6 2 S mu → zG RX2 "<init>" cX2_init 2 none (zroom 3 214 3593) 214 3593 Ph 101 [some (.inr (x + 1)), some (.inl (nI 2))] [] S mu (137 + 19 * 2) (2347 + 311 * 2)) :
    ∀ (d i : Nat) (S : zS) (mu : zU), i + d = 2 → XB S0 mu0 x (138 + 19 * i) 138 6 i S mu → zG RX2 "<init>" cX2_init 2 none (zroom 3 214 3593) 214 3593 Ph 77 [some (.inr (x + 1)), some (.inl (nI i))] [] S mu (137 + 19 * i) (2347 + 311 * i) := by
  intro d
  induction d with
  | zero =>
    intro i S mu hid h
    obtain rfl : i = 2 := by omega
    refine zg_iload_n (i := 1) dX2_init_77 rfl rfl ?_
    refine zg_iconst (v := nI 2) dX2_init_78 (by decide) ?_
    first | with_reducible refine zg_icmpN_ge (tgt := 101) dX2_init_79 (by decide) (by omega) (by omega) (fun c => ?_) (fun c => ?_) | refine zg_icmp_ge (tgt := 101) dX2_init_79 (by decide) (fun c => ?_) (fun c => ?_)
    · exact hx S mu h
    · omega
  | succ d ih =>
    intro i S mu hid h
    have a1 := h.1.1
    have hN0 : x < S.1 := by omega
    have hk : S.2.1 x = (0, 2) := h.2.2.1 0 _ (by left; exact ⟨rfl, rfl⟩) (by omega)
    have hr : S.2.2 x 7 = x + 137 + 1 := h.2.2.2.2.2.1 7 137 (by right; right; right; right; left; exact ⟨rfl, rfl⟩) (by omega)
    refine zg_iload_n (i := 1) dX2_init_77 rfl rfl ?_
    refine zg_iconst (v := nI 2) dX2_init_78 (by decide) ?_
    first | with_reducible refine zg_icmpN_ge (tgt := 101) dX2_init_79 (by decide) (by omega) (by omega) (fun c => ?_) (fun c => ?_) | refine zg_icmp_ge (tgt := 101) dX2_init_79 (by decide) (fun c => ?_) (fun c => ?_)
    · omega
    · refine zg_aload_n (i := 0) dX2_init_82 rfl rfl ?_
      refine zg_getR dX2_init_83 flX2_28 (by decide) (by assumption) (by assumption) (by assumption) ?_
      refine zg_iload_n (i := 1) dX2_init_86 rfl rfl ?_
      refine zg_st h (by right; right; right; right; exact ⟨i, by omega, rfl⟩) dX2_init_87 dX2_init_90 dX2_init_91 (zok_r hN0 (zok_i (zok_nil _))) (zok_i (zok_r (by omega) (zok_nil _))) (Nat.le_of_ble_eq_true rfl) ⟨by decide, by decide⟩ ⟨by show 137 + 19 * i + 19 ≤ 214; omega, by show 2347 + 311 * i + 311 ≤ 3593; omega⟩ (fun T mu2 hT => ?_)
      have t1 := hT.1.1
      have hk22 : T.2.1 (x + 137) = (4, 2) := hT.2.2.1 137 _ (by right; right; right; right; left; exact ⟨rfl, rfl⟩) (by omega)
      have hss := (hT.2.2.2.2.2.2.1 (138 + 19 * i) (by right; right; right; right; exact ⟨i, by omega, rfl⟩) (by omega)).1
      refine zg_sast (k := x + 137) (q := x + (138 + 19 * i)) dX2_init_94 hk22 (by omega) rfl (by omega) (by decide) hss.2.1 (by omega) ?_
      refine zg_iinc1 (L2 := [_, _]) dX2_init_95 (by decide) rfl rfl ?_
      refine zg_goto (tgt := 77) dX2_init_98 (by decide) ?_
      refine zg_cs (c2 := 137 + 19 * (i + 1)) (s2 := 2347 + 311 * (i + 1)) (by omega) (by omega) ?_
      rw [show x + (138 + 19 * i) + 1 = x + 138 + 19 * i + 1 by omega]
      have key := XB_sn hT (by omega)
      rw [show 138 + 19 * i + 19 = 138 + 19 * (i + 1) by omega] at key
      exact ih (i + 1) _ _ (by omega) key
theorem XB_end {S0 S : zS} {mu0 mu : zU} {x : Nat} (h : XB S0 mu0 x 215 215 6 2 S mu) : XS S x (fun t => t) ∧ XR mu x (fun t => t) qv0 0 (fun _ => nI 0) (fun _ => nI 0) 0 (fun _ _ => nI 0) (fun _ => nI 0) (fun _ _ => nI 0) := by
  obtain ⟨⟨a1, a2, a3, a4, a5⟩, b0, b1, b2, b3, b4, b5, b6, b7⟩ := h
  have e01 : ¬ (nI 0 = nI 1) := by decide
  refine ⟨⟨⟨by omega, b1 0 _ (by simp [xk]) (by omega), b1 1 _ (by simp [xk]) (by omega), b1 2 _ (by simp [xk]) (by omega), b1 22 _ (by simp [xk]) (by omega), b1 137 _ (by simp [xk]) (by omega), b1 176 _ (by simp [xk]) (by omega)⟩, ⟨b4 0 1 (by simp [xf]) (by omega), b4 2 2 (by simp [xf]) (by omega), b4 4 3 (by simp [xf]) (by omega), b4 5 22 (by simp [xf]) (by omega), b4 7 137 (by simp [xf]) (by omega), b4 8 176 (by simp [xf]) (by omega), b4 9 177 (by simp [xf]) (by omega), b4 10 196 (by simp [xf]) (by omega)⟩, ⟨(b5 3 (by left; rfl) (by omega)).1, (b5 177 (by right; left; rfl) (by omega)).1, (b5 196 (by right; right; left; rfl) (by omega)).1⟩, fun t ht => ⟨?_, b6 t ht, ht⟩, fun _ _ _ _ e => e, fun s hs => ⟨b7 s hs, ?_⟩⟩, ⟨[0], (b5 3 (by left; rfl) (by omega)).2⟩, ⟨by rw [b2], by omega, fun j hj => absurd hj (Nat.not_lt_zero j)⟩, ⟨fun j hj => ⟨congrFun (b3 2 (by simp [xz]) (by omega)) j, Or.inl rfl⟩, by rw [b2, qcnt_zero]⟩, ⟨by rw [b2], by omega, fun i hi => absurd hi (Nat.not_lt_zero i)⟩, fun q hq => ⟨congrFun (b3 176 (by simp [xz]) (by omega)) q, Or.inl rfl, fun e => absurd e e01⟩⟩
  · have := (b5 (23 + 19 * t) (by right; right; right; left; exact ⟨t, ht, rfl⟩) (by omega)).1
    rwa [show x + (23 + 19 * t) = x + 23 + 19 * t by omega] at this
  · have := (b5 (138 + 19 * s) (by right; right; right; right; exact ⟨s, hs, rfl⟩) (by omega)).1
    rwa [show x + (138 + 19 * s) = x + 138 + 19 * s by omega] at this
theorem XB_hk {S0 S : zS} {mu0 mu : zU} {x n f u w : Nat} (h : XB S0 mu0 x n f u w S mu) : S.2.1 x = (0, 2) := h.2.2.1 0 _ (by left; exact ⟨rfl, rfl⟩) h.1.2.2.1
theorem XB_lt {S0 S : zS} {mu0 mu : zU} {x n f u w : Nat} (h : XB S0 mu0 x n f u w S mu) : x < S.1 := by
  have := h.1.1
  have := h.1.2.2.1
  omega
set_option maxRecDepth 20000 in
theorem cx_X2_init {S : zS} {x : Nat} {mu : zU} (hw : zwf S) (hN : S.1 = x + 1) (hk : S.2.1 x = (0, 2)) (hm : mu x = fun _ => nI 0) : zM yX2_init cX2_init 2 none 3 214 3593 [.inr (x + 1)] S mu (fun v T mu2 => v = none ∧ T.1 = x + 215 ∧ zEx S T mu mu2 x ∧ XS T x (fun t => t) ∧ XR mu2 x (fun t => t) qv0 0 (fun _ => nI 0) (fun _ => nI 0) 0 (fun _ _ => nI 0) (fun _ => nI 0) (fun _ _ => nI 0)) := by
  refine zM.ofG (by decide +kernel) (Nat.le_of_ble_eq_true rfl) ?_
  show zG RX2 "<init>" cX2_init 2 none (zroom 3 214 3593) 214 3593 _ 0 [some (.inr (x + 1)), none] [] S mu 0 0
  have hB : XB S mu x 1 0 0 0 S mu := by
    refine ⟨⟨hN, hw, by omega, Or.inl rfl, Or.inl rfl⟩, fun q _ => ⟨rfl, rfl, rfl⟩, fun i e hi hn => ?_, hm, fun i hi hn => ?_, fun j i _ hi => absurd hi (Nat.not_lt_zero i), fun i _ hi => absurd hi (by omega), fun t ht => absurd ht (Nat.not_lt_zero t), fun t ht => absurd ht (Nat.not_lt_zero t)⟩
    · rcases hi with ⟨h, e1⟩ | ⟨h, e1⟩ | ⟨h, e1⟩ | ⟨h, e1⟩ | ⟨h, e1⟩ | ⟨h, e1⟩
      · rw [h, e1]; exact hk
      all_goals omega
    · rcases hi with h | h | h <;> omega
  refine zg_aload_n (i := 0) dX2_init_0 rfl rfl ?_
  refine zg_obj dX2_init_1 mlX2_1 (by decide) ⟨by decide, by decide⟩ ?_
  refine zg_aload_n (i := 0) dX2_init_4 rfl rfl ?_
  refine zg_bipush (v := nI 90) dX2_init_5 (by decide) ?_
  refine zg_newi dX2_init_7 (by decide) hw (zok_r (XB_lt hB) (zok_n (zok_nil _))) (zok_r (XB_lt hB) (zok_nil _)) (by decide) (by decide) ?_
  have hB2 := XB_gr (e := (1, 90)) hB (fun e h => by rcases h with ⟨h, e1⟩ | ⟨h, e1⟩ | ⟨h, e1⟩ | ⟨h, e1⟩ | ⟨h, e1⟩ | ⟨h, e1⟩ <;> first | exact e1 | omega) (fun i hi => by rcases hi with d | d | d | ⟨t, d1, d⟩ | ⟨t, d1, d⟩ <;> omega)
  refine zg_putR dX2_init_9 flX2_9 (by decide) (XB_hk hB2) (XB_lt hB2) rfl rfl ?_
  have hB3 := XB_put (f2 := 2) (j := 0) (r := S.1 + 1) hB2 (by omega) (fun j2 i2 h1 h2 => by rcases h1 with ⟨c1, c2⟩ | ⟨c1, c2⟩ | ⟨c1, c2⟩ | ⟨c1, c2⟩ | ⟨c1, c2⟩ | ⟨c1, c2⟩ | ⟨c1, c2⟩ | ⟨c1, c2⟩ <;> omega)
  revert hB3
  generalize ((zgr S (1, 90)).1, (zgr S (1, 90)).2.1, zur (zgr S (1, 90)).2.2 x 0 (S.1 + 1)) = S1
  generalize zrow mu S.1 (fun _ => nI 0) = mu1
  intro hB3
  have n3 := hB3.1.1
  refine zg_aload_n (i := 0) dX2_init_12 rfl rfl ?_
  refine zg_bipush (v := nI 72) dX2_init_13 (by decide) ?_
  refine zg_newz dX2_init_15 (by decide) hB3.1.2.1 (zok_r (XB_lt hB3) (zok_n (zok_nil _))) (zok_r (XB_lt hB3) (zok_nil _)) (by decide) (by decide) ?_
  have hB4 := XB_gr (e := (2, 72)) hB3 (fun e h => by rcases h with ⟨h, e1⟩ | ⟨h, e1⟩ | ⟨h, e1⟩ | ⟨h, e1⟩ | ⟨h, e1⟩ | ⟨h, e1⟩ <;> first | exact e1 | omega) (fun i hi => by rcases hi with d | d | d | ⟨t, d1, d⟩ | ⟨t, d1, d⟩ <;> omega)
  refine zg_putR dX2_init_17 flX2_13 (by decide) (XB_hk hB4) (XB_lt hB4) rfl rfl ?_
  have hB5 := XB_put (f2 := 3) (j := 2) (r := S1.1 + 1) hB4 (by omega) (fun j2 i2 h1 h2 => by rcases h1 with ⟨c1, c2⟩ | ⟨c1, c2⟩ | ⟨c1, c2⟩ | ⟨c1, c2⟩ | ⟨c1, c2⟩ | ⟨c1, c2⟩ | ⟨c1, c2⟩ | ⟨c1, c2⟩ <;> omega)
  revert hB5
  generalize ((zgr S1 (2, 72)).1, (zgr S1 (2, 72)).2.1, zur (zgr S1 (2, 72)).2.2 x 2 (S1.1 + 1)) = S2
  generalize zrow mu1 S1.1 (fun _ => nI 0) = mu2
  intro hB5
  refine zg_aload_n (i := 0) dX2_init_20 rfl rfl ?_
  refine zg_st hB5 (by left; rfl) dX2_init_21 dX2_init_24 dX2_init_25 (zok_r (XB_lt hB5) (zok_n (zok_nil _))) (zok_r (XB_lt hB5) (zok_nil _)) (Nat.le_of_ble_eq_true rfl) ⟨by decide, by decide⟩ ⟨by decide, by decide⟩ (fun S3 mu3 hB6 => ?_)
  refine zg_putR dX2_init_28 flX2_20 (by decide) (XB_hk hB6) (XB_lt hB6) rfl rfl ?_
  have hB7 := XB_put (f2 := 22) (j := 4) (r := x + 3 + 1) hB6 (by omega) (fun j2 i2 h1 h2 => by rcases h1 with ⟨c1, c2⟩ | ⟨c1, c2⟩ | ⟨c1, c2⟩ | ⟨c1, c2⟩ | ⟨c1, c2⟩ | ⟨c1, c2⟩ | ⟨c1, c2⟩ | ⟨c1, c2⟩ <;> omega)
  revert hB7
  generalize (S3.1, S3.2.1, zur S3.2.2 x 4 (x + 3 + 1)) = S4
  intro hB7
  have n7 := hB7.1.1
  refine zg_aload_n (i := 0) dX2_init_31 rfl rfl ?_
  refine zg_bipush (v := nI 6) dX2_init_32 (by decide) ?_
  refine zg_news dX2_init_34 clX2_17 (by decide) hB7.1.2.1 (zok_r (XB_lt hB7) (zok_n (zok_nil _))) (zok_r (XB_lt hB7) (zok_nil _)) (by decide) (by decide) ?_
  have hB8 := XB_gr (e := (4, 6)) hB7 (fun e h => by rcases h with ⟨h, e1⟩ | ⟨h, e1⟩ | ⟨h, e1⟩ | ⟨h, e1⟩ | ⟨h, e1⟩ | ⟨h, e1⟩ <;> first | exact e1 | omega) (fun i hi => by rcases hi with d | d | d | ⟨t, d1, d⟩ | ⟨t, d1, d⟩ <;> omega)
  refine zg_putR dX2_init_37 flX2_24 (by decide) (XB_hk hB8) (XB_lt hB8) rfl rfl ?_
  have hB9 := XB_put (f2 := 23) (j := 5) (r := S4.1 + 1) hB8 (by omega) (fun j2 i2 h1 h2 => by rcases h1 with ⟨c1, c2⟩ | ⟨c1, c2⟩ | ⟨c1, c2⟩ | ⟨c1, c2⟩ | ⟨c1, c2⟩ | ⟨c1, c2⟩ | ⟨c1, c2⟩ | ⟨c1, c2⟩ <;> omega)
  revert hB9
  generalize ((zgr S4 (4, 6)).1, (zgr S4 (4, 6)).2.1, zur (zgr S4 (4, 6)).2.2 x 5 (S4.1 + 1)) = S5
  generalize zrow mu3 S4.1 (fun _ => nI 0) = mu5
  intro hB9
  refine zg_iconst (v := nI 0) dX2_init_40 (by decide) ?_
  refine zg_istore_n (i := 1) (L2 := [_, _]) dX2_init_41 rfl (by decide) rfl ?_
  refine lx_X2i42 (S0 := S) (mu0 := mu) _ (fun S6 mu6 hB10 => ?_) 6 0 S5 mu5 rfl hB9
  have n10 := hB10.1.1
  refine zg_aload_n (i := 0) dX2_init_67 rfl rfl ?_
  refine zg_iconst (v := nI 2) dX2_init_68 (by decide) ?_
  refine zg_news dX2_init_69 clX2_17 (by decide) hB10.1.2.1 (zok_r (XB_lt hB10) (zok_i (zok_nil _))) (zok_r (XB_lt hB10) (zok_nil _)) (by decide) (by decide) ?_
  have hB11 := XB_gr (e := (4, 2)) hB10 (fun e h => by rcases h with ⟨h, e1⟩ | ⟨h, e1⟩ | ⟨h, e1⟩ | ⟨h, e1⟩ | ⟨h, e1⟩ | ⟨h, e1⟩ <;> first | exact e1 | omega) (fun i hi => by rcases hi with d | d | d | ⟨t, d1, d⟩ | ⟨t, d1, d⟩ <;> omega)
  refine zg_putR dX2_init_72 flX2_28 (by decide) (XB_hk hB11) (XB_lt hB11) rfl rfl ?_
  have hB12 := XB_put (f2 := 138) (j := 7) (r := S6.1 + 1) hB11 (by omega) (fun j2 i2 h1 h2 => by rcases h1 with ⟨c1, c2⟩ | ⟨c1, c2⟩ | ⟨c1, c2⟩ | ⟨c1, c2⟩ | ⟨c1, c2⟩ | ⟨c1, c2⟩ | ⟨c1, c2⟩ | ⟨c1, c2⟩ <;> omega)
  revert hB12
  generalize ((zgr S6 (4, 2)).1, (zgr S6 (4, 2)).2.1, zur (zgr S6 (4, 2)).2.2 x 7 (S6.1 + 1)) = S7
  generalize zrow mu6 S6.1 (fun _ => nI 0) = mu7
  intro hB12
  refine zg_iconst (v := nI 0) dX2_init_75 (by decide) ?_
  refine zg_istore_n (i := 1) (L2 := [_, _]) dX2_init_76 rfl (by decide) rfl ?_
  refine lx_X2i77 (S0 := S) (mu0 := mu) _ (fun S8 mu8 hB13 => ?_) 2 0 S7 mu7 rfl hB12
  have n13 := hB13.1.1
  refine zg_aload_n (i := 0) dX2_init_101 rfl rfl ?_
  refine zg_iconst (v := nI 2) dX2_init_102 (by decide) ?_
  refine zg_newz dX2_init_103 (by decide) hB13.1.2.1 (zok_r (XB_lt hB13) (zok_i (zok_nil _))) (zok_r (XB_lt hB13) (zok_nil _)) (by decide) (by decide) ?_
  have hB14 := XB_gr (e := (2, 2)) hB13 (fun e h => by rcases h with ⟨h, e1⟩ | ⟨h, e1⟩ | ⟨h, e1⟩ | ⟨h, e1⟩ | ⟨h, e1⟩ | ⟨h, e1⟩ <;> first | exact e1 | omega) (fun i hi => by rcases hi with d | d | d | ⟨t, d1, d⟩ | ⟨t, d1, d⟩ <;> omega)
  refine zg_putR dX2_init_105 flX2_31 (by decide) (XB_hk hB14) (XB_lt hB14) rfl rfl ?_
  have hB15 := XB_put (f2 := 177) (j := 8) (r := S8.1 + 1) hB14 (by omega) (fun j2 i2 h1 h2 => by rcases h1 with ⟨c1, c2⟩ | ⟨c1, c2⟩ | ⟨c1, c2⟩ | ⟨c1, c2⟩ | ⟨c1, c2⟩ | ⟨c1, c2⟩ | ⟨c1, c2⟩ | ⟨c1, c2⟩ <;> omega)
  revert hB15
  generalize ((zgr S8 (2, 2)).1, (zgr S8 (2, 2)).2.1, zur (zgr S8 (2, 2)).2.2 x 8 (S8.1 + 1)) = S9
  generalize zrow mu8 S8.1 (fun _ => nI 0) = mu9
  intro hB15
  refine zg_aload_n (i := 0) dX2_init_108 rfl rfl ?_
  refine zg_st hB15 (by right; left; rfl) dX2_init_109 dX2_init_112 dX2_init_113 (zok_r (XB_lt hB15) (zok_i (zok_nil _))) (zok_r (XB_lt hB15) (zok_nil _)) (Nat.le_of_ble_eq_true rfl) ⟨by decide, by decide⟩ ⟨by decide, by decide⟩ (fun S10 mu10 hB16 => ?_)
  refine zg_putR dX2_init_116 flX2_34 (by decide) (XB_hk hB16) (XB_lt hB16) rfl rfl ?_
  have hB17 := XB_put (f2 := 196) (j := 9) (r := x + 177 + 1) hB16 (by omega) (fun j2 i2 h1 h2 => by rcases h1 with ⟨c1, c2⟩ | ⟨c1, c2⟩ | ⟨c1, c2⟩ | ⟨c1, c2⟩ | ⟨c1, c2⟩ | ⟨c1, c2⟩ | ⟨c1, c2⟩ | ⟨c1, c2⟩ <;> omega)
  revert hB17
  generalize (S10.1, S10.2.1, zur S10.2.2 x 9 (x + 177 + 1)) = S11
  intro hB17
  refine zg_aload_n (i := 0) dX2_init_119 rfl rfl ?_
  refine zg_st hB17 (by right; right; left; rfl) dX2_init_120 dX2_init_123 dX2_init_124 (zok_r (XB_lt hB17) (zok_i (zok_nil _))) (zok_r (XB_lt hB17) (zok_nil _)) (Nat.le_of_ble_eq_true rfl) ⟨by decide, by decide⟩ ⟨by decide, by decide⟩ (fun S12 mu12 hB18 => ?_)
  refine zg_putR dX2_init_127 flX2_37 (by decide) (XB_hk hB18) (XB_lt hB18) rfl rfl ?_
  have hB19 := XB_put (f2 := 215) (j := 10) (r := x + 196 + 1) hB18 (by omega) (fun j2 i2 h1 h2 => by rcases h1 with ⟨c1, c2⟩ | ⟨c1, c2⟩ | ⟨c1, c2⟩ | ⟨c1, c2⟩ | ⟨c1, c2⟩ | ⟨c1, c2⟩ | ⟨c1, c2⟩ | ⟨c1, c2⟩ <;> omega)
  revert hB19
  generalize (S12.1, S12.2.1, zur S12.2.2 x 10 (x + 196 + 1)) = S13
  intro hB19
  obtain ⟨z1, z2⟩ := XB_end hB19
  have n19 := hB19.1.1
  refine zg_vret dX2_init_130 rfl ⟨rfl, n19, ⟨hB19.1.2.1, by omega, fun q hq => ?_, fun q hq hqx => ?_⟩, z1, z2⟩
  · by_cases hqx : q = x
    · rw [hqx, XB_hk hB19, hk]
    · exact (hB19.2.1 q (by omega)).1
  · obtain ⟨c1, c2, c3⟩ := hB19.2.1 q (by omega)
    exact ⟨c2, c3⟩
