/-! THE CLASS: what it holds; keepForUndo -/
def zTv (S : zS) (post : zS → zU → Prop) : Option zV → zS → zU → Prop := fun v S2 mu2 => v = none ∧ S2.1 = S.1 ∧ post S2 mu2
def zTi (S : zS) (post : Int32 → zS → zU → Prop) : Option zV → zS → zU → Prop := fun v S2 mu2 => ∃ r : Int32, v = some (.inl r) ∧ S2.1 = S.1 ∧ post r S2 mu2
section CT
variable {own nm : String} {cc cc2 : ByteArray} {nL nL2 d2 : Nat} {ret ret2 : Option FieldType} {R : Room} {mc ms : Nat} {Ph : Option zV → zS → zU → Prop} {pc : Nat} {L : List (Option zV)} {st As rest : List zV} {S : zS} {mu : zU} {cells slots : Nat} {y : MethodName}
theorem zg_callTv {ix ci n k : Nat} {post : zS → zU → Prop} (hM : zM y cc2 nL2 ret2 d2 0 0 (.inr (k + 1) :: As) S mu (zTv S post)) (hd : decode cc pc = .ok (.invokevirtual ix, 3)) (hv : zcv y ci cc2 nL2 ret2 n) (hm : Cond.methodLink own ix y ∈ zwd) (hn : As.length = n) (hk : S.2.1 k = (0, ci)) (hN : k < S.1) (hst : st = As.reverse ++ .inr (k + 1) :: rest) (hr8 : rest.length ≤ 8) (hR : zfit R nL2 d2) (hf : cells ≤ R.cells ∧ slots ≤ R.slots)
    (kk : ∀ S2 mu2, post S2 mu2 → zG own nm cc nL ret R mc ms Ph (pc + 3) L rest S2 mu2 cells slots) : zG own nm cc nL ret R mc ms Ph pc L st S mu cells slots :=
  zg_callV hM hd hv hm hn hk hN hst hr8 hR hf (Or.inl (fun v S2 mu2 ⟨_, e, _⟩ => e)) (fun v S2 mu2 ⟨e1, _, h⟩ => by subst e1; exact kk S2 mu2 h)
theorem zg_callTi {ix ci n k : Nat} {post : Int32 → zS → zU → Prop} (hM : zM y cc2 nL2 ret2 d2 0 0 (.inr (k + 1) :: As) S mu (zTi S post)) (hd : decode cc pc = .ok (.invokevirtual ix, 3)) (hv : zcv y ci cc2 nL2 ret2 n) (hm : Cond.methodLink own ix y ∈ zwd) (hn : As.length = n) (hk : S.2.1 k = (0, ci)) (hN : k < S.1) (hst : st = As.reverse ++ .inr (k + 1) :: rest) (hr8 : rest.length ≤ 8) (hR : zfit R nL2 d2) (hf : cells ≤ R.cells ∧ slots ≤ R.slots)
    (kk : ∀ r S2 mu2, post r S2 mu2 → zG own nm cc nL ret R mc ms Ph (pc + 3) L (.inl r :: rest) S2 mu2 cells slots) : zG own nm cc nL ret R mc ms Ph pc L st S mu cells slots :=
  zg_callV hM hd hv hm hn hk hN hst hr8 hR hf (Or.inl (fun v S2 mu2 ⟨_, _, e, _⟩ => e)) (fun v S2 mu2 ⟨r, e1, _, h⟩ => by subst e1; exact kk r S2 mu2 h)
end CT
theorem SX_mv {mu mu2 : zU} {b : Nat} {v : Nat → Int32} {ol : List Nat} (h : SX mu b v ol) (hm : ∀ q, b ≤ q → q < b + 19 → mu2 q = mu q) : SX mu2 b v ol := by
  obtain ⟨h0, g1, g2, g3, g4, g5, g6, g7, g8, g9, g10, g11⟩ := h
  have hl4 := h0.1.2.2
  refine ⟨h0, fun j hj => ?_, fun j hj => ?_, ?_, fun j hj => ?_, ?_, fun j hj => ?_, ?_, fun j hj => ?_, ?_, ?_, fun i hi => PX_out (g11 i hi) (fun q a c => hm q (by omega) (by omega)) (fun _ _ _ => rfl)⟩
  · rw [hm _ (by omega) (by omega)]; exact g1 j hj
  · rw [hm _ (by omega) (by omega)]; exact g2 j hj
  · rw [hm _ (by omega) (by omega)]; exact g3
  · rw [hm _ (by omega) (by omega)]; exact g4 j hj
  · rw [hm _ (by omega) (by omega)]; exact g5
  · rw [hm _ (by omega) (by omega)]; exact g6 j hj
  · rw [hm _ (by omega) (by omega)]; exact g7
  · rw [hm _ (by omega) (by omega)]; exact g8 j hj
  · rw [hm _ (by omega) (by omega)]; exact g9
  · rw [hm _ (by omega) (by omega)]; exact g10
/-- the class holds the state -/
def XR (mu : zU) (x : Nat) (pm : Nat → Nat) (v : Nat → Int32) (tl : Nat) (tx bp : Nat → Int32) (uc : Nat) (us : Nat → Nat → Int32) (kp : Nat → Int32) (sn : Nat → Nat → Int32) : Prop :=
  (∃ ol, SX mu (x + 3) v ol) ∧ (mu x 1 = nI tl ∧ tl ≤ 90 ∧ ∀ j, j < tl → mu (x + 1) j = tx j) ∧ ((∀ j, j < 72 → mu (x + 2) j = bp j ∧ (bp j = nI 0 ∨ bp j = nI 1)) ∧ mu x 3 = nI (qcnt bp 72)) ∧ (mu x 6 = nI uc ∧ uc ≤ 6 ∧ ∀ i, i < uc → ∃ ol, SX mu (x + 23 + 19 * pm i) (us i) ol) ∧ ∀ q, q < 2 → mu (x + 176) q = kp q ∧ (kp q = nI 0 ∨ kp q = nI 1) ∧ (kp q = nI 1 → ∃ ol, SX mu (x + 138 + 19 * q) (sn q) ol)
/-- the present state changes, and the trials -/
theorem XR_st {mu mu2 : zU} {x tl uc : Nat} {pm : Nat → Nat} {v w tx bp kp : Nat → Int32} {us sn : Nat → Nat → Int32} (h : XR mu x pm v tl tx bp uc us kp sn) (hp : ∀ i, i < uc → pm i < 6) (hm : ∀ q, (q < x + 3 ∨ x + 22 ≤ q) → q < x + 177 → mu2 q = mu q) {ol : List Nat} (hw : SX mu2 (x + 3) w ol) : XR mu2 x pm w tl tx bp uc us kp sn := by
  obtain ⟨-, ⟨t1, t2, t3⟩, ⟨b1, b2⟩, ⟨u1, u2, u3⟩, s1⟩ := h
  refine ⟨⟨ol, hw⟩, ⟨?_, t2, fun j hj => ?_⟩, ⟨fun j hj => ?_, ?_⟩, ⟨?_, u2, fun i hi => ?_⟩, fun q hq => ⟨?_, (s1 q hq).2.1, fun e => ?_⟩⟩
  · rw [hm _ (by omega) (by omega)]; exact t1
  · rw [hm _ (by omega) (by omega)]; exact t3 j hj
  · rw [hm _ (by omega) (by omega)]; exact b1 j hj
  · rw [hm _ (by omega) (by omega)]; exact b2
  · rw [hm _ (by omega) (by omega)]; exact u1
  · obtain ⟨ol2, h2⟩ := u3 i hi
    have := hp i hi
    exact ⟨ol2, SX_mv h2 (fun q a b => hm q (by omega) (by omega))⟩
  · rw [hm _ (by omega) (by omega)]; exact (s1 q hq).1
  · obtain ⟨ol2, h2⟩ := (s1 q hq).2.2 e
    exact ⟨ol2, SX_mv h2 (fun q a b => hm q (by omega) (by omega))⟩
/-- the undo part changes -/
theorem XR_un {mu mu2 : zU} {x tl uc uc2 : Nat} {pm pm2 : Nat → Nat} {v tx bp kp : Nat → Int32} {us us2 sn : Nat → Nat → Int32} (h : XR mu x pm v tl tx bp uc us kp sn) (hm : ∀ q, q ≠ x → (q < x + 23 ∨ x + 137 ≤ q) → mu2 q = mu q) (hx : ∀ j, j ≠ 6 → mu2 x j = mu x j) (h6 : mu2 x 6 = nI uc2) (hu : uc2 ≤ 6) (hus : ∀ i, i < uc2 → ∃ ol, SX mu2 (x + 23 + 19 * pm2 i) (us2 i) ol) : XR mu2 x pm2 v tl tx bp uc2 us2 kp sn := by
  obtain ⟨⟨ol, v1⟩, ⟨t1, t2, t3⟩, ⟨b1, b2⟩, -, s1⟩ := h
  refine ⟨⟨ol, SX_mv v1 (fun q a b => hm q (by omega) (by omega))⟩, ⟨?_, t2, fun j hj => ?_⟩, ⟨fun j hj => ?_, ?_⟩, ⟨h6, hu, hus⟩, fun q hq => ⟨?_, (s1 q hq).2.1, fun e => ?_⟩⟩
  · rw [hx _ (by omega)]; exact t1
  · rw [hm _ (by omega) (by omega)]; exact t3 j hj
  · rw [hm _ (by omega) (by omega)]; exact b1 j hj
  · rw [hx _ (by omega)]; exact b2
  · rw [hm _ (by omega) (by omega)]; exact (s1 q hq).1
  · obtain ⟨ol2, h2⟩ := (s1 q hq).2.2 e
    exact ⟨ol2, SX_mv h2 (fun q a b => hm q (by omega) (by omega))⟩
/-- only the order of the kept states differs -/
def XT (S T : zS) (x : Nat) : Prop := T.1 = S.1 ∧ T.2.1 = S.2.1 ∧ ∀ q, q ≠ x + 22 → T.2.2 q = S.2.2 q
theorem PS_T {S T : zS} {x k : Nat} (h : XT S T x) (hk : k + 2 < x + 22 ∨ x + 22 < k) (hS : PS S k) : PS T k := by
  obtain ⟨a1, a2, a3⟩ := h
  unfold PS
  rw [a1, a2, a3 k (by omega)]
  exact hS
theorem SS_T {S T : zS} {x b : Nat} (h : XT S T x) (hk : b + 18 < x + 22 ∨ x + 22 < b) (hS : SS S b) : SS T b := by
  have h' := h
  obtain ⟨a1, a2, a3⟩ := h
  obtain ⟨hN, k0, k1, k2, k3, k4, k5, k6, r0, r1, r2, r3, r5, r7, hp⟩ := hS
  refine ⟨by rw [a1]; exact hN, ?_, ?_, ?_, ?_, ?_, ?_, ?_, ?_, ?_, ?_, ?_, ?_, ?_, fun i hi => ⟨?_, PS_T h' (by omega) (hp i hi).2⟩⟩
  all_goals first | (rw [a2]; assumption) | (rw [a3 _ (by omega)]; first | assumption | exact (hp i hi).1)
theorem XS_T {S T : zS} {x : Nat} {pm pm2 : Nat → Nat} (h : XT S T x) (hS : XS S x pm) (h2 : ∀ t, t < 6 → T.2.2 (x + 22) t = x + 23 + 19 * pm2 t + 1 ∧ pm2 t < 6) (hi : ∀ t u, t < 6 → u < 6 → pm2 t = pm2 u → t = u) : XS T x pm2 := by
  have h' := h
  obtain ⟨a1, a2, a3⟩ := h
  obtain ⟨q1, q2, ⟨q3, q4, q5⟩, q6, -, q7⟩ := hS
  refine ⟨?_, ?_, ⟨SS_T h' (by omega) q3, SS_T h' (by omega) q4, SS_T h' (by omega) q5⟩, fun t ht => ⟨SS_T h' (by omega) (q6 t ht).1, h2 t ht⟩, hi, fun s hs => ⟨?_, SS_T h' (by omega) (q7 s hs).2⟩⟩
  · rw [a1, a2]; exact q1
  · rw [a3 x (by omega)]; exact q2
  · rw [a3 _ (by omega)]; exact (q7 s hs).1
theorem MS_T {S T : zS} {x m : Nat} (h : XT S T x) (hx : x + 22 < m) (hS : MS S m) : MS T m := by
  obtain ⟨a1, a2, a3⟩ := h
  unfold MS
  rw [a1, a2, a3 m (by omega)]
  exact hS
theorem XT.rf (S : zS) (x : Nat) : XT S S x := ⟨rfl, rfl, fun _ _ => rfl⟩
set_option maxRecDepth 20000 in
theorem lx_kfu56 {S : zS} {x : Nat} {pm : Nat → Nat} (hS : XS S x pm) {mu : zU} {v : Nat → Int32} {ol : List Nat} {uc : Nat} (hX : SX mu (x + 3) v ol) (huc : uc < 6) (h6 : mu x 6 = nI uc) {l1 l2 : Option zV} (Ph : Option zV → zS → zU → Prop) (hx : ∀ mu2, SX mu2 (x + 23 + 19 * pm uc) v ol → mu2 x 6 = nI (uc + 1) → (∀ j, j ≠ 6 → mu2 x j = mu x j) → (∀ q, q ≠ x → (q < x + 23 + 19 * pm uc ∨ x + 23 + 19 * pm uc + 19 ≤ q) → mu2 q = mu q) → Ph none S mu2) :
    zG RX2 "keepForUndo" cX2_keepForUndo 3 none (zroom 3 0 0) 0 0 Ph 56 [some (.inr (x + 1)), l1, l2] [] S (mu) 0 0 := by
  have hN0 : x < S.1 := hS.lt (i := 0) (by decide)
  have hN22 : x + 22 < S.1 := hS.lt (by decide)
  have xk0 := hS.1.2.1
  have xk22 := hS.1.2.2.2.2.1
  have xr4 := hS.2.1.2.2.1
  have xr5 := hS.2.1.2.2.2.1
  obtain ⟨-, hr, hpm⟩ := hS.2.2.2.1 uc huc
  have hSu := (hS.2.2.2.1 (pm uc) hpm).1
  have ku0 := hSu.2.1
  have kuN : x + 23 + 19 * pm uc < S.1 := by have := hSu.1; omega
  refine zg_aload_n (i := 0) dX2_keepForUndo_56 rfl rfl ?_
  refine zg_getR dX2_keepForUndo_57 flX2_24 (by decide) (by assumption) (by assumption) (by assumption) ?_
  refine zg_aload_n (i := 0) dX2_keepForUndo_60 rfl rfl ?_
  first | with_reducible refine zg_getIR dX2_keepForUndo_61 flX2_88 (by decide) (by assumption) (by assumption) (by omega) ?_ | refine zg_getI dX2_keepForUndo_61 flX2_88 (by decide) (by assumption) (by assumption) ?_
  refine zg_val h6 ?_
  first | refine zg_pald dX2_keepForUndo_64 (by assumption) (by assumption) rfl (by omega) (by decide) (by assumption) ?_ | refine zg_sald dX2_keepForUndo_64 (by assumption) (by assumption) rfl (by omega) (by decide) (by assumption) ?_
  refine zg_aload_n (i := 0) dX2_keepForUndo_65 rfl rfl ?_
  refine zg_getR dX2_keepForUndo_66 flX2_20 (by decide) (by assumption) (by assumption) (by assumption) ?_
  refine zg_callVv (cx_copyS hSu hS.2.2.1.1 (Or.inr (by omega)) hX) dX2_keepForUndo_69 cvX1_copyFrom mlX2_91 rfl (by assumption) (by assumption) rfl (Nat.le_of_ble_eq_true rfl) ⟨by decide, by decide⟩ ⟨Nat.le_refl _, Nat.le_refl _⟩ (fun mu2 h2 => ?_)
  obtain ⟨h3, h4⟩ := h2
  have hmx : mu2 x = mu x := h4 x (by omega)
  refine zg_aload_n (i := 0) dX2_keepForUndo_72 rfl rfl ?_
  refine zg_dup dX2_keepForUndo_73 ?_
  first | with_reducible refine zg_getIR dX2_keepForUndo_74 flX2_88 (by decide) (by assumption) (by assumption) (by omega) ?_ | refine zg_getI dX2_keepForUndo_74 flX2_88 (by decide) (by assumption) (by assumption) ?_
  refine zg_val (y := nI uc) (by rw [hmx]; exact h6) ?_
  refine zg_iconst (v := nI 1) dX2_keepForUndo_77 (by decide) ?_
  first | with_reducible refine zg_iaddN dX2_keepForUndo_78 ?_ | refine zg_iadd dX2_keepForUndo_78 ?_
  refine zg_putI dX2_keepForUndo_79 flX2_88 (by decide) (by assumption) (by assumption) ?_
  refine zg_vret dX2_keepForUndo_82 rfl (hx _ (SX_mv h3 (fun q a b => by rw [zup_n (by omega)])) (by rw [zup_s, upd_s]) (fun j hj => by rw [zup_s, upd_n hj, hmx]) (fun q a b => by rw [zup_n a]; exact h4 q b))
def kfT (S T : zS) (x i : Nat) : Prop := XT S T x ∧ ∀ t, t < 6 → T.2.2 (x + 22) t = if t + 1 < i then S.2.2 (x + 22) (t + 1) else S.2.2 (x + 22) t
set_option maxRecDepth 20000 in
theorem lx_kfu18 {S : zS} {x : Nat} {pm : Nat → Nat} (hS : XS S x pm) {mu : zU} {l1 : Option zV} (Ph : Option zV → zS → zU → Prop) (hx : ∀ T, kfT S T x 6 → zG RX2 "keepForUndo" cX2_keepForUndo 3 none (zroom 3 0 0) 0 0 Ph 44 [some (.inr (x + 1)), l1, some (.inl (nI 6))] [] T mu 0 0) :
    ∀ (d i : Nat) (T : zS), i + d = 6 → 1 ≤ i → kfT S T x i → zG RX2 "keepForUndo" cX2_keepForUndo 3 none (zroom 3 0 0) 0 0 Ph 18 [some (.inr (x + 1)), l1, some (.inl (nI i))] [] T mu 0 0 := by
  intro d
  induction d with
  | zero =>
    intro i T hit hi hT
    obtain rfl : i = 6 := by omega
    refine zg_iload_n (i := 2) dX2_keepForUndo_18 rfl rfl ?_
    refine zg_bipush (v := nI 6) dX2_keepForUndo_19 (by decide) ?_
    first | with_reducible refine zg_icmpN_ge (tgt := 44) dX2_keepForUndo_21 (by decide) (by omega) (by omega) (fun c => ?_) (fun c => ?_) | refine zg_icmp_ge (tgt := 44) dX2_keepForUndo_21 (by decide) (fun c => ?_) (fun c => ?_)
    · exact hx T hT
    · omega
  | succ d ih =>
    intro i T hit hi hT
    obtain ⟨⟨a1, a2, a3⟩, a4⟩ := id hT
    have hN0 : x < T.1 := by rw [a1]; exact hS.lt (i := 0) (by decide)
    have hN22 : x + 22 < T.1 := by rw [a1]; exact hS.lt (by decide)
    have xk0 : T.2.1 x = (0, 2) := by rw [a2]; exact hS.1.2.1
    have xk22 : T.2.1 (x + 22) = (4, 6) := by rw [a2]; exact hS.1.2.2.2.2.1
    have xr5 : T.2.2 x 5 = x + 22 + 1 := by rw [a3 _ (by omega)]; exact hS.2.1.2.2.2.1
    obtain ⟨-, hri, hpm⟩ := hS.2.2.2.1 i (by omega)
    have hr : T.2.2 (x + 22) i = x + 23 + 19 * pm i + 1 := by rw [a4 i (by omega), if_neg (by omega)]; exact hri
    have hSu := (hS.2.2.2.1 (pm i) hpm).1
    refine zg_iload_n (i := 2) dX2_keepForUndo_18 rfl rfl ?_
    refine zg_bipush (v := nI 6) dX2_keepForUndo_19 (by decide) ?_
    first | with_reducible refine zg_icmpN_ge (tgt := 44) dX2_keepForUndo_21 (by decide) (by omega) (by omega) (fun c => ?_) (fun c => ?_) | refine zg_icmp_ge (tgt := 44) dX2_keepForUndo_21 (by decide) (fun c => ?_) (fun c => ?_)
    · omega
    · refine zg_aload_n (i := 0) dX2_keepForUndo_24 rfl rfl ?_
      refine zg_getR dX2_keepForUndo_25 flX2_24 (by decide) (by assumption) (by assumption) (by assumption) ?_
      refine zg_iload_n (i := 2) dX2_keepForUndo_28 rfl rfl ?_
      refine zg_iconst (v := nI 1) dX2_keepForUndo_29 (by decide) ?_
      first | with_reducible refine zg_isubN dX2_keepForUndo_30 (by omega) ?_ | refine zg_isub dX2_keepForUndo_30 ?_
      refine zg_aload_n (i := 0) dX2_keepForUndo_31 rfl rfl ?_
      refine zg_getR dX2_keepForUndo_32 flX2_24 (by decide) (by assumption) (by assumption) (by assumption) ?_
      refine zg_iload_n (i := 2) dX2_keepForUndo_35 rfl rfl ?_
      first | refine zg_pald dX2_keepForUndo_36 (by assumption) (by assumption) rfl (by omega) (by decide) (by assumption) ?_ | refine zg_sald dX2_keepForUndo_36 (by assumption) (by assumption) rfl (by omega) (by decide) (by assumption) ?_
      refine zg_sast (q := x + 23 + 19 * pm i) dX2_keepForUndo_37 xk22 hN22 rfl (by omega) (by decide) (by rw [a2]; exact hSu.2.1) (by rw [a1]; have := hSu.1; omega) ?_
      refine zg_iinc1 (L2 := [_, _, _]) dX2_keepForUndo_38 (by decide) rfl rfl ?_
      refine zg_goto (tgt := 18) dX2_keepForUndo_41 (by decide) ?_
      refine ih (i + 1) _ (by omega) (by omega) ⟨⟨a1, a2, fun q hq => ?_⟩, fun t ht => ?_⟩
      · show zur T.2.2 (x + 22) (i - 1) _ q = S.2.2 q
        rw [zur, if_neg hq]; exact a3 q hq
      · show zur T.2.2 (x + 22) (i - 1) _ (x + 22) t = _
        rw [zur, if_pos rfl]
        by_cases hti : t = i - 1
        · rw [if_pos hti, if_pos (by omega), hti, show i - 1 + 1 = i by omega]; exact hri.symm
        · rw [if_neg hti, a4 t ht]
          by_cases h1 : t + 1 < i
          · rw [if_pos h1, if_pos (by omega)]
          · rw [if_neg h1, if_neg (by omega)]
set_option maxRecDepth 20000 in
theorem cx_keepForUndo {S : zS} {x : Nat} {pm : Nat → Nat} (hS : XS S x pm) {mu : zU} {tl uc : Nat} {v tx bp kp : Nat → Int32} {us sn : Nat → Nat → Int32} (hX : XR mu x pm v tl tx bp uc us kp sn) : zM yX2_keepForUndo cX2_keepForUndo 3 none 3 0 0 [.inr (x + 1)] S mu (zTv S (fun T mu2 => XT S T x ∧ ∃ pm2, XS T x pm2 ∧ XR mu2 x pm2 v tl tx bp (ucN uc) (usN uc us v) kp sn ∧ zfr mu mu2 x 215)) := by
  have hN0 : x < S.1 := hS.lt (i := 0) (by decide)
  have hN22 : x + 22 < S.1 := hS.lt (by decide)
  have xk0 := hS.1.2.1
  have xk22 := hS.1.2.2.2.2.1
  have xr5 := hS.2.1.2.2.2.1
  obtain ⟨⟨ol, hSX⟩, -, -, ⟨u1, u2, u3⟩, -⟩ := id hX
  refine zM.ofG (by decide +kernel) (Nat.le_of_ble_eq_true rfl) ?_
  refine zg_aload_n (i := 0) dX2_keepForUndo_0 rfl rfl ?_
  first | with_reducible refine zg_getIR dX2_keepForUndo_1 flX2_88 (by decide) (by assumption) (by assumption) (by omega) ?_ | refine zg_getI dX2_keepForUndo_1 flX2_88 (by decide) (by assumption) (by assumption) ?_
  refine zg_val u1 ?_
  refine zg_bipush (v := nI 6) dX2_keepForUndo_4 (by decide) ?_
  first | with_reducible refine zg_icmpN_lt (tgt := 56) dX2_keepForUndo_6 (by decide) (by omega) (by omega) (fun c => ?_) (fun c => ?_) | refine zg_icmp_lt (tgt := 56) dX2_keepForUndo_6 (by decide) (fun c => ?_) (fun c => ?_)
  · have hpu := (hS.2.2.2.1 uc c).2.2
    refine lx_kfu56 hS hSX c u1 _ (fun mu2 h1 h2 h3 h4 => ⟨rfl, rfl, XT.rf S x, pm, hS, XR_un hX (fun q a b => h4 q a (by omega)) h3 ?_ ?_ (fun i hi => ?_), fun q hq => h4 q (by omega) (by omega)⟩)
    · rw [h2, ucN, if_neg (by omega)]
    · rw [ucN, if_neg (by omega)]; omega
    · rw [ucN, if_neg (by omega)] at hi
      rw [usN, if_neg (by omega)]
      by_cases hiu : i = uc
      · rw [if_pos hiu, hiu]; exact ⟨ol, h1⟩
      · rw [if_neg hiu]
        obtain ⟨ol2, h5⟩ := u3 i (by omega)
        have hpi := (hS.2.2.2.1 i (by omega)).2.2
        have hne : pm i ≠ pm uc := fun e => hiu (hS.2.2.2.2.1 i uc (by omega) c e)
        exact ⟨ol2, SX_mv h5 (fun q a b => h4 q (by omega) (by omega))⟩
  · obtain rfl : uc = 6 := by omega
    obtain ⟨-, hr, hpm0⟩ := hS.2.2.2.1 0 (by omega)
    refine zg_aload_n (i := 0) dX2_keepForUndo_9 rfl rfl ?_
    refine zg_getR dX2_keepForUndo_10 flX2_24 (by decide) (by assumption) (by assumption) (by assumption) ?_
    refine zg_iconst (v := nI 0) dX2_keepForUndo_13 (by decide) ?_
    first | refine zg_pald dX2_keepForUndo_14 (by assumption) (by assumption) rfl (by omega) (by decide) (by assumption) ?_ | refine zg_sald dX2_keepForUndo_14 (by assumption) (by assumption) rfl (by omega) (by decide) (by assumption) ?_
    refine zg_astore_n (i := 1) (L2 := [_, _, _]) dX2_keepForUndo_15 rfl (by decide) rfl ?_
    refine zg_iconst (v := nI 1) dX2_keepForUndo_16 (by decide) ?_
    refine zg_istore_n (i := 2) (L2 := [_, _, _]) dX2_keepForUndo_17 rfl (by decide) rfl ?_
    refine lx_kfu18 hS _ ?_ 5 1 S (by omega) (by omega) ⟨XT.rf S x, fun t ht => by rw [if_neg (by omega)]⟩
    intro T hT
    obtain ⟨⟨a1, a2, a3⟩, a4⟩ := id hT
    have tN0 : x < T.1 := by rw [a1]; exact hN0
    have tN22 : x + 22 < T.1 := by rw [a1]; exact hN22
    have tk0 : T.2.1 x = (0, 2) := by rw [a2]; exact xk0
    have tk22 : T.2.1 (x + 22) = (4, 6) := by rw [a2]; exact xk22
    have tr5 : T.2.2 x 5 = x + 22 + 1 := by rw [a3 _ (by omega)]; exact xr5
    have hSu := (hS.2.2.2.1 (pm 0) hpm0).1
    refine zg_aload_n (i := 0) dX2_keepForUndo_44 rfl rfl ?_
    refine zg_getR dX2_keepForUndo_45 flX2_24 (by decide) (by assumption) (by assumption) (by assumption) ?_
    refine zg_iconst (v := nI 5) dX2_keepForUndo_48 (by decide) ?_
    refine zg_aload_n (i := 1) dX2_keepForUndo_49 rfl rfl ?_
    refine zg_sast (q := x + 23 + 19 * pm 0) dX2_keepForUndo_50 tk22 tN22 rfl (by omega) (by decide) (by rw [a2]; exact hSu.2.1) (by rw [a1]; have := hSu.1; omega) ?_
    have hXT : XT S (T.1, T.2.1, zur T.2.2 (x + 22) 5 (x + 23 + 19 * pm 0 + 1)) x := ⟨a1, a2, fun q hq => by show zur T.2.2 (x + 22) 5 _ q = S.2.2 q; rw [zur, if_neg hq]; exact a3 q hq⟩
    have hXS : XS (T.1, T.2.1, zur T.2.2 (x + 22) 5 (x + 23 + 19 * pm 0 + 1)) x (fun i => if i = 5 then pm 0 else pm (i + 1)) := by
      refine XS_T hXT hS (fun t ht => ?_) (fun t w ht hw e => ?_)
      · show zur T.2.2 (x + 22) 5 _ (x + 22) t = _ ∧ _
        rw [zur, if_pos rfl]
        by_cases h5 : t = 5
        · simp only [if_pos h5]; exact ⟨trivial, hpm0⟩
        · simp only [if_neg h5]
          rw [a4 t ht, if_pos (by omega)]
          exact (hS.2.2.2.1 (t + 1) (by omega)).2
      · by_cases h5 : t = 5 <;> by_cases h6 : w = 5
        · omega
        · simp only [if_pos h5, if_neg h6] at e
          have := hS.2.2.2.2.1 0 (w + 1) (by omega) (by omega) e
          omega
        · simp only [if_neg h5, if_pos h6] at e
          have := hS.2.2.2.2.1 (t + 1) 0 (by omega) (by omega) e
          omega
        · simp only [if_neg h5, if_neg h6] at e
          have := hS.2.2.2.2.1 (t + 1) (w + 1) (by omega) (by omega) e
          omega
    generalize hT2 : (T.1, T.2.1, zur T.2.2 (x + 22) 5 (x + 23 + 19 * pm 0 + 1)) = T2 at hXT hXS ⊢
    have tN0' : x < T2.1 := hXS.lt (i := 0) (by decide)
    have tk0' : T2.2.1 x = (0, 2) := hXS.1.2.1
    refine zg_aload_n (i := 0) dX2_keepForUndo_51 rfl rfl ?_
    refine zg_iconst (v := nI 5) dX2_keepForUndo_52 (by decide) ?_
    refine zg_putI dX2_keepForUndo_53 flX2_88 (by decide) (by assumption) (by assumption) ?_
    refine lx_kfu56 hXS (SX_mv hSX (fun q a b => by rw [zup_n (by omega)])) (show 5 < 6 by omega) (by rw [zup_s, upd_s]) _ (fun mu2 h1 h2 h3 h4 => ⟨rfl, hXT.1, hXT, _, hXS, XR_un hX (fun q a b => ?_) (fun j hj => ?_) ?_ ?_ (fun i hi => ?_), fun q hq => ?_⟩)
    · simp only [if_pos] at h4
      rw [h4 q a (by omega), zup_n a]
    · rw [h3 j hj, zup_s, upd_n hj]
    · rw [h2]; rfl
    · decide
    · simp only [if_pos] at h1 h4
      have hi6 : i < 6 := hi
      simp only [usN, if_pos]
      by_cases hi5 : i = 5
      · simp only [if_pos hi5]; exact ⟨ol, h1⟩
      · simp only [if_neg hi5]
        obtain ⟨ol2, h5⟩ := u3 (i + 1) (by omega)
        have hpi := (hS.2.2.2.1 (i + 1) (by omega)).2.2
        have hne : pm (i + 1) ≠ pm 0 := fun e => by have := hS.2.2.2.2.1 (i + 1) 0 (by omega) (by omega) e; omega
        exact ⟨ol2, SX_mv h5 (fun q a b => by rw [h4 q (by omega) (by omega), zup_n (by omega)])⟩
    · simp only [if_pos] at h4
      rw [h4 q (by omega) (by omega), zup_n (by omega)]
