/-! THE CONSTRUCTORS: the fresh row, and a state -/
def qfil (n : Nat) : Nat → Int32 := fun j => if j < n then nI 32 else nI 0
theorem qfil_up (n : Nat) : upd (qfil n) n (nI 32) = qfil (n + 1) := by
  funext j
  by_cases h : j = n
  · subst h
    rw [upd_s, qfil, if_pos (by omega)]
  · rw [upd_n h, qfil, qfil]
    by_cases h2 : j < n
    · rw [if_pos h2, if_pos (by omega)]
    · rw [if_neg h2, if_neg (by omega)]
def qv0 : Nat → Int32 := qbegin (qfil 72)
theorem qv0_g {j : Nat} (h : j < 144) : qv0 j = nI 32 := by
  unfold qv0 qbegin qfil
  by_cases h2 : 72 ≤ j
  · rw [if_pos ⟨h2, h⟩, if_pos (by omega)]
  · rw [if_neg (by omega), if_neg (by omega), if_neg (by omega), if_pos (by omega)]
theorem qv0_1 {j : Nat} (h : j = 145 ∨ j = 155) : qv0 j = nI 1 := by
  unfold qv0 qbegin
  rw [if_neg (by omega), if_pos h]
theorem qv0_0 {j : Nat} (h : 144 ≤ j) (h2 : ¬ (j = 145 ∨ j = 155)) : qv0 j = nI 0 := by
  unfold qv0 qbegin qfil
  rw [if_neg (by omega), if_neg h2]
  by_cases h3 : (144 ≤ j ∧ j < 250) ∨ (267 ≤ j ∧ j < 289)
  · rw [if_pos h3]
  · rw [if_neg h3, if_neg (by omega)]
theorem qv0_PI : PI qv0 150 0 0 0 0 0 1 0 0 0 := by
  refine ⟨qv0_0 (by omega) (by omega), qv0_0 (by omega) (by omega), qv0_0 (by omega) (by omega), qv0_0 (by omega) (by omega), qv0_0 (by omega) (by omega), qv0_1 (by omega), qv0_0 (by omega) (by omega), qv0_0 (by omega) (by omega), qv0_0 (by omega) (by omega), by omega, fun j _ hj => ?_⟩
  rw [qv0_0 (by omega) (by omega), nI_0]
theorem qv0_VI : VI qv0 [0] := by
  refine ⟨⟨qv0_1 (by omega), by decide, by decide⟩, fun i q hq => ?_, fun i j q hi hj => ?_, fun i h1 h2 => ?_, fun p hp => ?_, fun p j h1 h2 h3 => ?_, ⟨0, by omega, qv0_0 (by omega) (by omega), fun j _ hj => ?_⟩, 0, by omega, qv0_0 (by omega) (by omega), fun j _ hj => ?_⟩
  · have hi := (List.getElem?_eq_some_iff.mp hq).1
    have hi : i < 1 := hi
    obtain rfl : i = 0 := by omega
    cases hq
    exact ⟨qv0_0 (by omega) (by omega), by decide⟩
  · have h1 : i < 1 := (List.getElem?_eq_some_iff.mp hi).1
    have h2 : j < 1 := (List.getElem?_eq_some_iff.mp hj).1
    omega
  · have h1 : 1 ≤ i := h1
    rw [qv0_0 (by omega) (by omega), nI_0]
  · have hp : p < 1 := hp
    obtain rfl : p = 0 := by omega
    exact ⟨0, 0, 0, 0, 0, 1, 0, 0, 0, qv0_PI⟩
  · have h1 : 1 ≤ p := h1
    rw [qv0_0 (by omega) (by omega), nI_0]
  · rw [qv0_0 (by omega) (by omega), nI_0]
  · rw [qv0_0 (by omega) (by omega), nI_0]
theorem PFr_PX {mu : zU} {k : Nat} (h : PFr mu k) : PX mu k qv0 150 := by
  obtain ⟨h1, h2, h3⟩ := h
  refine ⟨0, 0, 0, 0, 0, 1, 0, 0, 0, qv0_PI, ?_⟩
  refine ⟨?_, ?_, ?_, ?_, ?_, ?_, ?_, fun j hj => ?_, fun j hj => absurd hj (Nat.not_lt_zero j)⟩
  · rw [h1 0 (by omega), qv0_0 (by omega) (by omega), if_neg (by omega)]
  · rw [h1 1 (by omega), qv0_0 (by omega) (by omega), if_neg (by omega)]
  · rw [h1 2 (by omega), qv0_0 (by omega) (by omega), if_neg (by omega)]
  · rw [h1 3 (by omega), qv0_0 (by omega) (by omega), if_neg (by omega)]
  · rw [h1 4 (by omega), qv0_0 (by omega) (by omega), if_neg (by omega)]
  · rw [h1 8 (by omega), qv0_1 (by omega), if_pos rfl]
  · rw [h1 6 (by omega), if_neg (by omega)]
  · rw [h3, qv0_0 (by omega) (by omega)]
theorem PS_ex {S T : zS} {k : Nat} (h : PS S k) (h1 : S.1 ≤ T.1) (h2 : ∀ q, k ≤ q → q < k + 3 → T.2.1 q = S.2.1 q) (h3 : T.2.2 k = S.2.2 k) : PS T k := by
  obtain ⟨a, b, c, d, e, f⟩ := h
  exact ⟨by omega, (h2 _ (by omega) (by omega)).trans b, (h2 _ (by omega) (by omega)).trans c, (h2 _ (by omega) (by omega)).trans d, by rw [h3]; exact e, by rw [h3]; exact f⟩
theorem PFr_ex {mu mu2 : zU} {k : Nat} (h : PFr mu k) (h2 : ∀ q, k ≤ q → q < k + 3 → mu2 q = mu q) : PFr mu2 k := by
  obtain ⟨a, b, c⟩ := h
  exact ⟨fun j hj => by rw [h2 k (by omega) (by omega)]; exact a j hj, (h2 _ (by omega) (by omega)).trans b, (h2 _ (by omega) (by omega)).trans c⟩
theorem zg_cs {own nm : String} {cc : ByteArray} {nL : Nat} {ret : Option FieldType} {R : Room} {mc ms : Nat} {Ph : Option zV → zS → zU → Prop} {pc : Nat} {L : List (Option zV)} {st : List zV} {S : zS} {mu : zU} {cells slots c2 s2 : Nat} (h1 : cells = c2) (h2 : slots = s2) (kk : zG own nm cc nL ret R mc ms Ph pc L st S mu c2 s2) : zG own nm cc nL ret R mc ms Ph pc L st S mu cells slots := by
  subst h1; subst h2; exact kk
set_option maxRecDepth 20000 in
theorem lx_X1i53 {S : zS} {b : Nat} {mu1 : zU} (Ph : Option zV → zS → zU → Prop) (hN : b + 6 < S.1) (hk : S.2.1 b = (0, 1)) (hk1 : S.2.1 (b + 1) = (1, 72)) (hk2 : S.2.1 (b + 2) = (1, 72)) (hr0 : S.2.2 b 0 = b + 1 + 1) (hr1 : S.2.2 b 1 = b + 2 + 1)
    (hx : ∀ mu, (∀ q, q ≠ b + 1 → q ≠ b + 2 → mu q = mu1 q) → mu (b + 1) = qfil 72 → mu (b + 2) = qfil 72 → zG RX1 "<init>" cX1_init 2 none (zroom 2 18 300) 18 300 Ph 81 [some (.inr (b + 1)), some (.inl (nI 72))] [] S mu 6 188) :
    ∀ (d i : Nat) (mu : zU), i + d = 72 → (∀ q, q ≠ b + 1 → q ≠ b + 2 → mu q = mu1 q) → mu (b + 1) = qfil i → mu (b + 2) = qfil i → zG RX1 "<init>" cX1_init 2 none (zroom 2 18 300) 18 300 Ph 53 [some (.inr (b + 1)), some (.inl (nI i))] [] S mu 6 188 := by
  have hN0 : b < S.1 := by omega
  have hN1 : b + 1 < S.1 := by omega
  have hN2 : b + 2 < S.1 := by omega
  intro d
  induction d with
  | zero =>
    intro i mu hid h1 h2 h3
    obtain rfl : i = 72 := by omega
    refine zg_iload_n (i := 1) dX1_init_53 rfl rfl ?_
    refine zg_bipush (v := nI 72) dX1_init_54 (by decide) ?_
    first | with_reducible refine zg_icmpN_ge (tgt := 81) dX1_init_56 (by decide) (by omega) (by omega) (fun c => ?_) (fun c => ?_) | refine zg_icmp_ge (tgt := 81) dX1_init_56 (by decide) (fun c => ?_) (fun c => ?_)
    · exact hx mu h1 h2 h3
    · omega
  | succ d ih =>
    intro i mu hid h1 h2 h3
    refine zg_iload_n (i := 1) dX1_init_53 rfl rfl ?_
    refine zg_bipush (v := nI 72) dX1_init_54 (by decide) ?_
    first | with_reducible refine zg_icmpN_ge (tgt := 81) dX1_init_56 (by decide) (by omega) (by omega) (fun c => ?_) (fun c => ?_) | refine zg_icmp_ge (tgt := 81) dX1_init_56 (by decide) (fun c => ?_) (fun c => ?_)
    · omega
    · refine zg_aload_n (i := 0) dX1_init_59 rfl rfl ?_
      refine zg_getR dX1_init_60 flX1_9 (by decide) (by assumption) (by assumption) (by assumption) ?_
      refine zg_iload_n (i := 1) dX1_init_63 rfl rfl ?_
      refine zg_bipush (v := nI 32) dX1_init_64 (by decide) ?_
      first | with_reducible refine zg_iastR dX1_init_66 (by assumption) (by assumption) rfl (by omega) (by decide) ?_ | refine zg_iast dX1_init_66 (by assumption) (by assumption) rfl (by omega) (by decide) ?_
      refine zg_aload_n (i := 0) dX1_init_67 rfl rfl ?_
      refine zg_getR dX1_init_68 flX1_15 (by decide) (by assumption) (by assumption) (by assumption) ?_
      refine zg_iload_n (i := 1) dX1_init_71 rfl rfl ?_
      refine zg_bipush (v := nI 32) dX1_init_72 (by decide) ?_
      first | with_reducible refine zg_iastR dX1_init_74 (by assumption) (by assumption) rfl (by omega) (by decide) ?_ | refine zg_iast dX1_init_74 (by assumption) (by assumption) rfl (by omega) (by decide) ?_
      refine zg_iinc1 (L2 := [_, _]) dX1_init_75 (by decide) rfl rfl ?_
      refine zg_goto (tgt := 53) dX1_init_78 (by decide) ?_
      refine ih (i + 1) _ (by omega) (fun q a c => ?_) ?_ ?_
      · rw [zup_n c, zup_n a]; exact h1 q a c
      · rw [zup_n (by omega), zup_s, h2]; exact qfil_up i
      · rw [zup_s, zup_n (by omega), h3]; exact qfil_up i
/-- the pointers so far -/
def PLp (S1 S : zS) (mu1 mu : zU) (b i : Nat) : Prop := S.1 = b + 7 + 3 * i ∧ zwf S ∧ (∀ q, q < b + 7 → S.2.1 q = S1.2.1 q) ∧ (∀ q, q < b + 7 → q ≠ b + 3 → S.2.2 q = S1.2.2 q) ∧ (∀ q, q < b + 7 → mu q = mu1 q) ∧ ∀ t, t < i → S.2.2 (b + 3) t = b + 7 + 3 * t + 1 ∧ PS S (b + 7 + 3 * t) ∧ PFr mu (b + 7 + 3 * t)
set_option maxRecDepth 20000 in
theorem lx_X1i83 {S1 : zS} {b : Nat} {mu1 : zU} (Ph : Option zV → zS → zU → Prop) (hk : S1.2.1 b = (0, 1)) (hk3 : S1.2.1 (b + 3) = (3, 4)) (hr2 : S1.2.2 b 2 = b + 3 + 1)
    (hx : ∀ S mu, PLp S1 S mu1 mu b 4 → zG RX1 "<init>" cX1_init 2 none (zroom 2 18 300) 18 300 Ph 107 [some (.inr (b + 1)), some (.inl (nI 4))] [] S mu (6 + 3 * 4) (188 + 28 * 4)) :
    ∀ (d i : Nat) (S : zS) (mu : zU), i + d = 4 → PLp S1 S mu1 mu b i → zG RX1 "<init>" cX1_init 2 none (zroom 2 18 300) 18 300 Ph 83 [some (.inr (b + 1)), some (.inl (nI i))] [] S mu (6 + 3 * i) (188 + 28 * i) := by
  intro d
  induction d with
  | zero =>
    intro i S mu hid h
    obtain rfl : i = 4 := by omega
    refine zg_iload_n (i := 1) dX1_init_83 rfl rfl ?_
    refine zg_iconst (v := nI 4) dX1_init_84 (by decide) ?_
    first | with_reducible refine zg_icmpN_ge (tgt := 107) dX1_init_85 (by decide) (by omega) (by omega) (fun c => ?_) (fun c => ?_) | refine zg_icmp_ge (tgt := 107) dX1_init_85 (by decide) (fun c => ?_) (fun c => ?_)
    · exact hx S mu h
    · omega
  | succ d ih =>
    intro i S mu hid h
    obtain ⟨h1, h2, h3, h4, h5, h6⟩ := h
    have hN0 : b < S.1 := by omega
    have hb : S.2.1 b = (0, 1) := (h3 b (by omega)).trans hk
    have hr : S.2.2 b 2 = b + 3 + 1 := by rw [h4 b (by omega) (by omega)]; exact hr2
    refine zg_iload_n (i := 1) dX1_init_83 rfl rfl ?_
    refine zg_iconst (v := nI 4) dX1_init_84 (by decide) ?_
    first | with_reducible refine zg_icmpN_ge (tgt := 107) dX1_init_85 (by decide) (by omega) (by omega) (fun c => ?_) (fun c => ?_) | refine zg_icmp_ge (tgt := 107) dX1_init_85 (by decide) (fun c => ?_) (fun c => ?_)
    · omega
    · refine zg_aload_n (i := 0) dX1_init_88 rfl rfl ?_
      refine zg_getR dX1_init_89 flX1_20 (by decide) (by assumption) (by assumption) (by assumption) ?_
      refine zg_iload_n (i := 1) dX1_init_92 rfl rfl ?_
      refine zg_new (ci := 0) dX1_init_93 rfl clX1_18 kjX0 kiX0 h2 (zok_r hN0 (zok_i (zok_nil _))) (zok_i (zok_r (by omega) (zok_nil _))) (by show 6 + 3 * i + 1 ≤ 18; omega) (by show 188 + 28 * i + 9 ≤ 300; omega) ?_
      refine zg_dup dX1_init_96 ?_
      have g1 : (zgr S (0, 0)).1 = S.1 + 1 := rfl
      have g2 : (zgr S (0, 0)).2.1 S.1 = (0, 0) := if_pos rfl
      refine zg_callIN (n := 0) (As := []) (rest := [.inr (S.1 + 1), .inl (nI i), .inr (b + 3 + 1)]) (cx_X0_init (zwf_gr h2 _) g1 g2 (zrow_s _ _ _)) dX1_init_97 cnX0_init (fun _ h => h.2.2.1) rfl rfl (Nat.le_of_ble_eq_true rfl) ⟨by decide, by decide⟩ ⟨by show 6 + 3 * i + 1 + 2 ≤ 18; omega, by show 188 + 28 * i + 9 + 19 ≤ 300; omega⟩ (Or.inr ⟨zok_r (by omega) (zok_i (zok_nil _)), zok_r (by omega) (zok_i (zok_r (by omega) (zok_nil _)))⟩) (fun v T mu2 hT => ?_)
      obtain ⟨rfl, t1, ⟨e1, e2, e3, e4⟩, e5, e6⟩ := hT
      have n1 : ∀ q, q < S.1 → T.2.1 q = S.2.1 q := fun q hq => by
        rw [e3 q (by omega)]
        show (if q = S.1 then (0, 0) else S.2.1 q) = _
        rw [if_neg (by omega)]
      have n2 : ∀ q, q < S.1 → T.2.2 q = S.2.2 q := fun q hq => by
        rw [(e4 q (by omega) (by omega)).1]
        show (if q = S.1 then fun _ => 0 else S.2.2 q) = _
        rw [if_neg (by omega)]
      have n3 : ∀ q, q < S.1 → mu2 q = mu q := fun q hq => by
        rw [(e4 q (by omega) (by omega)).2, zrow_n (by omega)]
      have hk3T : T.2.1 (b + 3) = (3, 4) := by rw [n1 _ (by omega), h3 _ (by omega)]; exact hk3
      refine zg_past (k := b + 3) (q := S.1) dX1_init_100 hk3T (by omega) rfl (by omega) (by decide) e5.2.1 (by omega) ?_
      refine zg_iinc1 (L2 := [_, _]) dX1_init_101 (by decide) rfl rfl ?_
      refine zg_goto (tgt := 83) dX1_init_104 (by decide) ?_
      refine zg_cs (c2 := 6 + 3 * (i + 1)) (s2 := 188 + 28 * (i + 1)) (by omega) (by omega) ?_
      refine ih (i + 1) _ _ (by omega) ⟨?_, zwf_put e1 (by omega), fun q hq => (n1 q (by omega)).trans (h3 q hq), fun q hq hq3 => ?_, fun q hq => (n3 q (by omega)).trans (h5 q hq), fun t ht => ?_⟩
      · show T.1 = _
        omega
      · show zur T.2.2 (b + 3) i (S.1 + 1) q = _
        rw [zur, if_neg hq3, n2 q (by omega)]; exact h4 q hq hq3
      · show zur T.2.2 (b + 3) i (S.1 + 1) (b + 3) t = _ ∧ PS (T.1, T.2.1, zur T.2.2 (b + 3) i (S.1 + 1)) _ ∧ _
        have hz : ∀ q, q ≠ b + 3 → zur T.2.2 (b + 3) i (S.1 + 1) q = T.2.2 q := fun q hq => by rw [zur, if_neg hq]
        rw [zur, if_pos rfl]
        by_cases hti : t = i
        · rw [if_pos hti, hti, ← h1]
          exact ⟨rfl, PS_ex e5 (Nat.le_refl _) (fun _ _ _ => rfl) (hz _ (by omega)), e6⟩
        · obtain ⟨a1, a2, a3⟩ := h6 t (by omega)
          rw [if_neg hti, n2 _ (by omega)]
          refine ⟨a1, PS_ex a2 (by show S.1 ≤ T.1; omega) (fun q _ _ => n1 q (by omega)) ?_, PFr_ex a3 (fun q _ _ => n3 q (by omega))⟩
          show zur T.2.2 (b + 3) i (S.1 + 1) _ = _
          rw [hz _ (by omega), n2 _ (by omega)]
