/-! THE CONSTRUCTORS: the class; its world so far -/
def xk (i : Nat) (e : Nat × Nat) : Prop := (i = 0 ∧ e = (0, 2)) ∨ (i = 1 ∧ e = (1, 90)) ∨ (i = 2 ∧ e = (2, 72)) ∨ (i = 22 ∧ e = (4, 6)) ∨ (i = 137 ∧ e = (4, 2)) ∨ (i = 176 ∧ e = (2, 2))
def xz (i : Nat) : Prop := i = 1 ∨ i = 2 ∨ i = 176
def xf (j i : Nat) : Prop := (j = 0 ∧ i = 1) ∨ (j = 2 ∧ i = 2) ∨ (j = 4 ∧ i = 3) ∨ (j = 5 ∧ i = 22) ∨ (j = 7 ∧ i = 137) ∨ (j = 8 ∧ i = 176) ∨ (j = 9 ∧ i = 177) ∨ (j = 10 ∧ i = 196)
def xst (i : Nat) : Prop := i = 3 ∨ i = 177 ∨ i = 196 ∨ (∃ t, t < 6 ∧ i = 23 + 19 * t) ∨ ∃ t, t < 2 ∧ i = 138 + 19 * t
def XB (S0 : zS) (mu0 : zU) (x n f u w : Nat) (S : zS) (mu : zU) : Prop :=
  (S.1 = x + n ∧ zwf S ∧ 0 < n ∧ (u = 0 ∨ 22 < n) ∧ (w = 0 ∨ 137 < n)) ∧ (∀ q, q < x → S.2.1 q = S0.2.1 q ∧ S.2.2 q = S0.2.2 q ∧ mu q = mu0 q) ∧
  (∀ i e, xk i e → i < n → S.2.1 (x + i) = e) ∧ (mu x = fun _ => nI 0) ∧ (∀ i, xz i → i < n → mu (x + i) = fun _ => nI 0) ∧ (∀ j i, xf j i → i < f → S.2.2 x j = x + i + 1) ∧
  (∀ i, xst i → i + 18 < n → SS S (x + i) ∧ SX mu (x + i) qv0 [0]) ∧ (∀ t, t < u → S.2.2 (x + 22) t = x + 23 + 19 * t + 1) ∧ ∀ t, t < w → S.2.2 (x + 137) t = x + 138 + 19 * t + 1
theorem SS_ex {S T : zS} {b : Nat} (h : SS S b) (h1 : S.1 ≤ T.1) (h2 : ∀ q, b ≤ q → q < b + 19 → T.2.1 q = S.2.1 q ∧ T.2.2 q = S.2.2 q) : SS T b := by
  obtain ⟨a, k0, k1, k2, k3, k4, k5, k6, r0, r1, r2, r3, r5, r7, hp⟩ := h
  have kk : ∀ i, i < 19 → T.2.1 (b + i) = S.2.1 (b + i) := fun i hi => (h2 _ (by omega) (by omega)).1
  have rr : ∀ i, i < 19 → T.2.2 (b + i) = S.2.2 (b + i) := fun i hi => (h2 _ (by omega) (by omega)).2
  have r : T.2.2 b = S.2.2 b := rr 0 (by omega)
  refine ⟨by omega, (kk 0 (by omega)).trans k0, (kk 1 (by omega)).trans k1, (kk 2 (by omega)).trans k2, (kk 3 (by omega)).trans k3, (kk 4 (by omega)).trans k4, (kk 5 (by omega)).trans k5, (kk 6 (by omega)).trans k6, by rw [r]; exact r0, by rw [r]; exact r1, by rw [r]; exact r2, by rw [r]; exact r3, by rw [r]; exact r5, by rw [r]; exact r7, fun i hi => ⟨?_, PS_ex (hp i hi).2 h1 (fun q _ _ => (h2 q (by omega) (by omega)).1) (h2 _ (by omega) (by omega)).2⟩⟩
  rw [rr 3 (by omega)]
  exact (hp i hi).1
theorem XB_ext {S0 S T : zS} {mu0 mu mu2 : zU} {x n n2 f u w : Nat} (h : XB S0 mu0 x n f u w S mu) (hw : zwf T) (h1 : T.1 = x + n2) (h2 : n ≤ n2) (h3 : ∀ q, q < x + n → T.2.1 q = S.2.1 q ∧ T.2.2 q = S.2.2 q ∧ mu2 q = mu q) (hk : ∀ i e, xk i e → n ≤ i → i < n2 → T.2.1 (x + i) = e) (hz : ∀ i, xz i → n ≤ i → i < n2 → mu2 (x + i) = fun _ => nI 0) (hs : ∀ i, xst i → n ≤ i + 18 → i + 18 < n2 → SS T (x + i) ∧ SX mu2 (x + i) qv0 [0]) : XB S0 mu0 x n2 f u w T mu2 := by
  obtain ⟨⟨a1, a2, a3, a4, a5⟩, b0, b1, b2, b3, b4, b5, b6, b7⟩ := h
  refine ⟨⟨h1, hw, by omega, by omega, by omega⟩, fun q hq => ?_, fun i e hi hn => ?_, ?_, fun i hi hn => ?_, fun j i hj hi => ?_, fun i hi hn => ?_, fun t ht => ?_, fun t ht => ?_⟩
  · obtain ⟨c1, c2, c3⟩ := h3 q (by omega)
    rw [c1, c2, c3]; exact b0 q hq
  · by_cases hin : i < n
    · rw [(h3 _ (by omega)).1]; exact b1 i e hi hin
    · exact hk i e hi (by omega) hn
  · rw [(h3 _ (by omega)).2.2]; exact b2
  · by_cases hin : i < n
    · rw [(h3 _ (by omega)).2.2]; exact b3 i hi hin
    · exact hz i hi (by omega) hn
  · rw [(h3 x (by omega)).2.1]; exact b4 j i hj hi
  · by_cases hin : i + 18 < n
    · obtain ⟨c1, c2⟩ := b5 i hi hin
      exact ⟨SS_ex c1 (by omega) (fun q _ _ => ⟨(h3 q (by omega)).1, (h3 q (by omega)).2.1⟩), SX_mv c2 (fun q _ _ => (h3 q (by omega)).2.2)⟩
    · exact hs i hi (by omega) hn
  · rw [(h3 _ (by omega)).2.1]; exact b6 t ht
  · rw [(h3 _ (by omega)).2.1]; exact b7 t ht
theorem XB_gr {S0 S : zS} {mu0 mu : zU} {x n f u w : Nat} {e : Nat × Nat} (h : XB S0 mu0 x n f u w S mu) (h1 : ∀ e2, xk n e2 → e2 = e) (hs : ∀ i, xst i → i + 18 ≠ n) : XB S0 mu0 x (n + 1) f u w (zgr S e) (zrow mu S.1 (fun _ => nI 0)) := by
  have a1 := h.1.1
  refine XB_ext h (zwf_gr h.1.2.1 e) (by show S.1 + 1 = _; omega) (by omega) (fun q hq => ⟨?_, ?_, zrow_n (by omega)⟩) (fun i e2 hk c1 c2 => ?_) (fun i hz c1 c2 => ?_) (fun i hi c1 c2 => absurd (show i + 18 = n by omega) (hs i hi))
  · show (if q = S.1 then e else S.2.1 q) = _
    rw [if_neg (by omega)]
  · show (if q = S.1 then fun _ => 0 else S.2.2 q) = _
    rw [if_neg (by omega)]
  · obtain rfl : i = n := by omega
    show (if x + i = S.1 then e else S.2.1 (x + i)) = _
    rw [if_pos a1.symm, h1 e2 hk]
  · obtain rfl : i = n := by omega
    rw [← a1, zrow_s]
theorem XB_put {S0 S : zS} {mu0 mu : zU} {x n f u w f2 j r : Nat} (h : XB S0 mu0 x n f u w S mu) (hr : r ≤ x + n) (hf : ∀ j2 i2, xf j2 i2 → i2 < f2 → (j2 ≠ j ∧ i2 < f) ∨ (j2 = j ∧ r = x + i2 + 1)) : XB S0 mu0 x n f2 u w (S.1, S.2.1, zur S.2.2 x j r) mu := by
  obtain ⟨⟨a1, a2, a3, a4, a5⟩, b0, b1, b2, b3, b4, b5, b6, b7⟩ := h
  have hz : ∀ q, q ≠ x → zur S.2.2 x j r q = S.2.2 q := fun q hq => by rw [zur, if_neg hq]
  refine ⟨⟨a1, zwf_put a2 (by omega), a3, a4, a5⟩, fun q hq => ⟨(b0 q hq).1, (hz q (by omega)).trans (b0 q hq).2.1, (b0 q hq).2.2⟩, b1, b2, b3, fun j2 i2 hj hi => ?_, fun i hi hn => ⟨SS_ex (b5 i hi hn).1 (Nat.le_refl _) (fun q c1 c2 => ⟨rfl, hz q ?_⟩), (b5 i hi hn).2⟩, fun t ht => ?_, fun t ht => ?_⟩
  · show zur S.2.2 x j r x j2 = _
    rw [zur, if_pos rfl]
    rcases hf j2 i2 hj hi with ⟨c1, c2⟩ | ⟨c1, c2⟩
    · rw [if_neg c1]; exact b4 j2 i2 hj c2
    · rw [if_pos c1]; exact c2
  · rcases hi with d | d | d | ⟨t, d1, d⟩ | ⟨t, d1, d⟩ <;> omega
  · show zur S.2.2 x j r (x + 22) t = _
    rw [hz _ (by omega)]; exact b6 t ht
  · show zur S.2.2 x j r (x + 137) t = _
    rw [hz _ (by omega)]; exact b7 t ht
theorem XB_un {S0 S : zS} {mu0 mu : zU} {x n f u w : Nat} (h : XB S0 mu0 x n f u w S mu) (hn : x + 23 + 19 * u + 1 ≤ x + n) : XB S0 mu0 x n f (u + 1) w (S.1, S.2.1, zur S.2.2 (x + 22) u (x + 23 + 19 * u + 1)) mu := by
  obtain ⟨⟨a1, a2, a3, a4, a5⟩, b0, b1, b2, b3, b4, b5, b6, b7⟩ := h
  have hz : ∀ q, q ≠ x + 22 → zur S.2.2 (x + 22) u (x + 23 + 19 * u + 1) q = S.2.2 q := fun q hq => by rw [zur, if_neg hq]
  refine ⟨⟨a1, zwf_put a2 (by omega), a3, by omega, a5⟩, fun q hq => ⟨(b0 q hq).1, (hz q (by omega)).trans (b0 q hq).2.1, (b0 q hq).2.2⟩, b1, b2, b3, fun j2 i2 hj hi => ?_, fun i hi hn => ⟨SS_ex (b5 i hi hn).1 (Nat.le_refl _) (fun q c1 c2 => ⟨rfl, hz q ?_⟩), (b5 i hi hn).2⟩, fun t ht => ?_, fun t ht => ?_⟩
  · show zur S.2.2 (x + 22) u _ x j2 = _
    rw [hz _ (by omega)]; exact b4 j2 i2 hj hi
  · rcases hi with d | d | d | ⟨t, d1, d⟩ | ⟨t, d1, d⟩ <;> omega
  · show zur S.2.2 (x + 22) u _ (x + 22) t = _
    rw [zur, if_pos rfl]
    by_cases htu : t = u
    · rw [if_pos htu, htu]
    · rw [if_neg htu]; exact b6 t (by omega)
  · show zur S.2.2 (x + 22) u _ (x + 137) t = _
    rw [hz _ (by omega)]; exact b7 t ht
theorem XB_sn {S0 S : zS} {mu0 mu : zU} {x n f u w : Nat} (h : XB S0 mu0 x n f u w S mu) (hn : x + 138 + 19 * w + 1 ≤ x + n) : XB S0 mu0 x n f u (w + 1) (S.1, S.2.1, zur S.2.2 (x + 137) w (x + 138 + 19 * w + 1)) mu := by
  obtain ⟨⟨a1, a2, a3, a4, a5⟩, b0, b1, b2, b3, b4, b5, b6, b7⟩ := h
  have hz : ∀ q, q ≠ x + 137 → zur S.2.2 (x + 137) w (x + 138 + 19 * w + 1) q = S.2.2 q := fun q hq => by rw [zur, if_neg hq]
  refine ⟨⟨a1, zwf_put a2 (by omega), a3, a4, by omega⟩, fun q hq => ⟨(b0 q hq).1, (hz q (by omega)).trans (b0 q hq).2.1, (b0 q hq).2.2⟩, b1, b2, b3, fun j2 i2 hj hi => ?_, fun i hi hn => ⟨SS_ex (b5 i hi hn).1 (Nat.le_refl _) (fun q c1 c2 => ⟨rfl, hz q ?_⟩), (b5 i hi hn).2⟩, fun t ht => ?_, fun t ht => ?_⟩
  · show zur S.2.2 (x + 137) w _ x j2 = _
    rw [hz _ (by omega)]; exact b4 j2 i2 hj hi
  · rcases hi with d | d | d | ⟨t, d1, d⟩ | ⟨t, d1, d⟩ <;> omega
  · show zur S.2.2 (x + 137) w _ (x + 22) t = _
    rw [hz _ (by omega)]; exact b6 t ht
  · show zur S.2.2 (x + 137) w _ (x + 137) t = _
    rw [zur, if_pos rfl]
    by_cases htu : t = w
    · rw [if_pos htu, htu]
    · rw [if_neg htu]; exact b7 t (by omega)
section ZST
variable {nm : String} {cc : ByteArray} {nL : Nat} {ret : Option FieldType} {R : Room} {mc ms : Nat} {Ph : Option zV → zS → zU → Prop} {pc : Nat} {L : List (Option zV)} {st : List zV} {S : zS} {mu : zU} {cells slots : Nat}
/-- new State() -/
theorem zg_st {S0 : zS} {mu0 : zU} {x n f u w : Nat} (hB : XB S0 mu0 x n f u w S mu) (hn : xst n) (hd1 : decode cc pc = .ok (.new 17, 3)) (hd2 : decode cc (pc + 3) = .ok (.dup, 1)) (hd3 : decode cc (pc + 4) = .ok (.invokespecial 19, 3)) (hL : zok S L) (hst : zok S (st.map some)) (h8 : st.length ≤ 7) (hR : zfit R 2 2) (hcs : cells + 19 ≤ R.cells ∧ slots + 311 ≤ R.slots)
    (kk : ∀ T mu2, XB S0 mu0 x (n + 19) f u w T mu2 → zG RX2 nm cc nL ret R mc ms Ph (pc + 7) L (.inr (x + n + 1) :: st) T mu2 (cells + 19) (slots + 311)) : zG RX2 nm cc nL ret R mc ms Ph pc L st S mu cells slots := by
  have a1 := hB.1.1
  have hw := hB.1.2.1
  refine zg_new (ci := 1) hd1 rfl clX2_17 kjX1 kiX1 hw hL hst (by omega) (by omega) ?_
  refine zg_dup hd2 ?_
  have g1 : (zgr S (0, 1)).1 = S.1 + 1 := rfl
  have g2 : (zgr S (0, 1)).2.1 S.1 = (0, 1) := if_pos rfl
  refine zg_callI (n := 0) (As := []) (rest := .inr (S.1 + 1) :: st) (cx_X1_init (zwf_gr hw _) g1 g2 (zrow_s _ _ _)) hd3 cnX1_init mlX2_19 rfl rfl (by rw [List.length_cons]; omega) hR ⟨by omega, by omega⟩ (Or.inr ⟨fun v hv q e => Nat.lt_succ_of_lt (hL v hv q e), zok_r (by omega) (fun v hv q e => Nat.lt_succ_of_lt (hst v hv q e))⟩) (fun v T mu2 hT => ?_)
  obtain ⟨rfl, t1, ⟨e1, e2, e3, e4⟩, e5, e6⟩ := hT
  refine zg_cs (c2 := cells + 19) (s2 := slots + 311) (by omega) (by omega) ?_
  show zG RX2 nm cc nL ret R mc ms Ph (pc + 7) L (.inr (S.1 + 1) :: st) T mu2 (cells + 19) (slots + 311)
  have key : XB S0 mu0 x (n + 19) f u w T mu2 := by
    refine XB_ext hB e1 (by omega) (by omega) (fun q hq => ⟨?_, ?_, ?_⟩) (fun i e hi c1 c2 => ?_) (fun i hi c1 c2 => ?_) (fun i hi c1 c2 => ?_)
    · rw [e3 q (by omega)]
      show (if q = S.1 then (0, 1) else S.2.1 q) = _
      rw [if_neg (by omega)]
    · rw [(e4 q (by omega) (by omega)).1]
      show (if q = S.1 then fun _ => 0 else S.2.2 q) = _
      rw [if_neg (by omega)]
    · rw [(e4 q (by omega) (by omega)).2, zrow_n (by omega)]
    · exfalso
      rcases hn with d | d | d | ⟨t, d1, d⟩ | ⟨t, d1, d⟩ <;> rcases hi with ⟨h, -⟩ | ⟨h, -⟩ | ⟨h, -⟩ | ⟨h, -⟩ | ⟨h, -⟩ | ⟨h, -⟩ <;> omega
    · exfalso
      rcases hn with d | d | d | ⟨t, d1, d⟩ | ⟨t, d1, d⟩ <;> rcases hi with h | h | h <;> omega
    · have hin : i = n := by
        rcases hn with d | d | d | ⟨t, d1, d⟩ | ⟨t, d1, d⟩ <;> rcases hi with h | h | h | ⟨t2, h1, h⟩ | ⟨t2, h1, h⟩ <;> omega
      rw [hin, ← a1]
      exact ⟨e5, e6⟩
  have k2 := kk T mu2 key
  rw [← a1] at k2
  exact k2
end ZST
