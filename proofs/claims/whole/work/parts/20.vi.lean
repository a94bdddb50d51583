/-! the split, and a turn, keep the row whole -/
theorem qplace_at {v : Nat → Int32} {ol : List Nat} {p i : Nat} (h : VI v ol) (hi : ol[i]? = some p) : ∀ n, i < n → n ≤ ol.length → qplace v p n = i + 1 := by
  intro n
  induction n with
  | zero => intro h; omega
  | succ n ih =>
    intro h1 h2
    obtain ⟨⟨h145, hl1, hl4⟩, h4, h5, -⟩ := h
    rw [qplace]
    have hn : n < ol.length := by omega
    have hq := List.getElem?_eq_getElem hn
    have := h4 n _ hq
    by_cases hin : i = n
    · subst hin
      rw [if_pos (h4 i p hi).1]
    · rw [if_neg, ih (by omega) (by omega)]
      intro e
      rw [this.1] at e
      have hp := (h4 i p hi).2
      rw [nI_eq (by omega) (by omega)] at e
      rw [e] at hq
      exact hin (h5 i n p hi hq)
theorem qborn_out {v : Nat → Int32} {o b j : Nat} (hj : j < b ∨ b + 25 ≤ j) : qborn v o b j = v j := by
  rw [qborn, qmove, upd_n (by omega), upd_n (by omega), qturn, upd_n (by omega), upd_n (by omega), upd_n (by omega), qcopy, if_neg (by omega)]
theorem PI_copy {v : Nat → Int32} {o b x y dr ss sl ns s0 s1 s2 : Nat} (h : PI v o x y dr ss sl ns s0 s1 s2) : PI (qcopy v o b) b x y dr ss sl ns s0 s1 s2 := by
  have hw : ∀ i, i < 25 → qcopy v o b (b + i) = v (o + i) := fun i hi => by rw [qcopy, if_pos (by omega), show b + i - b + o = o + i by omega]
  obtain ⟨e0, e1, e2, e3, e4, e5, e6, e7, e8, bb, e9⟩ := h
  exact ⟨(hw 0 (by omega)).trans e0, (hw 1 (by omega)).trans e1, (hw 2 (by omega)).trans e2, (hw 3 (by omega)).trans e3, (hw 4 (by omega)).trans e4, (hw 5 (by omega)).trans e5, (hw 6 (by omega)).trans e6, (hw 7 (by omega)).trans e7, (hw 8 (by omega)).trans e8, bb, fun j h1 h2 => by
    have := hw (9 + j) (by omega)
    rw [← Nat.add_assoc, ← Nat.add_assoc] at this
    exact this.trans (e9 j h1 h2)⟩
theorem PX1_born {v : Nat → Int32} {o b : Nat} (h : PX1 v o) : PX1 (qborn v o b) b := by
  obtain ⟨x, y, dr, ss, sl, ns, s0, s1, s2, h⟩ := h
  have h2 := ((PI_copy (b := b) h).stat (d := 0) (by omega)).slp (d := 0) (by omega)
  exact (PO_move (PO_turn ⟨_, _, _, _, _, _, _, _, _, h2⟩ 2).2).2
theorem VI_split {v : Nat → Int32} {ol : List Nat} {p i : Nat} (h : VI v ol) (hi : ol[i]? = some p) (hl : ol.length ≠ 4) : VI (qsplit2 v p ol.length) (ol.insertIdx (i + 1) ol.length) := by
  obtain ⟨⟨h145, hl1, hl4⟩, h4, h5, h6, h7, h8, ⟨k, g1, g2, g3⟩, n, k1, k2, k3⟩ := id h
  have hil := (List.getElem?_eq_some_iff.mp hi).1
  have hp := (h4 i p hi).2
  have hpl := qplace_at h hi ol.length hil (Nat.le_refl _)
  have hlen : (ol.insertIdx (i + 1) ol.length).length = ol.length + 1 := by rw [List.length_insertIdx, if_pos (by omega)]
  generalize hu : qborn v (150 + 25 * p) (150 + 25 * ol.length) = u
  have hu1 : ∀ j, (j < 150 + 25 * ol.length ∨ 175 + 25 * ol.length ≤ j) → u j = v j := fun j hj => by rw [← hu]; exact qborn_out (by omega)
  have hu2 : PX1 u (150 + 25 * ol.length) := by rw [← hu]; exact PX1_born (h7 p hp)
  have e : ∀ j, (j < 145 ∨ 150 ≤ j) → qsplit2 v p ol.length j = u j := fun j hj => by rw [qsplit2, hu, hpl, upd_n (by omega), qins, if_neg (by omega), if_neg (by omega)]
  refine ⟨⟨by rw [hlen, qsplit2, upd_s], by omega, by omega⟩, fun j q hq => ?_, fun a b q ha hb => ?_, fun j a b => ?_, fun q hq => ?_, fun q j a b c => ?_, ⟨k, g1, ?_, fun j a b => ?_⟩, n, k1, ?_, fun j a b => ?_⟩
  · rw [List.getElem?_insertIdx] at hq
    rw [qsplit2, hu, hpl, upd_n (by omega), qins, hlen]
    by_cases c1 : j < i + 1
    · rw [if_pos c1] at hq
      have hj := (List.getElem?_eq_some_iff.mp hq).1
      rw [if_neg (by omega), if_neg (by omega), hu1 _ (by omega)]
      exact ⟨(h4 j q hq).1, by have := (h4 j q hq).2; omega⟩
    · rw [if_neg c1] at hq
      by_cases c2 : j = i + 1
      · rw [if_pos c2, if_pos (by omega)] at hq
        cases hq
        rw [if_neg (by omega), if_pos (by omega)]
        exact ⟨rfl, by omega⟩
      · rw [if_neg c2] at hq
        have hj := (List.getElem?_eq_some_iff.mp hq).1
        rw [if_pos (by omega), hu1 _ (by omega), show 146 + j - 1 = 146 + (j - 1) by omega]
        exact ⟨(h4 (j - 1) q hq).1, by have := (h4 (j - 1) q hq).2; omega⟩
  · rw [List.getElem?_insertIdx] at ha hb
    by_cases a1 : a < i + 1
    · rw [if_pos a1] at ha
      by_cases b1 : b < i + 1
      · rw [if_pos b1] at hb; exact h5 a b q ha hb
      · rw [if_neg b1] at hb
        by_cases b2 : b = i + 1
        · rw [if_pos b2, if_pos (by omega)] at hb
          cases hb
          have := (h4 a _ ha).2
          omega
        · rw [if_neg b2] at hb
          have := h5 a (b - 1) q ha hb
          omega
    · rw [if_neg a1] at ha
      by_cases a2 : a = i + 1
      · rw [if_pos a2, if_pos (by omega)] at ha
        cases ha
        by_cases b1 : b < i + 1
        · rw [if_pos b1] at hb
          have := (h4 b _ hb).2
          omega
        · rw [if_neg b1] at hb
          by_cases b2 : b = i + 1
          · omega
          · rw [if_neg b2] at hb
            have := (h4 (b - 1) _ hb).2
            omega
      · rw [if_neg a2] at ha
        by_cases b1 : b < i + 1
        · rw [if_pos b1] at hb
          have := h5 (a - 1) b q ha hb
          omega
        · rw [if_neg b1] at hb
          by_cases b2 : b = i + 1
          · rw [if_pos b2, if_pos (by omega)] at hb
            cases hb
            have := (h4 (a - 1) _ ha).2
            omega
          · rw [if_neg b2] at hb
            have := h5 (a - 1) (b - 1) q ha hb
            omega
  · rw [hlen] at a
    rw [qsplit2, hu, hpl, upd_n (by omega), qins, if_neg (by omega), if_neg (by omega), hu1 _ (by omega)]
    exact h6 j (by omega) b
  · rw [hlen] at hq
    by_cases hqc : q = ol.length
    · subst hqc
      exact PX1_out hu2 (fun j a b => e j (by omega))
    · exact PX1_out (h7 q (by omega)) (fun j a b => by rw [e j (by omega), hu1 j (by omega)])
  · rw [hlen] at a
    rw [e _ (by omega), hu1 _ (by omega)]
    exact h8 q j (by omega) b c
  · rw [e _ (by omega), hu1 _ (by omega)]; exact g2
  · rw [e _ (by omega), hu1 _ (by omega)]; exact g3 j a b
  · rw [e _ (by omega), hu1 _ (by omega)]; exact k2
  · rw [e _ (by omega), hu1 _ (by omega)]; exact k3 j a b
/-- the order behind a turn of the pointer at place i -/
def olNext (v : Nat → Int32) (ol : List Nat) (i : Nat) (c : Int32) : List Nat := if c = nI 116 ∧ ol.length ≠ 4 then ol.insertIdx (i + 1) ol.length else ol
theorem VI_exec {v : Nat → Int32} {ol : List Nat} {p i : Nat} (h : VI v ol) (hi : ol[i]? = some p) (c : Int32) : VI (qexec v p c) (olNext v ol i c) := by
  have hp : p < ol.length := (h.2.1 i p hi).2
  have hX := h.2.2.2.2.1 p hp
  unfold qexec olNext
  by_cases c1 : c = nI 103
  · rw [if_pos c1, if_neg (by rw [c1]; exact fun z => absurd z.1 (by decide))]; exact VI_ptr h hp (PO_fetch hX)
  rw [if_neg c1]
  by_cases c2 : c = nI 112
  · rw [if_pos c2, if_neg (by rw [c2]; exact fun z => absurd z.1 (by decide)), qstore, qstore3]
    have h3 := VI_ptr h hp ((PO_pop hX).trans (fun h2 => (PO_pop h2).trans (fun h3 => PO_pop h3)))
    split
    · have := qcell_lt (qpopR (qpop v (150 + 25 * p)) (150 + 25 * p)) (qpopR v (150 + 25 * p))
      exact VI_grid h3 (by omega) _
    · exact h3
  rw [if_neg c2]
  by_cases c3 : c = nI 46
  · rw [if_pos c3, if_neg (by rw [c3]; exact fun z => absurd z.1 (by decide))]; exact VI_qout (VI_ptr h hp (PO_pop hX)) _
  rw [if_neg c3]
  by_cases c4 : c = nI 126
  · rw [if_pos c4, if_neg (by rw [c4]; exact fun z => absurd z.1 (by decide)), qin]
    obtain ⟨n, g1, g2, -⟩ := h.2.2.2.2.2.2.1
    rw [zn_of g2 (by omega)]
    split
    · exact VI_ptr h hp (PO_turn hX 2)
    · have := VI_qinV h (n := n) (by omega) g1 g2
      exact VI_ptr this hp (PO_push (this.2.2.2.2.1 p hp) _)
  rw [if_neg c4]
  by_cases c5 : c = nI 116
  · rw [if_pos c5, qsplit, zn_of h.1.1 (by have := h.1.2.2; omega)]
    by_cases hl : ol.length = 4
    · rw [if_pos hl, if_neg (fun z => z.2 hl)]; exact h
    · rw [if_neg hl, if_pos ⟨c5, hl⟩]; exact VI_split h hi hl
  rw [if_neg c5, if_neg (fun z => c5 z.1)]
  exact VI_ptr h hp (PO_perf hX c)
/-- the code under the pointer p -/
def qcode (v : Nat → Int32) (p : Nat) : Int32 := v (72 + 12 * zn v (151 + 25 * p) + zn v (150 + 25 * p))
def olTake (v : Nat → Int32) (ol : List Nat) (i p : Nat) : List Nat := if v (153 + 25 * p) ≠ 0 then ol else if 0 < v (154 + 25 * p) then ol else olNext v ol i (qcode v p)
theorem olNext_mem {v : Nat → Int32} {ol : List Nat} {i q : Nat} {c : Int32} (hi : i < ol.length) (h : q ∈ ol) : q ∈ olNext v ol i c := by
  unfold olNext
  split
  · obtain ⟨j, hj⟩ := List.getElem?_of_mem h
    by_cases c1 : j < i + 1
    · exact List.mem_of_getElem? (i := j) (by rw [List.getElem?_insertIdx, if_pos c1]; exact hj)
    · exact List.mem_of_getElem? (i := j + 1) (by rw [List.getElem?_insertIdx, if_neg (by omega), if_neg (by omega)]; exact hj)
  · exact h
theorem VI_take {v : Nat → Int32} {ol : List Nat} {p i : Nat} (h : VI v ol) (hi : ol[i]? = some p) : VI (qtake v p) (olTake v ol i p) := by
  have hp : p < ol.length := (h.2.1 i p hi).2
  have hX := h.2.2.2.2.1 p hp
  unfold qtake olTake
  split
  · exact h
  split
  · rename_i hs
    obtain ⟨x, y, dr, ss, sl, ns, s0, s1, s2, h0⟩ := id hX
    have e4 : v (154 + 25 * p) = nI sl := by rw [show 154 + 25 * p = 150 + 25 * p + 4 by omega]; exact h0.2.2.2.2.1
    have b5 : sl ≤ 9 := h0.2.2.2.2.2.2.2.2.2.1.2.2.2.2.1
    rw [e4] at hs ⊢
    have hs' : 0 < sl := by rw [← n0, nI_ltI (by omega) (by omega)] at hs; exact hs
    rw [← n1, pk_sub (by omega), show 154 + 25 * p = 150 + 25 * p + 4 by omega]
    exact VI_ptr h hp (PO_slp hX (by omega))
  · have h2 := VI_exec h hi (qcode v p)
    unfold qcode at h2 ⊢
    generalize qexec v p (v (72 + 12 * zn v (151 + 25 * p) + zn v (150 + 25 * p))) = w at *
    rw [qend]
    split
    · obtain ⟨j, hj⟩ := List.getElem?_of_mem (olNext_mem (v := v) (c := v (72 + 12 * zn v (151 + 25 * p) + zn v (150 + 25 * p))) (List.getElem?_eq_some_iff.mp hi).1 (List.mem_of_getElem? hi))
      have hp2 := (h2.2.1 j p hj).2
      exact VI_ptr h2 hp2 (PO_move (h2.2.2.2.2.1 p hp2))
    · exact h2
theorem olTake_mem {v : Nat → Int32} {ol : List Nat} {i p q : Nat} (hi : i < ol.length) (h : q ∈ ol) : q ∈ olTake v ol i p := by
  unfold olTake
  split
  · exact h
  split
  · exact h
  · exact olNext_mem hi h
/-- the turns of a tick, one after the other, by the order with which it began -/
theorem VI_takes {v : Nat → Int32} {ol : List Nat} (h : VI v ol) : ∀ n, n ≤ ol.length → ∃ ol2, VI (qtakes v n) ol2 ∧ ∀ q, q ∈ ol → q ∈ ol2 := by
  intro n
  induction n with
  | zero => intro _; exact ⟨ol, h, fun _ h => h⟩
  | succ n ih =>
    intro hn
    obtain ⟨ol2, h2, hm⟩ := ih (by omega)
    have hq := List.getElem?_eq_getElem (show n < ol.length by omega)
    have h3 := h.2.1 n _ hq
    have hl := h.1.2.2
    rw [qtakes, zn_of h3.1 (by omega)]
    obtain ⟨i, hi⟩ := List.getElem?_of_mem (hm _ (List.mem_of_getElem? hq))
    exact ⟨_, VI_take h2 hi, fun q hq2 => olTake_mem (List.getElem?_eq_some_iff.mp hi).1 (hm q hq2)⟩
theorem VI_step {v : Nat → Int32} {ol : List Nat} (h : VI v ol) : ∃ ol2, VI (qstep v) ol2 := by
  have hl := h.1.2.2
  obtain ⟨ol2, h2, -⟩ := VI_takes h ol.length (Nat.le_refl _)
  rw [qstep, zn_of h.1.1 (by omega)]
  exact ⟨ol2, VI_grid h2 (by omega) _⟩
