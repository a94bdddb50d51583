/-! CONFIGURATIONS: splits, turns, ticks -/
theorem QE_place {v w : Nat → Int32} (h : QE v w) (p : Nat) : ∀ n, n ≤ 4 → qplace v p n = qplace w p n
  | 0, _ => rfl
  | n + 1, hn => by rw [qplace, qplace, h (146 + n) (by omega) (by omega) (by omega), QE_place h p n (by omega)]
theorem QE_split {v w : Nat → Int32} {p : Nat} (h : QE v w) (hp : p < 4) (hc : zn v 145 ≤ 4) : QE (qsplit v p) (qsplit w p) := by
  rw [qsplit, qsplit, ← QE_zn h (j := 145) (by omega) (by omega)]
  split
  · exact h
  · next hn =>
    generalize zn v 145 = c at hc hn
    have hb : OK (150 + 25 * c) := ⟨by omega, by omega⟩
    have hcp : QE (qcopy v (150 + 25 * p) (150 + 25 * c)) (qcopy w (150 + 25 * p) (150 + 25 * c)) := fun j a b d => by
      rw [qcopy, qcopy]
      split
      · exact h _ (by omega) (by omega) (by omega)
      · exact h j a b d
    have hbn : QE (qborn v (150 + 25 * p) (150 + 25 * c)) (qborn w (150 + 25 * p) (150 + 25 * c)) := QE_move (QE_turn (QE_upd (QE_upd hcp _ rfl) _ rfl) hb 2) hb
    rw [qsplit2, qsplit2, QE_place h p c hc]
    refine QE_upd (fun j a b d => ?_) _ rfl
    rw [qins, qins]
    split
    · exact hbn _ (by omega) (by omega) (by omega)
    · split
      · rfl
      · exact hbn j a b d
theorem QE_exec {v w : Nat → Int32} {ol : List Nat} {p : Nat} (h : QE v w) (hV : VI v ol) (hp : p < ol.length) (c : Int32) : QE (qexec v p c) (qexec w p c) := by
  have hl := hV.1.2.2
  have ho : OK (150 + 25 * p) := ⟨by omega, by omega⟩
  have hx := hV.2.2.2.2.1 p hp
  unfold qexec
  split
  · exact QE_fetch h ho hx
  split
  · exact QE_store h ho hx
  split
  · exact QE_out (QE_pop h ho hx) _ _
  split
  · refine QE_in h ho hx ?_
    obtain ⟨n, a1, a2, -⟩ := hV.2.2.2.2.2.2.1
    rw [zn_of a2 (by omega)]; exact a1
  split
  · refine QE_split h (by omega) ?_
    rw [zn_of hV.1.1 (by omega)]; exact hl
  · exact QE_perf h ho hx c
theorem QE_take {v w : Nat → Int32} {ol : List Nat} {p : Nat} (h : QE v w) (hV : VI v ol) (hp : p < ol.length) : QE (qtake v p) (qtake w p) := by
  have hl := hV.1.2.2
  have ho : OK (150 + 25 * p) := ⟨by omega, by omega⟩
  obtain ⟨px, py, dr, ss, sl, ns, s0, s1, s2, e0, e1, -, -, -, -, -, -, -, ⟨b1, b2, -⟩, -⟩ := hV.2.2.2.2.1 p hp
  have z0 : zn v (150 + 25 * p) = px := zn_of e0 (by omega)
  have z1 : zn v (151 + 25 * p) = py := by rw [show 151 + 25 * p = 150 + 25 * p + 1 by omega]; exact zn_of e1 (by omega)
  rw [qtake, qtake, h (153 + 25 * p) (by omega) (by omega) (by omega), h (154 + 25 * p) (by omega) (by omega) (by omega), ← QE_zn h (j := 150 + 25 * p) (by omega) (by omega), ← QE_zn h (j := 151 + 25 * p) (by omega) (by omega), z0, z1, h (72 + 12 * py + px) (by omega) (by omega) (by omega)]
  split
  · exact h
  split
  · exact QE_upd h _ rfl
  · have h2 := QE_exec h hV hp (w (72 + 12 * py + px))
    rw [qend, qend, h2 (150 + 25 * p + 3) (by omega) (by omega) (by omega)]
    split
    · exact QE_move h2 ho
    · exact h2
theorem QE_takes {v w : Nat → Int32} {ol : List Nat} (h : QE v w) (hV : VI v ol) : ∀ n, n ≤ ol.length → QE (qtakes v n) (qtakes w n)
  | 0, _ => h
  | n + 1, hn => by
    have hl := hV.1.2.2
    have h2 := QE_takes h hV n (by omega)
    obtain ⟨ol2, hV2, hin⟩ := VI_takes hV n (by omega)
    obtain ⟨q, hq⟩ : ∃ q, ol[n]? = some q := ⟨_, List.getElem?_eq_getElem (by omega)⟩
    obtain ⟨i, hi⟩ := List.mem_iff_getElem?.mp (hin q (List.mem_of_getElem? hq))
    have hz : zn v (146 + n) = q := zn_of (hV.2.1 n q hq).1 (by have := (hV.2.1 n q hq).2; omega)
    rw [qtakes, qtakes, ← QE_zn h (j := 146 + n) (by omega) (by omega), hz]
    exact QE_take h2 hV2 (hV2.2.1 i q hi).2
theorem QE_step {v w : Nat → Int32} {ol : List Nat} (h : QE v w) (hV : VI v ol) : QE (qstep v) (qstep w) := by
  have hl := hV.1.2.2
  rw [qstep, qstep, ← QE_zn h (j := 145) (by omega) (by omega), zn_of hV.1.1 (by omega)]
  intro j a b c
  rw [upd_n c, upd_n c]
  exact QE_takes h hV ol.length (Nat.le_refl _) j a b c
theorem QE_it {v : Nat → Int32} {ol : List Nat} (hV : VI v ol) (i j : Nat) (h : QE (qit v i) (qit v j)) : QE (qit v (i + 1)) (qit v (j + 1)) := by
  obtain ⟨ol2, h2⟩ := VI_it hV i
  exact QE_step h h2
