/-! BOTH: cycles; what a halted machine does -/
theorem QE_rf (v : Nat → Int32) : QE v v := fun _ _ _ _ => rfl
theorem QE_sy {v w : Nat → Int32} (h : QE v w) : QE w v := fun j a b c => (h j a b c).symm
theorem QE_tr {v w u : Nat → Int32} (h : QE v w) (h2 : QE w u) : QE v u := fun j a b c => (h j a b c).trans (h2 j a b c)
theorem cy_fw {f : Nat → Nat → Int32} (hst : ∀ i j, QE (f i) (f j) → QE (f (i + 1)) (f (j + 1))) {i j : Nat} (h : QE (f i) (f j)) : ∀ n, QE (f (i + n)) (f (j + n))
  | 0 => h
  | n + 1 => hst _ _ (cy_fw hst h n)
theorem cy_mul {f : Nat → Nat → Int32} (hst : ∀ i j, QE (f i) (f j) → QE (f (i + 1)) (f (j + 1))) {i l : Nat} (h : QE (f (i + l)) (f i)) : ∀ n, QE (f (i + n * l)) (f i)
  | 0 => by rw [Nat.zero_mul, Nat.add_zero]; exact QE_rf _
  | n + 1 => by
    have h1 := cy_fw hst (cy_mul hst h n) l
    rw [Nat.succ_mul, ← Nat.add_assoc]
    exact QE_tr h1 h
theorem FD_found {v : Nat → Int32} {lim i l : Nat} (hst : ∀ i j, QE (qit v i) (qit v j) → QE (qit v (i + 1)) (qit v (j + 1))) (hc : CF v lim i l) (hn : qhalt (qit v lim) = false) {r : Int32} (h : FD v lim r) : r = nI l := by
  obtain ⟨⟨h1, h2⟩, h3, h4⟩ := hc
  have hl : QE (qit v (lim + l)) (qit v lim) := by
    have := cy_fw hst h3 (lim - i)
    rw [show i + l + (lim - i) = lim + l by omega, show i + (lim - i) = lim by omega] at this
    exact this
  have hle : lim ≤ i + lim * l := by
    have : lim * 1 ≤ lim * l := Nat.mul_le_mul_left lim h1
    omega
  have hmin : ∀ l', 1 ≤ l' → l' < l → ¬ QE (qit v (lim + l')) (qit v lim) := by
    intro l' a b z
    have z2 := cy_fw hst z (i + lim * l - lim)
    rw [show lim + l' + (i + lim * l - lim) = i + lim * l + l' by omega, show lim + (i + lim * l - lim) = i + lim * l by omega] at z2
    have z3 := cy_mul hst h3 lim
    exact h4 l' a b (QE_tr (QE_sy (cy_fw hst z3 l')) (QE_tr z2 z3))
  rcases h with ⟨h5, -⟩ | ⟨-, ⟨l2, a1, a2, a3, a4, rfl⟩ | ⟨a1, rfl⟩⟩
  · rw [hn] at h5; cases h5
  · rcases Nat.lt_trichotomy l l2 with h6 | h6 | h6
    · exact absurd hl (a4 l h1 h6)
    · rw [h6]
    · exact absurd a3 (hmin l2 a1 h6)
  · exact absurd hl (a1 l h1 (by omega))
theorem FE_found {v : Nat → Int32} {lim i l : Nat} (hc : CF v lim i l) (hno : ∀ i', i' < i → CN v lim i') {r : Int32} (h : FE v lim l r) : r = nI i := by
  obtain ⟨⟨h1, h2⟩, h3, h4⟩ := hc
  rcases h with ⟨i2, a1, a2, a3, rfl⟩ | ⟨a1, rfl⟩
  · rcases Nat.lt_trichotomy i i2 with h6 | h6 | h6
    · exact absurd h3 (a3 i h6)
    · rw [h6]
    · exact absurd a2 (hno i2 h6 l h1 a1)
  · exact absurd h3 (a1 i h2)
theorem FE_none {v : Nat → Int32} {lim l : Nat} (h1 : 1 ≤ l) (hno : ∀ i', i' < lim → CN v lim i') {r : Int32} (h : FE v lim l r) : r = -9 := by
  rcases h with ⟨i2, a1, a2, a3, rfl⟩ | ⟨a1, rfl⟩
  · exact absurd a2 (hno i2 (by omega) l h1 a1)
  · rfl
theorem FD_halt {v : Nat → Int32} {lim : Nat} (hh : qhalt (qit v lim) = true) {r : Int32} (h : FD v lim r) : r = -9 := by
  rcases h with ⟨-, h⟩ | ⟨h, -⟩
  · exact h
  · rw [hh] at h; cases h
theorem CS_one {v : Nat → Int32} {lim : Nat} (hlim : lim ≤ 200) (hst : ∀ i j, QE (qit v i) (qit v j) → QE (qit v (i + 1)) (qit v (j + 1))) (hha : ∀ n, n ≤ lim → qhalt (qit v n) = true → qhalt (qit v lim) = true) {a c r : Int32} (h : FC v lim a c) (h2 : CS v lim r) : r = a := by
  rcases h with ⟨⟨n, n1, n2⟩, rfl, rfl⟩ | ⟨hn, ⟨i, l, hi, hcf, hcn, rfl, rfl⟩ | ⟨hcn, rfl, rfl⟩⟩
  · rcases h2 with ⟨-, h2⟩ | ⟨l, hl, h3, h4⟩
    · exact h2
    · exact absurd (FD_halt (hha n n1 n2) h3) (nI_m9 (by omega))
  · rcases h2 with ⟨h3, -⟩ | ⟨l2, hl, h3, h4⟩
    · exact absurd (FD_found hst hcf (hn lim (Nat.le_refl _)) h3).symm (nI_m9 (by have := hcf.1.2; omega))
    · have := FD_found hst hcf (hn lim (Nat.le_refl _)) h3
      have hb := hcf.1.2
      obtain rfl : l2 = l := (nI_eq (by omega) (by omega)).mp this
      exact FE_found hcf hcn h4
  · rcases h2 with ⟨-, h2⟩ | ⟨l, hl, h3, h4⟩
    · exact h2
    · exact FE_none hl.1 hcn h4
theorem CL_one {v : Nat → Int32} {lim : Nat} (hlim : lim ≤ 200) (hst : ∀ i j, QE (qit v i) (qit v j) → QE (qit v (i + 1)) (qit v (j + 1))) (hha : ∀ n, n ≤ lim → qhalt (qit v n) = true → qhalt (qit v lim) = true) {a c r : Int32} (h : FC v lim a c) (h2 : CL v lim r) : r = c := by
  rcases h with ⟨⟨n, n1, n2⟩, rfl, rfl⟩ | ⟨hn, ⟨i, l, hi, hcf, hcn, rfl, rfl⟩ | ⟨hcn, rfl, rfl⟩⟩
  · rcases h2 with ⟨-, h2⟩ | ⟨l, e, hl, h3, h4⟩
    · exact h2
    · exact absurd (FD_halt (hha n n1 n2) h3) (nI_m9 (by omega))
  · rcases h2 with ⟨h3, -⟩ | ⟨l2, e, hl, h3, h4, h5⟩
    · exact absurd (FD_found hst hcf (hn lim (Nat.le_refl _)) h3).symm (nI_m9 (by have := hcf.1.2; omega))
    · have := FD_found hst hcf (hn lim (Nat.le_refl _)) h3
      have hb := hcf.1.2
      obtain rfl : l2 = l := (nI_eq (by omega) (by omega)).mp this
      have he := FE_found hcf hcn h4
      rcases h5 with ⟨h5, -⟩ | ⟨-, h5⟩
      · rw [he] at h5
        exact absurd h5 (nI_m9 (by omega))
      · exact h5
  · rcases h2 with ⟨-, h2⟩ | ⟨l, e, hl, h3, h4, h5⟩
    · exact h2
    · have he := FE_none hl.1 hcn h4
      rcases h5 with ⟨-, h5⟩ | ⟨h5, -⟩
      · exact h5
      · exact absurd he h5
theorem qhalt_all {v : Nat → Int32} {ol : List Nat} (h : VI v ol) (hh : qhalt v = true) : ∀ i, i < ol.length → v (153 + 25 * i) ≠ 0 := by
  rw [qhalt_len h, qhb_all] at hh
  exact hh
theorem qtakes_halt {v : Nat → Int32} {ol : List Nat} (h : VI v ol) (hh : qhalt v = true) : ∀ n, n ≤ ol.length → qtakes v n = v
  | 0, _ => rfl
  | n + 1, hn => by
    rw [qtakes, qtakes_halt h hh n (by omega)]
    obtain ⟨q, hq⟩ : ∃ q, ol[n]? = some q := ⟨_, List.getElem?_eq_getElem (by omega)⟩
    obtain ⟨h1, h2⟩ := h.2.1 n q hq
    have := h.1.2.2
    rw [zn_of h1 (by omega), qtake, if_pos (qhalt_all h hh q h2)]
theorem qhalt_step {v : Nat → Int32} {ol : List Nat} (h : VI v ol) (hh : qhalt v = true) : qhalt (qstep v) = true := by
  have h4 := h.1.2.2
  have e : qstep v = upd v 144 (v 144 + 1) := by rw [qstep, zn_of h.1.1 (by omega), qtakes_halt h hh _ (Nat.le_refl _)]
  rw [e, qhalt_len (VI_grid h (by omega) _), qhb_all]
  intro i hi
  rw [upd_n (by omega)]
  exact qhalt_all h hh i hi
theorem qhalt_it {v : Nat → Int32} {ol : List Nat} (h : VI v ol) {n : Nat} (hh : qhalt (qit v n) = true) : ∀ d, qhalt (qit v (n + d)) = true
  | 0 => hh
  | d + 1 => by
    obtain ⟨ol2, h2⟩ := VI_it h (n + d)
    exact qhalt_step h2 (qhalt_it h hh d)
theorem qhalt_lim {v : Nat → Int32} {ol : List Nat} (h : VI v ol) {lim : Nat} : ∀ n, n ≤ lim → qhalt (qit v n) = true → qhalt (qit v lim) = true := by
  intro n hn hh
  have := qhalt_it h hh (lim - n)
  rw [show n + (lim - n) = lim by omega] at this
  exact this
