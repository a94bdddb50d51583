/-! "{" and "}" over a pointer's place -/
theorem PI.ns {v : Nat → Int32} {o x y dr ss sl ns s0 s1 s2 : Nat} (h : PI v o x y dr ss sl ns s0 s1 s2) : zn v (o + 5) = ns ∧ 1 ≤ ns ∧ ns ≤ 3 ∧ s0 + s1 + s2 ≤ 16 := by
  obtain ⟨-, -, -, -, -, h5, h6, h7, h8, ⟨-, -, -, -, -, a1, a2, a3, -, -⟩, -⟩ := h
  exact ⟨zn_of h5 (by omega), a1, a2, a3⟩
theorem PI.opn {v : Nat → Int32} {o x y dr ss sl ns s0 s1 s2 k : Nat} (h : PI v o x y dr ss sl ns s0 s1 s2) (hn : ns ≠ 3) (hk : k ≤ PIsc ns s0 s1 s2) :
    qopen2 v o (o + 5 + ns) k = upd (upd (upd v (o + 5 + ns) (nI (PIsc ns s0 s1 s2 - k))) (o + 6 + ns) (nI k)) (o + 5) (nI (ns + 1)) ∧
    PI (qopen2 v o (o + 5 + ns) k) o x y dr ss sl (ns + 1) (if ns = 1 then s0 - k else s0) (if ns = 1 then k else s1 - k) (if ns = 1 then 0 else k) := by
  obtain ⟨hc, hq, hh, hl⟩ := h.cur
  obtain ⟨z5, a1, a2, a3⟩ := h.ns
  have e : qopen2 v o (o + 5 + ns) k = upd (upd (upd v (o + 5 + ns) (nI (PIsc ns s0 s1 s2 - k))) (o + 6 + ns) (nI k)) (o + 5) (nI (ns + 1)) := by
    rw [qopen2, z5, zn_of hc (by omega), show o + 5 + ns + 1 = o + 6 + ns by omega]
  refine ⟨e, ?_⟩
  rw [e]
  obtain ⟨e0, e1, e2, e3, e4, e5, e6, e7, e8, ⟨b1, b2, b3, b4, b5, b6, b7, b8, b9, b10⟩, e9⟩ := id h
  rcases (show ns = 1 ∨ ns = 2 by omega) with rfl | rfl
  · have hs1 := b9 rfl
    have hs2 := b10 (by omega)
    simp [PIsc] at hk
    refine ⟨?_, ?_, ?_, ?_, ?_, upd_s _ _ _, ?_, ?_, ?_, ⟨b1, b2, b3, b4, b5, by omega, by omega, by simp; omega, by omega, by simp⟩, fun j h1 h2 => ?_⟩
    · rw [upd_n (by omega), upd_n (by omega), upd_n (by omega)]; exact e0
    · rw [upd_n (by omega), upd_n (by omega), upd_n (by omega)]; exact e1
    · rw [upd_n (by omega), upd_n (by omega), upd_n (by omega)]; exact e2
    · rw [upd_n (by omega), upd_n (by omega), upd_n (by omega)]; exact e3
    · rw [upd_n (by omega), upd_n (by omega), upd_n (by omega)]; exact e4
    · rw [upd_n (by omega), upd_n (by omega)]; simp [upd, PIsc]
    · rw [upd_n (by omega)]; simp [upd]
    · rw [upd_n (by omega), upd_n (by omega), upd_n (by omega), e8, hs2]; rfl
    · rw [upd_n (by omega), upd_n (by omega), upd_n (by omega)]
      simp at h1
      exact e9 j (by omega) h2
  · have hs2 := b10 (by omega)
    simp [PIsc] at hk
    refine ⟨?_, ?_, ?_, ?_, ?_, upd_s _ _ _, ?_, ?_, ?_, ⟨b1, b2, b3, b4, b5, by omega, by omega, by simp; omega, by omega, by omega⟩, fun j h1 h2 => ?_⟩
    · rw [upd_n (by omega), upd_n (by omega), upd_n (by omega)]; exact e0
    · rw [upd_n (by omega), upd_n (by omega), upd_n (by omega)]; exact e1
    · rw [upd_n (by omega), upd_n (by omega), upd_n (by omega)]; exact e2
    · rw [upd_n (by omega), upd_n (by omega), upd_n (by omega)]; exact e3
    · rw [upd_n (by omega), upd_n (by omega), upd_n (by omega)]; exact e4
    · rw [upd_n (by omega), upd_n (by omega), upd_n (by omega)]; exact e6
    · rw [upd_n (by omega), upd_n (by omega)]; simp [upd, PIsc]
    · rw [upd_n (by omega)]; simp [upd]
    · rw [upd_n (by omega), upd_n (by omega), upd_n (by omega)]
      simp at h1
      exact e9 j (by omega) h2
theorem PI.cls {v : Nat → Int32} {o x y dr ss sl ns s0 s1 s2 k : Nat} (h : PI v o x y dr ss sl ns s0 s1 s2) (hn : ns ≠ 1) (hk : k ≤ PIsc ns s0 s1 s2) :
    qclose2 v o (o + 5 + ns) k = upd (upd (upd (qshift v (o + 9 + (s0 + s1 + s2)) k (PIsc ns s0 s1 s2 - k)) (o + 5 + ns) 0) (o + 4 + ns) (nI ((if ns = 2 then s0 else s1) + k))) (o + 5) (nI (ns - 1)) ∧
    PI (qclose2 v o (o + 5 + ns) k) o x y dr ss sl (ns - 1) (if ns = 2 then s0 + k else s0) (if ns = 2 then 0 else s1 + k) 0 := by
  obtain ⟨hc, hq, hh, hl⟩ := h.cur
  obtain ⟨z5, a1, a2, a3⟩ := h.ns
  obtain ⟨e0, e1, e2, e3, e4, e5, e6, e7, e8, ⟨b1, b2, b3, b4, b5, b6, b7, b8, b9, b10⟩, e9⟩ := id h
  have z4 : zn v (o + 5 + ns - 1) = if ns = 2 then s0 else s1 := by
    rcases (show ns = 2 ∨ ns = 3 by omega) with rfl | rfl
    · have := zn_of e6 (show s0 < 2 ^ 31 by omega)
      exact this
    · have := zn_of e7 (show s1 < 2 ^ 31 by omega)
      exact this
  have e : qclose2 v o (o + 5 + ns) k = upd (upd (upd (qshift v (o + 9 + (s0 + s1 + s2)) k (PIsc ns s0 s1 s2 - k)) (o + 5 + ns) 0) (o + 4 + ns) (nI ((if ns = 2 then s0 else s1) + k))) (o + 5) (nI (ns - 1)) := by
    rw [qclose2, z5, zn_of hc (by omega), hh, z4, show o + 5 + ns - 1 = o + 4 + ns by omega]
  refine ⟨e, ?_⟩
  rw [e]
  have hsh : ∀ i, i < o + 9 → qshift v (o + 9 + (s0 + s1 + s2)) k (PIsc ns s0 s1 s2 - k) i = v i := by
    intro i hi
    rw [qshift, if_neg (by omega), if_neg (by omega)]
  rcases (show ns = 2 ∨ ns = 3 by omega) with rfl | rfl
  · have hs2 := b10 (by omega)
    simp only [PIsc] at hk hsh ⊢
    simp only [if_neg (show ¬ (2 : Nat) = 1 by decide), if_true] at hk hsh ⊢
    refine ⟨?_, ?_, ?_, ?_, ?_, upd_s _ _ _, ?_, ?_, ?_, ⟨b1, b2, b3, b4, b5, by omega, by omega, by omega, by omega, by omega⟩, fun j h1 h2 => ?_⟩
    · rw [upd_n (by omega), upd_n (by omega), upd_n (by omega), hsh _ (by omega)]; exact e0
    · rw [upd_n (by omega), upd_n (by omega), upd_n (by omega), hsh _ (by omega)]; exact e1
    · rw [upd_n (by omega), upd_n (by omega), upd_n (by omega), hsh _ (by omega)]; exact e2
    · rw [upd_n (by omega), upd_n (by omega), upd_n (by omega), hsh _ (by omega)]; exact e3
    · rw [upd_n (by omega), upd_n (by omega), upd_n (by omega), hsh _ (by omega)]; exact e4
    · rw [upd_n (by omega)]; simp [upd]
    · rw [upd_n (by omega), upd_n (by omega)]; simp [upd]; rfl
    · rw [upd_n (by omega), upd_n (by omega), upd_n (by omega), hsh _ (by omega), e8, hs2]
    · rw [upd_n (by omega), upd_n (by omega), upd_n (by omega)]
      unfold qshift
      rw [if_neg (by omega)]
      by_cases hj : j < s0 + s1 + s2
      · rw [if_pos (by omega)]
      · rw [if_neg (by omega)]; exact e9 j (by omega) h2
  · simp only [PIsc] at hk hsh ⊢
    simp only [if_neg (show ¬ (3 : Nat) = 1 by decide), if_neg (show ¬ (3 : Nat) = 2 by decide)] at hk hsh ⊢
    refine ⟨?_, ?_, ?_, ?_, ?_, upd_s _ _ _, ?_, ?_, ?_, ⟨b1, b2, b3, b4, b5, by omega, by omega, by omega, by omega, by omega⟩, fun j h1 h2 => ?_⟩
    · rw [upd_n (by omega), upd_n (by omega), upd_n (by omega), hsh _ (by omega)]; exact e0
    · rw [upd_n (by omega), upd_n (by omega), upd_n (by omega), hsh _ (by omega)]; exact e1
    · rw [upd_n (by omega), upd_n (by omega), upd_n (by omega), hsh _ (by omega)]; exact e2
    · rw [upd_n (by omega), upd_n (by omega), upd_n (by omega), hsh _ (by omega)]; exact e3
    · rw [upd_n (by omega), upd_n (by omega), upd_n (by omega), hsh _ (by omega)]; exact e4
    · rw [upd_n (by omega), upd_n (by omega), upd_n (by omega), hsh _ (by omega)]; exact e6
    · rw [upd_n (by omega)]; simp [upd]
    · rw [upd_n (by omega), upd_n (by omega)]; simp [upd]; rfl
    · rw [upd_n (by omega), upd_n (by omega), upd_n (by omega)]
      unfold qshift
      rw [if_neg (by omega)]
      by_cases hj : j < s0 + s1 + s2
      · rw [if_pos (by omega)]
      · rw [if_neg (by omega)]; exact e9 j (by omega) h2
