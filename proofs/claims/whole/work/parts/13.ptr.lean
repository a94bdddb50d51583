/-! A POINTER's place in the row, and what each instruction keeps of it -/
def PX1 (v : Nat → Int32) (o : Nat) : Prop := ∃ x y dr ss sl ns s0 s1 s2, PI v o x y dr ss sl ns s0 s1 s2
/-- the parts change, the rest stays -/
theorem PI_of {v w : Nat → Int32} {o x y dr ss sl ns s0 s1 s2 t0 t1 t2 : Nat} (h : PI v o x y dr ss sl ns s0 s1 s2) (h0 : ∀ i, i < 6 → w (o + i) = v (o + i)) (g0 : w (o + 6) = nI t0) (g1 : w (o + 7) = nI t1) (g2 : w (o + 8) = nI t2) (ht : t0 + t1 + t2 ≤ 16 ∧ (ns = 1 → t1 = 0) ∧ (ns ≤ 2 → t2 = 0)) (hz : ∀ j, t0 + t1 + t2 ≤ j → j < 16 → w (o + 9 + j) = 0) : PI w o x y dr ss sl ns t0 t1 t2 := by
  obtain ⟨e0, e1, e2, e3, e4, e5, -, -, -, ⟨b1, b2, b3, b4, b5, b6, b7, -, -, -⟩, -⟩ := h
  exact ⟨(h0 0 (by omega)).trans e0, (h0 1 (by omega)).trans e1, (h0 2 (by omega)).trans e2, (h0 3 (by omega)).trans e3, (h0 4 (by omega)).trans e4, (h0 5 (by omega)).trans e5, g0, g1, g2, ⟨b1, b2, b3, b4, b5, b6, b7, ht⟩, hz⟩
theorem PI.pop0 {v : Nat → Int32} {o x y dr ss sl ns s0 s1 s2 : Nat} (h : PI v o x y dr ss sl ns s0 s1 s2) (hz : PIsc ns s0 s1 s2 = 0) : qpop v o = v ∧ qpopR v o = 0 := by
  obtain ⟨hc, hq, -, -⟩ := h.cur
  have : v (o + 5 + ns) = 0 := by rw [hc, hz]; rfl
  exact ⟨by rw [qpop, hq, if_pos this], by rw [qpopR, hq, if_pos this]⟩
theorem PI.popE {v : Nat → Int32} {o x y dr ss sl ns s0 s1 s2 : Nat} (h : PI v o x y dr ss sl ns s0 s1 s2) (hz : PIsc ns s0 s1 s2 ≠ 0) : qpop v o = upd (upd v (o + 8 + (s0 + s1 + s2)) 0) (o + 5 + ns) (nI (PIsc ns s0 s1 s2 - 1)) ∧ qpopR v o = v (o + 8 + (s0 + s1 + s2)) := by
  obtain ⟨hc, hq, hh, hl⟩ := h.cur
  have a3 : s0 + s1 + s2 ≤ 16 := h.2.2.2.2.2.2.2.2.2.1.2.2.2.2.2.2.2.1
  have : ¬ v (o + 5 + ns) = 0 := by rw [hc, ← n0, nI_eq (by omega) (by omega)]; exact hz
  exact ⟨by rw [qpop, hq, hh, if_neg this, hc, ← pk_sub (by omega)]; rfl, by rw [qpopR, hq, hh, if_neg this]⟩
theorem PI.pop {v : Nat → Int32} {o x y dr ss sl ns s0 s1 s2 : Nat} (h : PI v o x y dr ss sl ns s0 s1 s2) (hz : PIsc ns s0 s1 s2 ≠ 0) : PI (qpop v o) o x y dr ss sl ns (if ns = 1 then s0 - 1 else s0) (if ns = 2 then s1 - 1 else s1) (if ns = 3 then s2 - 1 else s2) ∧ (if ns = 1 then s0 - 1 else s0) + (if ns = 2 then s1 - 1 else s1) + (if ns = 3 then s2 - 1 else s2) = s0 + s1 + s2 - 1 := by
  rw [(h.popE hz).1]
  obtain ⟨e0, e1, e2, e3, e4, e5, e6, e7, e8, ⟨b1, b2, b3, b4, b5, b6, b7, b8, b9, b10⟩, e9⟩ := id h
  have hsum : (if ns = 1 then s0 - 1 else s0) + (if ns = 2 then s1 - 1 else s1) + (if ns = 3 then s2 - 1 else s2) = s0 + s1 + s2 - 1 := by
    rcases (show ns = 1 ∨ ns = 2 ∨ ns = 3 by omega) with rfl | rfl | rfl <;> simp [PIsc] at hz ⊢ <;> omega
  have hpos : s0 + s1 + s2 ≠ 0 := by
    obtain ⟨-, -, -, hl⟩ := h.cur
    omega
  refine ⟨PI_of h (fun i hi => by rw [upd_n (by omega), upd_n (by omega)]) ?_ ?_ ?_ ⟨by omega, ?_, ?_⟩ ?_, hsum⟩
  · rcases (show ns = 1 ∨ ns = 2 ∨ ns = 3 by omega) with rfl | rfl | rfl
    · simp [upd, PIsc]
    · rw [upd_n (by omega), upd_n (by omega)]; exact e6
    · rw [upd_n (by omega), upd_n (by omega)]; exact e6
  · rcases (show ns = 1 ∨ ns = 2 ∨ ns = 3 by omega) with rfl | rfl | rfl
    · rw [upd_n (by omega), upd_n (by omega)]; exact e7
    · simp [upd, PIsc]
    · rw [upd_n (by omega), upd_n (by omega)]; exact e7
  · rcases (show ns = 1 ∨ ns = 2 ∨ ns = 3 by omega) with rfl | rfl | rfl
    · rw [upd_n (by omega), upd_n (by omega)]; exact e8
    · rw [upd_n (by omega), upd_n (by omega)]; exact e8
    · simp [upd, PIsc]
  · intro hn; subst hn; simpa using b9 rfl
  · intro hn
    rw [if_neg (by omega)]; exact b10 hn
  · rw [hsum]
    intro j h1 h2
    rw [upd_n (by omega)]
    by_cases hj : j + 1 = s0 + s1 + s2
    · rw [show o + 9 + j = o + 8 + (s0 + s1 + s2) by omega, upd_s]
    · rw [upd_n (by omega)]; exact e9 j (by omega) h2
theorem PI.pop1 {v : Nat → Int32} {o x y dr ss sl ns s0 s1 s2 : Nat} (h : PI v o x y dr ss sl ns s0 s1 s2) : ∃ t0 t1 t2, PI (qpop v o) o x y dr ss sl ns t0 t1 t2 ∧ t0 + t1 + t2 ≤ s0 + s1 + s2 := by
  by_cases hz : PIsc ns s0 s1 s2 = 0
  · rw [(h.pop0 hz).1]; exact ⟨_, _, _, h, Nat.le_refl _⟩
  · have := h.pop hz
    exact ⟨_, _, _, this.1, by omega⟩
theorem PI.pushE {v : Nat → Int32} {o x y dr ss sl ns s0 s1 s2 : Nat} (h : PI v o x y dr ss sl ns s0 s1 s2) (hz : s0 + s1 + s2 ≠ 16) (e : Int32) : qpush v o e = upd (upd v (o + 9 + (s0 + s1 + s2)) e) (o + 5 + ns) (nI (PIsc ns s0 s1 s2 + 1)) := by
  obtain ⟨hc, hq, hh, hl⟩ := h.cur
  rw [qpush, hh, if_neg hz, hq, hc, ← nI_1]
theorem PI.pushF {v : Nat → Int32} {o x y dr ss sl ns s0 s1 s2 : Nat} (h : PI v o x y dr ss sl ns s0 s1 s2) (hz : s0 + s1 + s2 = 16) (e : Int32) : qpush v o e = upd v (o + 3) (nI 2) := by
  obtain ⟨hc, hq, hh, hl⟩ := h.cur
  rw [qpush, hh, if_pos hz]
theorem PI.push {v : Nat → Int32} {o x y dr ss sl ns s0 s1 s2 : Nat} (h : PI v o x y dr ss sl ns s0 s1 s2) (hz : s0 + s1 + s2 ≠ 16) (e : Int32) : PI (qpush v o e) o x y dr ss sl ns (if ns = 1 then s0 + 1 else s0) (if ns = 2 then s1 + 1 else s1) (if ns = 3 then s2 + 1 else s2) ∧ (if ns = 1 then s0 + 1 else s0) + (if ns = 2 then s1 + 1 else s1) + (if ns = 3 then s2 + 1 else s2) = s0 + s1 + s2 + 1 := by
  rw [h.pushE hz]
  obtain ⟨e0, e1, e2, e3, e4, e5, e6, e7, e8, ⟨b1, b2, b3, b4, b5, b6, b7, b8, b9, b10⟩, e9⟩ := id h
  have hsum : (if ns = 1 then s0 + 1 else s0) + (if ns = 2 then s1 + 1 else s1) + (if ns = 3 then s2 + 1 else s2) = s0 + s1 + s2 + 1 := by
    rcases (show ns = 1 ∨ ns = 2 ∨ ns = 3 by omega) with rfl | rfl | rfl <;> simp <;> omega
  refine ⟨PI_of h (fun i hi => by rw [upd_n (by omega), upd_n (by omega)]) ?_ ?_ ?_ ⟨by omega, ?_, ?_⟩ ?_, hsum⟩
  · rcases (show ns = 1 ∨ ns = 2 ∨ ns = 3 by omega) with rfl | rfl | rfl
    · simp [upd, PIsc]
    · rw [upd_n (by omega), upd_n (by omega)]; exact e6
    · rw [upd_n (by omega), upd_n (by omega)]; exact e6
  · rcases (show ns = 1 ∨ ns = 2 ∨ ns = 3 by omega) with rfl | rfl | rfl
    · rw [upd_n (by omega), upd_n (by omega)]; exact e7
    · simp [upd, PIsc]
    · rw [upd_n (by omega), upd_n (by omega)]; exact e7
  · rcases (show ns = 1 ∨ ns = 2 ∨ ns = 3 by omega) with rfl | rfl | rfl
    · rw [upd_n (by omega), upd_n (by omega)]; exact e8
    · rw [upd_n (by omega), upd_n (by omega)]; exact e8
    · simp [upd, PIsc]
  · intro hn; subst hn; simpa using b9 rfl
  · intro hn
    rw [if_neg (by omega)]; exact b10 hn
  · rw [hsum]
    intro j h1 h2
    rw [upd_n (by omega), upd_n (by omega)]; exact e9 j (by omega) h2
/-- one of the first five numbers is set -/
theorem PI.dir {v : Nat → Int32} {o x y dr ss sl ns s0 s1 s2 : Nat} (h : PI v o x y dr ss sl ns s0 s1 s2) {d : Nat} (hd : d < 4) : PI (upd v (o + 2) (nI d)) o x y d ss sl ns s0 s1 s2 := by
  obtain ⟨e0, e1, e2, e3, e4, e5, e6, e7, e8, ⟨b1, b2, b3, b4, b5, b⟩, e9⟩ := h
  refine ⟨?_, ?_, upd_s _ _ _, ?_, ?_, ?_, ?_, ?_, ?_, ⟨b1, b2, hd, b4, b5, b⟩, fun j h1 h2 => ?_⟩ <;> rw [upd_n (by omega)] <;> first | assumption | exact e9 j h1 h2
theorem PI.stat {v : Nat → Int32} {o x y dr ss sl ns s0 s1 s2 : Nat} (h : PI v o x y dr ss sl ns s0 s1 s2) {d : Nat} (hd : d < 3) : PI (upd v (o + 3) (nI d)) o x y dr d sl ns s0 s1 s2 := by
  obtain ⟨e0, e1, e2, e3, e4, e5, e6, e7, e8, ⟨b1, b2, b3, b4, b5, b⟩, e9⟩ := h
  refine ⟨?_, ?_, ?_, upd_s _ _ _, ?_, ?_, ?_, ?_, ?_, ⟨b1, b2, b3, hd, b5, b⟩, fun j h1 h2 => ?_⟩ <;> rw [upd_n (by omega)] <;> first | assumption | exact e9 j h1 h2
theorem PI.slp {v : Nat → Int32} {o x y dr ss sl ns s0 s1 s2 : Nat} (h : PI v o x y dr ss sl ns s0 s1 s2) {d : Nat} (hd : d ≤ 9) : PI (upd v (o + 4) (nI d)) o x y dr ss d ns s0 s1 s2 := by
  obtain ⟨e0, e1, e2, e3, e4, e5, e6, e7, e8, ⟨b1, b2, b3, b4, b5, b⟩, e9⟩ := h
  refine ⟨?_, ?_, ?_, ?_, upd_s _ _ _, ?_, ?_, ?_, ?_, ⟨b1, b2, b3, b4, hd, b⟩, fun j h1 h2 => ?_⟩ <;> rw [upd_n (by omega)] <;> first | assumption | exact e9 j h1 h2
theorem PI.pos {v : Nat → Int32} {o x y dr ss sl ns s0 s1 s2 : Nat} (h : PI v o x y dr ss sl ns s0 s1 s2) {a b : Nat} (ha : a < 12) (hb : b < 6) : PI (upd (upd v o (nI a)) (o + 1) (nI b)) o a b dr ss sl ns s0 s1 s2 := by
  obtain ⟨e0, e1, e2, e3, e4, e5, e6, e7, e8, ⟨b1, b2, bb⟩, e9⟩ := h
  refine ⟨?_, upd_s _ _ _, ?_, ?_, ?_, ?_, ?_, ?_, ?_, ⟨ha, hb, bb⟩, fun j h1 h2 => ?_⟩
  · rw [upd_n (by omega), upd_s]
  all_goals rw [upd_n (by omega), upd_n (by omega)]
  all_goals first | assumption | exact e9 j h1 h2
theorem PI.push1 {v : Nat → Int32} {o x y dr ss sl ns s0 s1 s2 : Nat} (h : PI v o x y dr ss sl ns s0 s1 s2) (e : Int32) : ∃ ss2 t0 t1 t2, PI (qpush v o e) o x y dr ss2 sl ns t0 t1 t2 := by
  by_cases hz : s0 + s1 + s2 = 16
  · rw [h.pushF hz]; exact ⟨_, _, _, _, h.stat (by omega)⟩
  · exact ⟨_, _, _, _, (h.push hz e).1⟩
theorem PI.move {v : Nat → Int32} {o x y dr ss sl ns s0 s1 s2 : Nat} (h : PI v o x y dr ss sl ns s0 s1 s2) : qmove v o = upd (upd v o (nI ((x + qdx dr) % 12))) (o + 1) (nI ((y + qdy dr) % 6)) ∧ PI (qmove v o) o ((x + qdx dr) % 12) ((y + qdy dr) % 6) dr ss sl ns s0 s1 s2 := by
  obtain ⟨e0, e1, e2, e3, e4, e5, e6, e7, e8, ⟨b1, b2, b3, b⟩, e9⟩ := id h
  have : qmove v o = upd (upd v o (nI ((x + qdx dr) % 12))) (o + 1) (nI ((y + qdy dr) % 6)) := by rw [qmove, zn_of e0 (by omega), zn_of e1 (by omega), zn_of e2 (by omega)]
  exact ⟨this, by rw [this]; exact h.pos (by omega) (by omega)⟩
theorem PI.turn {v : Nat → Int32} {o x y dr ss sl ns s0 s1 s2 : Nat} (h : PI v o x y dr ss sl ns s0 s1 s2) (n : Nat) : qturn v o n = upd v (o + 2) (nI ((dr + n) % 4)) ∧ PI (qturn v o n) o x y ((dr + n) % 4) ss sl ns s0 s1 s2 := by
  obtain ⟨e0, e1, e2, e3, e4, e5, e6, e7, e8, ⟨b1, b2, b3, b⟩, e9⟩ := id h
  have : qturn v o n = upd v (o + 2) (nI ((dr + n) % 4)) := by rw [qturn, zn_of e2 (by omega)]
  exact ⟨this, by rw [this]; exact h.dir (by omega)⟩
