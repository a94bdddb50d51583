/-! CONFIGURATIONS: like states have like successors (pointer operations) -/
theorem QE_upd {v w : Nat → Int32} (h : QE v w) (k : Nat) {x y : Int32} (e : x = y) : QE (upd v k x) (upd w k y) := fun j a b c => by
  by_cases hj : j = k
  · rw [hj, upd_s, upd_s, e]
  · rw [upd_n hj, upd_n hj]; exact h j a b c
theorem QE_zn {v w : Nat → Int32} (h : QE v w) {j : Nat} (a : 145 ≤ j) (b : j < 267) : zn v j = zn w j := by rw [zn, zn, h j (by omega) b (by omega)]
/-- o is the place of a pointer -/
def OK (o : Nat) : Prop := 145 ≤ o ∧ o + 25 ≤ 250
theorem QE_held {v w : Nat → Int32} {o : Nat} (h : QE v w) (ho : OK o) : qheld v o = qheld w o := by
  obtain ⟨a, b⟩ := ho
  rw [qheld, qheld, QE_zn h (j := o + 6) (by omega) (by omega), QE_zn h (j := o + 7) (by omega) (by omega), QE_zn h (j := o + 8) (by omega) (by omega)]
theorem QE_cur {v w : Nat → Int32} {o : Nat} (h : QE v w) (ho : OK o) : qcur v o = qcur w o := by
  obtain ⟨a, b⟩ := ho
  rw [qcur, qcur, QE_zn h (j := o + 5) (by omega) (by omega)]
theorem cur_in {v : Nat → Int32} {o : Nat} (hp : PX1 v o) : (o + 6 ≤ qcur v o ∧ qcur v o ≤ o + 8) ∧ qheld v o ≤ 16 := by
  obtain ⟨x, y, dr, ss, sl, ns, s0, s1, s2, hP⟩ := hp
  obtain ⟨z5, b1, b2, b3⟩ := hP.ns
  obtain ⟨-, e1, e2, -⟩ := hP.cur
  rw [e1, e2]
  omega
theorem QE_top {v w : Nat → Int32} {o : Nat} (h : QE v w) (ho : OK o) (hp : PX1 v o) : v (qcur v o) = w (qcur w o) := by
  obtain ⟨⟨c1, c2⟩, -⟩ := cur_in hp
  obtain ⟨a, b⟩ := id ho
  rw [← QE_cur h ho]
  exact h _ (by omega) (by omega) (by omega)
theorem QE_popR {v w : Nat → Int32} {o : Nat} (h : QE v w) (ho : OK o) (hp : PX1 v o) : qpopR v o = qpopR w o := by
  obtain ⟨-, c3⟩ := cur_in hp
  obtain ⟨a, b⟩ := id ho
  rw [qpopR, qpopR, QE_top h ho hp, ← QE_held h ho, h (o + 8 + qheld v o) (by omega) (by omega) (by omega)]
theorem QE_pop {v w : Nat → Int32} {o : Nat} (h : QE v w) (ho : OK o) (hp : PX1 v o) : QE (qpop v o) (qpop w o) := by
  rw [qpop, qpop, QE_top h ho hp, ← QE_held h ho]
  split
  · exact h
  · rw [← QE_cur h ho]
    exact QE_upd (QE_upd h _ rfl) _ rfl
theorem QE_push {v w : Nat → Int32} {o : Nat} (h : QE v w) (ho : OK o) (hp : PX1 v o) {x y : Int32} (e : x = y) : QE (qpush v o x) (qpush w o y) := by
  rw [qpush, qpush, QE_top h ho hp, ← QE_held h ho]
  split
  · exact QE_upd h _ rfl
  · rw [← QE_cur h ho]
    exact QE_upd (QE_upd h _ e) _ rfl
theorem QE_move {v w : Nat → Int32} {o : Nat} (h : QE v w) (ho : OK o) : QE (qmove v o) (qmove w o) := by
  obtain ⟨a, b⟩ := ho
  rw [qmove, qmove, QE_zn h (j := o) (by omega) (by omega), QE_zn h (j := o + 1) (by omega) (by omega), QE_zn h (j := o + 2) (by omega) (by omega)]
  exact QE_upd (QE_upd h _ rfl) _ rfl
theorem QE_turn {v w : Nat → Int32} {o : Nat} (h : QE v w) (ho : OK o) (n : Nat) : QE (qturn v o n) (qturn w o n) := by
  obtain ⟨a, b⟩ := ho
  rw [qturn, qturn, QE_zn h (j := o + 2) (by omega) (by omega)]
  exact QE_upd h _ rfl
theorem QE_push2 {v w : Nat → Int32} {o : Nat} (h : QE v w) (ho : OK o) (hp : PX1 v o) {x y x2 y2 : Int32} (e : x = x2) (e2 : y = y2) : QE (qpush2 v o x y) (qpush2 w o x2 y2) := by
  have h1 := QE_push h ho hp e
  obtain ⟨a, b⟩ := id ho
  rw [qpush2, qpush2, h1 (o + 3) (by omega) (by omega) (by omega)]
  split
  · exact QE_push h1 ho (PO_push hp _).2 e2
  · exact h1
theorem QE_dup {v w : Nat → Int32} {o : Nat} (h : QE v w) (ho : OK o) (hp : PX1 v o) : QE (qdup v o) (qdup w o) := by
  have e := QE_popR h ho hp
  exact QE_push2 (QE_pop h ho hp) ho (PO_pop hp).2 e e
theorem QE_swap {v w : Nat → Int32} {o : Nat} (h : QE v w) (ho : OK o) (hp : PX1 v o) : QE (qswap v o) (qswap w o) := by
  have h1 := QE_pop h ho hp
  have p1 := (PO_pop hp).2
  exact QE_push2 (QE_pop h1 ho p1) ho (PO_pop p1).2 (QE_popR h ho hp) (QE_popR h1 ho p1)
theorem QE_bin {v w : Nat → Int32} {o : Nat} (h : QE v w) (ho : OK o) (hp : PX1 v o) (c : Int32) : QE (qbin v o c) (qbin w o c) := by
  have h1 := QE_pop h ho hp
  have p1 := (PO_pop hp).2
  exact QE_push (QE_pop h1 ho p1) ho (PO_pop p1).2 (by rw [QE_popR h ho hp, QE_popR h1 ho p1])
theorem QE_steer {v w : Nat → Int32} {o : Nat} (h : QE v w) (ho : OK o) (hp : PX1 v o) (c : Int32) : QE (qsteer v o c) (qsteer w o c) := by
  have h1 := QE_pop h ho hp
  have e := QE_popR h ho hp
  unfold qsteer
  rw [e]
  repeat' split
  all_goals first | exact h | exact QE_turn h ho _ | exact QE_move h ho | exact QE_upd h _ rfl | exact QE_upd h1 _ rfl
theorem QE_open {v w : Nat → Int32} {o : Nat} (h : QE v w) (ho : OK o) (hp : PX1 v o) : QE (qopen v o) (qopen w o) := by
  have h1 := QE_pop h ho hp
  have p1 := (PO_pop hp).2
  have e := QE_popR h ho hp
  obtain ⟨a, b⟩ := id ho
  obtain ⟨⟨c1, c2⟩, c3⟩ := cur_in p1
  rw [qopen, qopen, e]
  generalize qpop v o = v1 at h1 p1 c1 c2 c3 ⊢
  generalize qpop w o = w1 at h1 ⊢
  rw [qopen1, qopen1, QE_zn h1 (j := o + 5) (by omega) (by omega)]
  split
  · exact h1
  · rw [qopen2, qopen2, ← QE_cur h1 ho, QE_zn h1 (j := qcur v1 o) (by omega) (by omega), QE_zn h1 (j := o + 5) (by omega) (by omega)]
    exact QE_upd (QE_upd (QE_upd h1 _ rfl) _ rfl) _ rfl
