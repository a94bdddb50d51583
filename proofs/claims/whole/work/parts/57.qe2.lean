/-! CONFIGURATIONS: further operations -/
theorem QE_close {v w : Nat → Int32} {o : Nat} (h : QE v w) (ho : OK o) (hp : PX1 v o) : QE (qclose v o) (qclose w o) := by
  have h1 := QE_pop h ho hp
  have p1 := (PO_pop hp).2
  have e := QE_popR h ho hp
  obtain ⟨a, b⟩ := id ho
  rw [qclose, qclose, e, QE_zn h (j := o + 5) (by omega) (by omega)]
  split
  · exact QE_turn h ho _
  · generalize qpop v o = v1 at h1 p1 ⊢
    generalize qpop w o = w1 at h1 ⊢
    obtain ⟨⟨c1, c2⟩, c3⟩ := cur_in p1
    have hsc : zn v1 (qcur v1 o) ≤ qheld v1 o := by
      obtain ⟨x, y, dr, ss, sl, ns, s0, s1, s2, hP⟩ := p1
      obtain ⟨f1, f2, f3, f4⟩ := hP.cur
      obtain ⟨z5, b1, b2, b3⟩ := hP.ns
      rw [f2, f3, zn_of f1 (by omega)]
      exact f4
    rw [qclose1, qclose1, ← QE_cur h1 ho, ← QE_zn h1 (j := qcur v1 o) (by omega) (by omega)]
    generalize qclamp (qpopR w o) (zn v1 (qcur v1 o)) = m
    rw [qclose2, qclose2, ← QE_held h1 ho, ← QE_zn h1 (j := qcur v1 o) (by omega) (by omega), ← QE_zn h1 (j := qcur v1 o - 1) (by omega) (by omega), ← QE_zn h1 (j := o + 5) (by omega) (by omega)]
    refine QE_upd (QE_upd (QE_upd (fun j d1 d2 d3 => ?_) _ rfl) _ rfl) _ rfl
    rw [qshift, qshift]
    split
    · next z => exact h1 _ (by omega) (by omega) (by omega)
    · split
      · rfl
      · exact h1 j d1 d2 d3
theorem QE_perf {v w : Nat → Int32} {o : Nat} (h : QE v w) (ho : OK o) (hp : PX1 v o) (c : Int32) : QE (qperf v o c) (qperf w o c) := by
  have h1 := QE_pop h ho hp
  have p1 := (PO_pop hp).2
  have e := QE_popR h ho hp
  unfold qperf
  rw [e]
  split
  · exact QE_push h ho hp rfl
  split
  · exact QE_bin h ho hp c
  split
  · exact QE_push h1 ho p1 rfl
  split
  · exact QE_dup h ho hp
  split
  · exact QE_swap h ho hp
  split
  · exact h1
  split
  · exact QE_open h ho hp
  split
  · exact QE_close h ho hp
  split
  · exact QE_upd h1 _ rfl
  split
  · exact QE_upd h _ rfl
  · exact QE_steer h ho hp c
theorem qcell_in (x y : Int32) : 72 ≤ qcell x y ∧ qcell x y < 144 := by
  have h1 : qmod y 6 < 6 := by
    have a := Int.emod_nonneg y.toInt (show (6 : Int) ≠ 0 by decide)
    have b := Int.emod_lt_of_pos y.toInt (show (0 : Int) < 6 by decide)
    show (y.toInt % (6 : Int)).toNat < 6
    omega
  have h2 : qmod x 12 < 12 := by
    have a := Int.emod_nonneg x.toInt (show (12 : Int) ≠ 0 by decide)
    have b := Int.emod_lt_of_pos x.toInt (show (0 : Int) < 12 by decide)
    show (x.toInt % (12 : Int)).toNat < 12
    omega
  rw [qcell]
  omega
theorem QE_store {v w : Nat → Int32} {o : Nat} (h : QE v w) (ho : OK o) (hp : PX1 v o) : QE (qstore v o) (qstore w o) := by
  have h1 := QE_pop h ho hp
  have p1 := (PO_pop hp).2
  have h2 := QE_pop h1 ho p1
  have p2 := (PO_pop p1).2
  rw [qstore, qstore, QE_popR h ho hp, QE_popR h1 ho p1, QE_popR h2 ho p2, qstore3, qstore3]
  split
  · exact QE_upd (QE_pop h2 ho p2) _ rfl
  · exact QE_pop h2 ho p2
theorem QE_fetch {v w : Nat → Int32} {o : Nat} (h : QE v w) (ho : OK o) (hp : PX1 v o) : QE (qfetch v o) (qfetch w o) := by
  have h1 := QE_pop h ho hp
  have p1 := (PO_pop hp).2
  have h2 := QE_pop h1 ho p1
  have p2 := (PO_pop p1).2
  rw [qfetch, qfetch, QE_popR h ho hp, QE_popR h1 ho p1]
  obtain ⟨a, b⟩ := qcell_in (qpopR (qpop w o) o) (qpopR w o)
  exact QE_push h2 ho p2 (h2 _ (by omega) (by omega) (by omega))
theorem qout_lt {v : Nat → Int32} {x : Int32} {j : Nat} (hj : j < 267) : qout v x j = v j := by
  rw [qout, qout2, upd_n (by omega), upd_n (by omega), upd_n (by omega), qout1]
  split
  · show (if 268 ≤ j ∧ j < 287 then v (j + 1) else if j = 267 then nI 19 else v j) = v j
    rw [if_neg (by omega), if_neg (by omega)]
  · rfl
theorem QE_out {v w : Nat → Int32} (h : QE v w) (x y : Int32) : QE (qout v x) (qout w y) := fun j a b c => by
  rw [qout_lt b, qout_lt b]; exact h j a b c
theorem QE_in {v w : Nat → Int32} {o : Nat} (h : QE v w) (ho : OK o) (hp : PX1 v o) (hn : zn v 250 ≤ 16) : QE (qin v o) (qin w o) := by
  obtain ⟨a, b⟩ := id ho
  rw [qin, qin, ← QE_zn h (j := 250) (by omega) (by omega)]
  split
  · exact QE_turn h ho _
  · refine QE_push (fun j d1 d2 d3 => ?_) ho (PX1_out hp (fun j d1 d2 => ?_)) (h 251 (by omega) (by omega) (by omega))
    · rw [qinV, qinV]
      split
      · next z => exact h _ (by omega) (by omega) (by omega)
      · split
        · rfl
        · split
          · rfl
          · exact h j d1 d2 d3
    · rw [qinV, if_neg (by omega), if_neg (by omega), if_neg (by omega)]
