/-! what each instruction leaves alone: PO v w o: from v to w only the pointer at o has changed, and it is whole -/
def PO (v w : Nat → Int32) (o : Nat) : Prop := (∀ j, (j < o ∨ o + 25 ≤ j) → w j = v j) ∧ PX1 w o
theorem PO.rf {v : Nat → Int32} {o : Nat} (h : PX1 v o) : PO v v o := ⟨fun _ _ => rfl, h⟩
theorem PO.trans {v w u : Nat → Int32} {o : Nat} (h : PO v w o) (h2 : PX1 w o → PO w u o) : PO v u o := ⟨fun j hj => ((h2 h.2).1 j hj).trans (h.1 j hj), (h2 h.2).2⟩
theorem PO_pop {v : Nat → Int32} {o : Nat} (h : PX1 v o) : PO v (qpop v o) o := by
  obtain ⟨x, y, dr, ss, sl, ns, s0, s1, s2, h⟩ := h
  obtain ⟨z5, a1, a2, a3⟩ := h.ns
  by_cases hz : PIsc ns s0 s1 s2 = 0
  · rw [(h.pop0 hz).1]; exact PO.rf ⟨x, y, dr, ss, sl, ns, s0, s1, s2, h⟩
  · refine ⟨fun j hj => ?_, ⟨_, _, _, _, _, _, _, _, _, (h.pop hz).1⟩⟩
    rw [(h.popE hz).1, upd_n (by omega), upd_n (by omega)]
theorem PO_push {v : Nat → Int32} {o : Nat} (h : PX1 v o) (e : Int32) : PO v (qpush v o e) o := by
  obtain ⟨x, y, dr, ss, sl, ns, s0, s1, s2, h⟩ := h
  obtain ⟨z5, a1, a2, a3⟩ := h.ns
  by_cases hz : s0 + s1 + s2 = 16
  · rw [h.pushF hz]
    exact ⟨fun j hj => upd_n (by omega), ⟨_, _, _, _, _, _, _, _, _, h.stat (by omega)⟩⟩
  · refine ⟨fun j hj => ?_, ⟨_, _, _, _, _, _, _, _, _, (h.push hz e).1⟩⟩
    rw [h.pushE hz, upd_n (by omega), upd_n (by omega)]
theorem PO_dir {v : Nat → Int32} {o : Nat} (h : PX1 v o) {d : Nat} (hd : d < 4) : PO v (upd v (o + 2) (nI d)) o := by
  obtain ⟨x, y, dr, ss, sl, ns, s0, s1, s2, h⟩ := h
  exact ⟨fun j hj => upd_n (by omega), ⟨_, _, _, _, _, _, _, _, _, h.dir hd⟩⟩
theorem PO_stat {v : Nat → Int32} {o : Nat} (h : PX1 v o) {d : Nat} (hd : d < 3) : PO v (upd v (o + 3) (nI d)) o := by
  obtain ⟨x, y, dr, ss, sl, ns, s0, s1, s2, h⟩ := h
  exact ⟨fun j hj => upd_n (by omega), ⟨_, _, _, _, _, _, _, _, _, h.stat hd⟩⟩
theorem PO_slp {v : Nat → Int32} {o : Nat} (h : PX1 v o) {d : Nat} (hd : d ≤ 9) : PO v (upd v (o + 4) (nI d)) o := by
  obtain ⟨x, y, dr, ss, sl, ns, s0, s1, s2, h⟩ := h
  exact ⟨fun j hj => upd_n (by omega), ⟨_, _, _, _, _, _, _, _, _, h.slp hd⟩⟩
theorem PO_move {v : Nat → Int32} {o : Nat} (h : PX1 v o) : PO v (qmove v o) o := by
  obtain ⟨x, y, dr, ss, sl, ns, s0, s1, s2, h⟩ := h
  exact ⟨fun j hj => by rw [qmove, upd_n (by omega), upd_n (by omega)], ⟨_, _, _, _, _, _, _, _, _, h.move.2⟩⟩
theorem PO_turn {v : Nat → Int32} {o : Nat} (h : PX1 v o) (n : Nat) : PO v (qturn v o n) o := by
  obtain ⟨x, y, dr, ss, sl, ns, s0, s1, s2, h⟩ := h
  exact ⟨fun j hj => by rw [qturn, upd_n (by omega)], ⟨_, _, _, _, _, _, _, _, _, (h.turn n).2⟩⟩
theorem PO_open {v : Nat → Int32} {o : Nat} (h : PX1 v o) : PO v (qopen v o) o := by
  refine (PO_pop h).trans (fun h2 => ?_)
  obtain ⟨x, y, dr, ss, sl, ns, s0, s1, s2, h3⟩ := id h2
  obtain ⟨z5, a1, a2, a3⟩ := h3.ns
  obtain ⟨hc, hq, hh, hl⟩ := h3.cur
  rw [qopen, qopen1, z5]
  by_cases hn : ns = 3
  · rw [if_pos hn]; exact PO.rf h2
  · have hk := qclamp_le (qpopR v o) (n := PIsc ns s0 s1 s2) (by omega)
    have := h3.opn hn hk
    rw [if_neg hn, hq, zn_of hc (by omega)]
    refine ⟨fun j hj => ?_, ⟨_, _, _, _, _, _, _, _, _, this.2⟩⟩
    rw [this.1, upd_n (by omega), upd_n (by omega), upd_n (by omega)]
theorem PO_close {v : Nat → Int32} {o : Nat} (h : PX1 v o) : PO v (qclose v o) o := by
  obtain ⟨x, y, dr, ss, sl, ns, s0, s1, s2, h0⟩ := id h
  obtain ⟨z5, a1, a2, a3⟩ := h0.ns
  rw [qclose, z5]
  by_cases hn : ns = 1
  · rw [if_pos hn]; exact PO_turn h 2
  · rw [if_neg hn]
    refine (PO_pop h).trans (fun h2 => ?_)
    obtain ⟨t0, t1, t2, h3, -⟩ := h0.pop1
    obtain ⟨z5, a1, a2, a3⟩ := h3.ns
    obtain ⟨hc, hq, hh, hl⟩ := h3.cur
    have hk := qclamp_le (qpopR v o) (n := PIsc ns t0 t1 t2) (by omega)
    have := h3.cls hn hk
    rw [qclose1, hq, zn_of hc (by omega)]
    refine ⟨fun j hj => ?_, ⟨_, _, _, _, _, _, _, _, _, this.2⟩⟩
    rw [this.1, upd_n (by omega), upd_n (by omega), upd_n (by omega), qshift, if_neg (by omega), if_neg (by omega)]
theorem PO_push2 {v : Nat → Int32} {o : Nat} (h : PX1 v o) (a b : Int32) : PO v (qpush2 v o a b) o := by
  rw [qpush2]
  split
  · exact (PO_push h a).trans (fun h2 => PO_push h2 b)
  · exact PO_push h a
theorem PO_dup {v : Nat → Int32} {o : Nat} (h : PX1 v o) : PO v (qdup v o) o := (PO_pop h).trans (fun h2 => PO_push2 h2 _ _)
theorem PO_swap {v : Nat → Int32} {o : Nat} (h : PX1 v o) : PO v (qswap v o) o := (PO_pop h).trans (fun h2 => (PO_pop h2).trans (fun h3 => PO_push2 h3 _ _))
theorem PO_bin {v : Nat → Int32} {o : Nat} (h : PX1 v o) (c : Int32) : PO v (qbin v o c) o := (PO_pop h).trans (fun h2 => (PO_pop h2).trans (fun h3 => PO_push h3 _))
theorem PO_fetch {v : Nat → Int32} {o : Nat} (h : PX1 v o) : PO v (qfetch v o) o := (PO_pop h).trans (fun h2 => (PO_pop h2).trans (fun h3 => PO_push h3 _))
theorem PO_steer {v : Nat → Int32} {o : Nat} (h : PX1 v o) (c : Int32) : PO v (qsteer v o c) o := by
  unfold qsteer
  split
  · exact PO_dir h (by omega)
  split
  · exact PO_dir h (by omega)
  split
  · exact PO_dir h (by omega)
  split
  · exact PO_dir h (by omega)
  split
  · refine (PO_pop h).trans (fun h2 => ?_)
    split
    · exact PO_dir h2 (by omega)
    · exact PO_dir h2 (by omega)
  split
  · refine (PO_pop h).trans (fun h2 => ?_)
    split
    · exact PO_dir h2 (by omega)
    · exact PO_dir h2 (by omega)
  split
  · exact PO_turn h 3
  split
  · exact PO_turn h 1
  split
  · exact PO_turn h 2
  split
  · exact PO_move h
  · exact PO.rf h
theorem PO_perf {v : Nat → Int32} {o : Nat} (h : PX1 v o) (c : Int32) : PO v (qperf v o c) o := by
  unfold qperf
  split
  · exact PO_push h _
  split
  · exact PO_bin h c
  split
  · exact (PO_pop h).trans (fun h2 => PO_push h2 _)
  split
  · exact PO_dup h
  split
  · exact PO_swap h
  split
  · exact PO_pop h
  split
  · exact PO_open h
  split
  · exact PO_close h
  split
  · exact (PO_pop h).trans (fun h2 => PO_slp h2 (qclamp_le _ (by omega)))
  split
  · exact PO_stat h (by omega)
  · exact PO_steer h c
/-- the row whole: ol is the order -/
def VI (v : Nat → Int32) (ol : List Nat) : Prop :=
  (v 145 = nI ol.length ∧ 1 ≤ ol.length ∧ ol.length ≤ 4) ∧ (∀ i q : Nat, ol[i]? = some q → v (146 + i) = nI q ∧ q < ol.length) ∧ (∀ i j q : Nat, ol[i]? = some q → ol[j]? = some q → i = j) ∧ (∀ i, ol.length ≤ i → i < 4 → v (146 + i) = 0) ∧
  (∀ p, p < ol.length → PX1 v (150 + 25 * p)) ∧ (∀ p j, ol.length ≤ p → p < 4 → j < 25 → v (150 + 25 * p + j) = 0) ∧ (∃ n, n ≤ 16 ∧ v 250 = nI n ∧ ∀ j, n ≤ j → j < 16 → v (251 + j) = 0) ∧ (∃ n, n ≤ 20 ∧ v 267 = nI n ∧ ∀ j, n ≤ j → j < 20 → v (268 + j) = 0)
theorem PX1_out {v w : Nat → Int32} {o : Nat} (h : PX1 v o) (hw : ∀ j, o ≤ j → j < o + 25 → w j = v j) : PX1 w o := by
  obtain ⟨x, y, dr, ss, sl, ns, s0, s1, s2, h⟩ := h
  exact ⟨x, y, dr, ss, sl, ns, s0, s1, s2, PI_out h hw⟩
theorem VI_ptr {v w : Nat → Int32} {ol : List Nat} {p : Nat} (h : VI v ol) (hp : p < ol.length) (hw : PO v w (150 + 25 * p)) : VI w ol := by
  obtain ⟨⟨h1, h2, h3⟩, h4, h5, h6, h7, h8, ⟨n, g1, g2, g3⟩, k, k1, k2, k3⟩ := h
  obtain ⟨hw, hx⟩ := hw
  refine ⟨⟨(hw _ (by omega)).trans h1, h2, h3⟩, fun i q hq => ?_, h5, fun i a b => (hw _ (by omega)).trans (h6 i a b), fun q hq => ?_, fun q j a b c => (hw _ (by omega)).trans (h8 q j a b c), ⟨n, g1, (hw _ (by omega)).trans g2, fun j a b => (hw _ (by omega)).trans (g3 j a b)⟩, k, k1, (hw _ (by omega)).trans k2, fun j a b => (hw _ (by omega)).trans (k3 j a b)⟩
  · have hi := (List.getElem?_eq_some_iff.mp hq).1
    exact ⟨(hw _ (by omega)).trans (h4 i q hq).1, (h4 i q hq).2⟩
  · by_cases hqp : q = p
    · subst hqp; exact hx
    · exact PX1_out (h7 q hq) (fun j a b => hw j (by omega))
/-- the grid, the ticks and the output change -/
theorem VI_out {v w : Nat → Int32} {ol : List Nat} (h : VI v ol) (hw : ∀ j, 145 ≤ j → j < 267 → w j = v j) (ho : ∃ n, n ≤ 20 ∧ w 267 = nI n ∧ ∀ j, n ≤ j → j < 20 → w (268 + j) = 0) : VI w ol := by
  obtain ⟨⟨h1, h2, h3⟩, h4, h5, h6, h7, h8, ⟨n, g1, g2, g3⟩, -⟩ := h
  refine ⟨⟨(hw _ (by omega) (by omega)).trans h1, h2, h3⟩, fun i q hq => ?_, h5, fun i a b => (hw _ (by omega) (by omega)).trans (h6 i a b), fun q hq => PX1_out (h7 q hq) (fun j a b => hw j (by omega) (by omega)), fun q j a b c => (hw _ (by omega) (by omega)).trans (h8 q j a b c), ⟨n, g1, (hw _ (by omega) (by omega)).trans g2, fun j a b => (hw _ (by omega) (by omega)).trans (g3 j a b)⟩, ho⟩
  have hi := (List.getElem?_eq_some_iff.mp hq).1
  exact ⟨(hw _ (by omega) (by omega)).trans (h4 i q hq).1, (h4 i q hq).2⟩
theorem VI_grid {v : Nat → Int32} {ol : List Nat} (h : VI v ol) {j : Nat} (hj : j < 145) (x : Int32) : VI (upd v j x) ol := by
  obtain ⟨k, k1, k2, k3⟩ := h.2.2.2.2.2.2.2
  exact VI_out h (fun i a b => upd_n (by omega)) ⟨k, k1, by rw [upd_n (by omega)]; exact k2, fun i a b => by rw [upd_n (by omega)]; exact k3 i a b⟩
theorem VI_qout {v : Nat → Int32} {ol : List Nat} (h : VI v ol) (x : Int32) : VI (qout v x) ol := by
  obtain ⟨k, k1, k2, k3⟩ := h.2.2.2.2.2.2.2
  by_cases hk : k = 20
  · subst hk
    have e : qout1 v = fun j => if 268 ≤ j ∧ j < 287 then v (j + 1) else if j = 267 then nI 19 else v j := by rw [qout1, zn_of k2 (by omega), if_pos rfl]
    have e19 : qout1 v 267 = nI 19 := by rw [e]; simp
    refine VI_out h (fun i a b => ?_) ⟨20, by omega, ?_, fun j a b => by omega⟩
    · rw [qout, qout2, zn_of e19 (by omega), upd_n (by omega), upd_n (by omega), upd_n (by omega), e]
      show (if 268 ≤ i ∧ i < 287 then v (i + 1) else if i = 267 then nI 19 else v i) = v i
      rw [if_neg (by omega), if_neg (by omega)]
    · rw [qout, qout2, zn_of e19 (by omega), upd_n (by omega), upd_n (by omega), upd_s]
  · have e : qout1 v = v := by rw [qout1, zn_of k2 (by omega), if_neg hk]
    refine VI_out h (fun i a b => ?_) ⟨k + 1, by omega, ?_, fun j a b => ?_⟩
    · rw [qout, qout2, e, zn_of k2 (by omega), upd_n (by omega), upd_n (by omega), upd_n (by omega)]
    · rw [qout, qout2, e, zn_of k2 (by omega), upd_n (by omega), upd_n (by omega), upd_s]
    · rw [qout, qout2, e, zn_of k2 (by omega), upd_n (by omega), upd_n (by omega), upd_n (by omega)]
      exact k3 j (by omega) b
theorem VI_qinV {v : Nat → Int32} {ol : List Nat} (h : VI v ol) {n : Nat} (hn : 1 ≤ n) (h16 : n ≤ 16) (hv : v 250 = nI n) : VI (qinV v n) ol := by
  obtain ⟨⟨h1, h2, h3⟩, h4, h5, h6, h7, h8, ⟨k, g1, g2, g3⟩, ho⟩ := h
  have hkn : k = n := by
    rw [hv] at g2
    exact ((nI_eq (by omega) (by omega)).mp g2).symm
  subst hkn
  have hw : ∀ j, (j < 250 ∨ 267 ≤ j) → qinV v k j = v j := fun j hj => by rw [qinV, if_neg (by omega), if_neg (by omega), if_neg (by omega)]
  refine ⟨⟨(hw _ (by omega)).trans h1, h2, h3⟩, fun i q hq => ?_, h5, fun i a b => (hw _ (by omega)).trans (h6 i a b), fun q hq => PX1_out (h7 q hq) (fun j a b => hw j (by omega)), fun q j a b c => (hw _ (by omega)).trans (h8 q j a b c), ⟨k - 1, by omega, ?_, fun j a b => ?_⟩, ?_⟩
  · have hi := (List.getElem?_eq_some_iff.mp hq).1
    exact ⟨(hw _ (by omega)).trans (h4 i q hq).1, (h4 i q hq).2⟩
  · rw [qinV, if_neg (by omega), if_neg (by omega), if_pos rfl]
  · rw [qinV, if_neg (by omega)]
    by_cases hj : 251 + j = 250 + k
    · rw [if_pos hj]
    · rw [if_neg hj, if_neg (by omega)]; exact g3 j (by omega) b
  · obtain ⟨n, k1, k2, k3⟩ := ho
    exact ⟨n, k1, (hw _ (by omega)).trans k2, fun j a b => (hw _ (by omega)).trans (k3 j a b)⟩
