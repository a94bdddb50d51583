/-! THE WORLD GROWS: new objects and arrays -/
section ZNEW
variable {own nm : String} {cc : ByteArray} {nL : Nat} {ret : Option FieldType} {R : Room} {mc ms : Nat} {Ph : Option zV → zS → zU → Prop} {pc : Nat} {L : List (Option zV)} {st : List zV} {S : zS} {mu : zU} {cells slots : Nat}
theorem zad_lt {ad : Nat → Nat} {n q i : Nat} (h : i < n) : zad ad n q i = ad i := by rw [zad, if_neg (by omega)]
theorem zAg_gr {ad0 ad : Nat → Nat} {N0 q : Nat} {e : Nat × Nat} (h : zAg ad0 ad N0 S) : zAg ad0 (zad ad S.1 q) N0 (zgr S e) := by
  have h1 : (zgr S e).1 = S.1 + 1 := rfl
  have h2 := h.2.1
  refine ⟨fun i hi => ?_, by omega, fun z => by omega⟩
  rw [zad_lt (by omega)]
  exact h.1 i hi
theorem zent_new {cs : zC} {ad : Nat → Nat} {q : Nat} {e : Nat × Nat} : zent cs (zad ad S.1 q) (zgr S e) (zrow mu S.1 (fun _ => nI 0)) S.1 = zent cs ad (1, fun _ => e, fun _ _ => 0) (fun _ _ => nI 0) 0 := by
  have e1 : (zgr S e).2.1 S.1 = e := if_pos rfl
  have e2 : (zgr S e).2.2 S.1 = fun _ => 0 := if_pos rfl
  have e3 : zrow mu S.1 (fun _ => nI 0) S.1 = fun _ => nI 0 := zrow_s _ _ _
  unfold zent
  rw [e1, e2, e3]
  rfl
theorem zgo {p : Program} {l : Launch} {e : Env} {s : State} {m : MethodId} {args : Array Value} {below : List Frame} {meth : Method} {c : Code} {D : va_G} {cs : zC} {ad0 : Nat → Nat} {N0 : Nat} {A : Nat → Prop} (h : zH own nm cc nL ret p s m args meth c D cs A) {ad : Nat → Nat} {H : Heap} {locs : List Loc} {ls : Array Slot} (ho : zAg ad0 ad N0 S) (hl : zLs ad ls nL L) {pc2 : Nat} {q : Nat} {ek : Nat × Nat} {E : va_E} {cells2 slots2 : Nat} (hw : zwf S) (hL : zok S L) (hst : zok S (st.map some)) (hE : zent cs ad (1, fun _ => ek, fun _ _ => 0) (fun _ _ => nI 0) 0 = E)
    (hP : va_P D vwCl (zws cs ad S mu ++ [(q, E)]) H) (hD : va_D A (zws cs ad S mu ++ [(q, E)])) (hS : va_S A s.heap H locs) (kk : zG own nm cc nL ret R mc ms Ph pc2 L (.inr (S.1 + 1) :: st) (zgr S ek) (zrow mu S.1 (fun _ => nI 0)) cells2 slots2) : W p l e R s m args below meth c H locs cells2 slots2 (MQ below (zQ D cs ad0 N0 A Ph) args s mc ms A) (F0 m pc2 ls (.ref q :: st.map (zr ad))) := by
  have hz : zws cs ad S mu ++ [(q, E)] = zws cs (zad ad S.1 q) (zgr S ek) (zrow mu S.1 (fun _ => nI 0)) := by
    rw [zws_gr hw, zent_new, hE]
  rw [hz] at hP hD
  have g := kk l p e s m args below meth c D cs ad0 N0 A h (zad ad S.1 q) H locs ls (zAg_gr ho) ⟨hP, hD, hS⟩ (zok_ls (fun i hi => zad_lt hi) hL hl)
  rw [List.map_cons, zok_st (fun i hi => zad_lt hi) hst] at g
  have e2 : zr (zad ad S.1 q) (.inr (S.1 + 1)) = .ref q := by simp [zr, zad]
  rw [e2] at g
  exact g
theorem zg_new {ix ci N : Nat} {C : String} {T : u_T} (hd : decode cc pc = .ok (.new ix, 3)) (hc : vwCl[ci]? = some (C, T, N)) (hcl : Cond.classLink own ix C ∈ zwd) (hin : Cond.instantiable C N ∈ zwd) (hini : Cond.initialized C ∈ zwd) (hw : zwf S) (hL : zok S L) (hst : zok S (st.map some)) (hcells : cells + 1 ≤ R.cells) (hslots : slots + N ≤ R.slots)
    (kk : zG own nm cc nL ret R mc ms Ph (pc + 3) L (.inr (S.1 + 1) :: st) (zgr S (0, ci)) (zrow mu S.1 (fun _ => nI 0)) (cells + 1) (slots + N)) : zG own nm cc nL ret R mc ms Ph pc L st S mu cells slots := by
  obtain ⟨hin2, hnf, -, -, ty, hty, hfl⟩ := zck hc
  intro l p e s m args below meth c D cs ad0 N0 A h ad H locs ls ho hw2 hl
  have hts := h.2.2.2.2.2.1
  refine va_new (D := D) (ci := ci) (fs := zfs ad (fun _ => 0) (fun _ => nI 0) ci) (C := C) (T := T) (N := N) h.1 h.2.1 hts hin2 ty hty h.2.2.2.2.1 (hts _ hcl) (hts _ hin) (hts _ hini) h.2.2.2.2.2.2.2.2.2.1 hw2.1 hw2.2.1 hw2.2.2 h.2.2.2.2.2.2.2.2.1 hc (fun j hj => ?_) hcells hslots hd (fun q H1 hP hD hS => zgo h ho hl hw hL hst rfl hP hD hS kk)
  have hfl := hfl j hj
  rw [vp_V, List.getD_eq_getElem?_getD, zfs_get (by rw [hnf]; exact hj), zfv]
  by_cases hr : j ∈ zrefs ci
  · rw [if_pos hr] at hfl
    rw [if_pos hr, (zrt_ok hfl.1 ad 0).2.2]
    rfl
  · rw [if_neg hr] at hfl
    rw [if_neg hr, hfl.1, nI_0]
    rfl
theorem zg_newi {n : Nat} (hd : decode cc pc = .ok (.newarray .int, 2)) (hn : n < 10000) (hw : zwf S) (hL : zok S L) (hst : zok S (st.map some)) (hcells : cells + 1 ≤ R.cells) (hslots : slots + n ≤ R.slots)
    (kk : zG own nm cc nL ret R mc ms Ph (pc + 2) L (.inr (S.1 + 1) :: st) (zgr S (1, n)) (zrow mu S.1 (fun _ => nI 0)) (cells + 1) (slots + n)) : zG own nm cc nL ret R mc ms Ph pc L (.inl (nI n) :: st) S mu cells slots := by
  intro l p e s m args below meth c D cs ad0 N0 A h ad H locs ls ho hw2 hl
  have hts := h.2.2.2.2.2.1
  have h31 : n < 2 ^ 31 := by omega
  refine va_newa (D := D) (atype := .int) (ty := .int) (N' := n) (a0 := (n, .inl (fun _ => nI 0))) h.1 h.2.1 (hts _ ac_int) rfl h.2.2.2.2.2.2.2.2.2.1 hw2.1 hw2.2.1 hw2.2.2 h.2.2.2.2.2.2.2.2.1 (fun cA => by rw [vp_cell_i, nI_0]; rfl) (fun z => by rw [← nI_0] at z; exact absurd ((nI_ltI h31 zz31).mp z) (by omega)) (nI_clamp h31) (by show n * 4 ≤ _; omega) hcells hslots hd (fun q cA H1 hK hP hD hS => ?_)
  have e1 : cA = cs.1 := by
    have a1 := va_nm_int (hK.2 4 (cA, .int) rfl).2
    have a2 := va_nm_int (h.2.2.2.2.2.2.2.2.2.1.2 0 (cs.1, .int) rfl).2
    rw [a1] at a2
    exact Option.some.inj a2
  subst e1
  exact zgo h ho hl hw hL hst rfl hP hD hS kk
theorem zg_newz {n : Nat} (hd : decode cc pc = .ok (.newarray .boolean, 2)) (hn : n < 10000) (hw : zwf S) (hL : zok S L) (hst : zok S (st.map some)) (hcells : cells + 1 ≤ R.cells) (hslots : slots + n ≤ R.slots)
    (kk : zG own nm cc nL ret R mc ms Ph (pc + 2) L (.inr (S.1 + 1) :: st) (zgr S (2, n)) (zrow mu S.1 (fun _ => nI 0)) (cells + 1) (slots + n)) : zG own nm cc nL ret R mc ms Ph pc L (.inl (nI n) :: st) S mu cells slots := by
  intro l p e s m args below meth c D cs ad0 N0 A h ad H locs ls ho hw2 hl
  have hts := h.2.2.2.2.2.1
  have h31 : n < 2 ^ 31 := by omega
  refine va_newa (D := D) (atype := .boolean) (ty := .boolean) (N' := n) (a0 := (n, .inl (fun _ => nI 0))) h.1 h.2.1 (hts _ ac_boolean) rfl h.2.2.2.2.2.2.2.2.2.1 hw2.1 hw2.2.1 hw2.2.2 h.2.2.2.2.2.2.2.2.1 (fun cA => by rw [vp_cell_i, nI_0]; rfl) (fun z => by rw [← nI_0] at z; exact absurd ((nI_ltI h31 zz31).mp z) (by omega)) (nI_clamp h31) (by show n * 1 ≤ _; omega) hcells hslots hd (fun q cA H1 hK hP hD hS => ?_)
  have e1 : cA = cs.2.1 := by
    have a1 := va_nm_boolean (hK.2 4 (cA, .boolean) rfl).2
    have a2 := va_nm_boolean (h.2.2.2.2.2.2.2.2.2.1.2 1 (cs.2.1, .boolean) rfl).2
    rw [a1] at a2
    exact Option.some.inj a2
  subst e1
  exact zgo h ho hl hw hL hst rfl hP hD hS kk
theorem zg_newp {n ix : Nat} (hd : decode cc pc = .ok (.anewarray ix, 3)) (hcl : Cond.classLink own ix RX0 ∈ zwd) (hn : n < 10000) (hw : zwf S) (hL : zok S L) (hst : zok S (st.map some)) (hcells : cells + 1 ≤ R.cells) (hslots : slots + n ≤ R.slots)
    (kk : zG own nm cc nL ret R mc ms Ph (pc + 3) L (.inr (S.1 + 1) :: st) (zgr S (3, n)) (zrow mu S.1 (fun _ => nI 0)) (cells + 1) (slots + n)) : zG own nm cc nL ret R mc ms Ph pc L (.inl (nI n) :: st) S mu cells slots := by
  intro l p e s m args below meth c D cs ad0 N0 A h ad H locs ls ho hw2 hl
  have hts := h.2.2.2.2.2.1
  have h31 : n < 2 ^ 31 := by omega
  refine va_newq (D := D) (C := RX0) (N' := n) h.1 h.2.1 h.2.2.2.2.1 (hts _ hcl) h.2.2.2.2.2.2.2.2.2.2.1 h.2.2.2.2.2.2.2.2.2.1 hw2.1 hw2.2.1 hw2.2.2 h.2.2.2.2.2.2.2.2.1 (fun z => by rw [← nI_0] at z; exact absurd ((nI_ltI h31 zz31).mp z) (by omega)) (nI_clamp h31) (by omega) hcells hslots hd (fun q cA H1 hK hP hD hS => ?_)
  have e1 : cA = cs.2.2.1 := by
    have a1 := va_nmO (hK.2 4 (cA, .object RX0) rfl).2 rfl
    have a2 := va_nmO (h.2.2.2.2.2.2.2.2.2.1.2 2 (cs.2.2.1, .object RX0) rfl).2 rfl
    rw [a1] at a2
    exact Option.some.inj a2
  subst e1
  exact zgo h ho hl hw hL hst rfl hP hD hS kk
theorem zg_news {n ix : Nat} (hd : decode cc pc = .ok (.anewarray ix, 3)) (hcl : Cond.classLink own ix RX1 ∈ zwd) (hn : n < 10000) (hw : zwf S) (hL : zok S L) (hst : zok S (st.map some)) (hcells : cells + 1 ≤ R.cells) (hslots : slots + n ≤ R.slots)
    (kk : zG own nm cc nL ret R mc ms Ph (pc + 3) L (.inr (S.1 + 1) :: st) (zgr S (4, n)) (zrow mu S.1 (fun _ => nI 0)) (cells + 1) (slots + n)) : zG own nm cc nL ret R mc ms Ph pc L (.inl (nI n) :: st) S mu cells slots := by
  intro l p e s m args below meth c D cs ad0 N0 A h ad H locs ls ho hw2 hl
  have hts := h.2.2.2.2.2.1
  have h31 : n < 2 ^ 31 := by omega
  refine va_newq (D := D) (C := RX1) (N' := n) h.1 h.2.1 h.2.2.2.2.1 (hts _ hcl) h.2.2.2.2.2.2.2.2.2.2.2.1 h.2.2.2.2.2.2.2.2.2.1 hw2.1 hw2.2.1 hw2.2.2 h.2.2.2.2.2.2.2.2.1 (fun z => by rw [← nI_0] at z; exact absurd ((nI_ltI h31 zz31).mp z) (by omega)) (nI_clamp h31) (by omega) hcells hslots hd (fun q cA H1 hK hP hD hS => ?_)
  have e1 : cA = cs.2.2.2 := by
    have a1 := va_nmO (hK.2 4 (cA, .object RX1) rfl).2 rfl
    have a2 := va_nmO (h.2.2.2.2.2.2.2.2.2.1.2 3 (cs.2.2.2, .object RX1) rfl).2 rfl
    rw [a1] at a2
    exact Option.some.inj a2
  subst e1
  exact zgo h ho hl hw hL hst rfl hP hD hS kk
theorem zg_obj {ix k : Nat} (hd : decode cc pc = .ok (.invokespecial ix, 3)) (hm : Cond.methodLink own ix objectInit ∈ zwd) (hs8 : st.length ≤ 8) (hR : 1 ≤ R.frames ∧ 36 ≤ R.locals) (kk : zG own nm cc nL ret R mc ms Ph (pc + 3) L st S mu cells slots) : zG own nm cc nL ret R mc ms Ph pc L (.inr (k + 1) :: st) S mu cells slots := by
  intro l p e s m args below meth c D cs ad0 N0 A h ad H locs ls ho hw hl
  have hts := h.2.2.2.2.2.1
  refine W.objInit h.1 h.2.1 h.2.2.2.2.1 (hts _ hm) (hts _ kn_object) (hts _ kc_object) rfl (by rw [h.2.2.2.1]; exact hl.2.1) rfl hd hR.1 ?_ (kk l p e s m args below meth c D cs ad0 N0 A h ad H locs ls ho hw hl)
  have h9 := hR.2
  show 2 * 0 + ((st.map (zr ad)).map fun v => v.category).sum + 12 ≤ R.locals
  rw [zr_sum]
  omega
end ZNEW
