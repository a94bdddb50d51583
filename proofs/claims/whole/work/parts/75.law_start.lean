/-! THE LAW: from its entry -/
theorem XS_ex {S T : zS} {x : Nat} {pm : Nat → Nat} (h : XS S x pm) (h1 : S.1 ≤ T.1) (h2 : ∀ q, x ≤ q → q < x + 215 → T.2.1 q = S.2.1 q ∧ T.2.2 q = S.2.2 q) : XS T x pm := by
  obtain ⟨⟨a0, a1, a2, a3, a4, a5, a6⟩, ⟨b0, b1, b2, b3, b4, b5, b6, b7⟩, ⟨c0, c1, c2⟩, d, e, f⟩ := h
  have kk : ∀ i, i < 215 → T.2.1 (x + i) = S.2.1 (x + i) := fun i hi => (h2 _ (by omega) (by omega)).1
  have rr : ∀ i, i < 215 → T.2.2 (x + i) = S.2.2 (x + i) := fun i hi => (h2 _ (by omega) (by omega)).2
  have r : T.2.2 x = S.2.2 x := rr 0 (by omega)
  have ss : ∀ b, x ≤ b → b + 18 < x + 215 → SS S b → SS T b := fun b z1 z2 z => SS_ex z h1 (fun q _ _ => h2 q (by omega) (by omega))
  refine ⟨⟨by omega, (kk 0 (by omega)).trans a1, (kk 1 (by omega)).trans a2, (kk 2 (by omega)).trans a3, (kk 22 (by omega)).trans a4, (kk 137 (by omega)).trans a5, (kk 176 (by omega)).trans a6⟩, ⟨by rw [r]; exact b0, by rw [r]; exact b1, by rw [r]; exact b2, by rw [r]; exact b3, by rw [r]; exact b4, by rw [r]; exact b5, by rw [r]; exact b6, by rw [r]; exact b7⟩, ⟨ss _ (by omega) (by omega) c0, ss _ (by omega) (by omega) c1, ss _ (by omega) (by omega) c2⟩, fun t ht => ⟨ss _ (by omega) (by omega) (d t ht).1, by rw [rr 22 (by omega)]; exact (d t ht).2.1, (d t ht).2.2⟩, e, fun s hs => ⟨by rw [rr 137 (by omega)]; exact (f s hs).1, ss _ (by omega) (by omega) (f s hs).2⟩⟩
/-- the classes as the tables have them -/
theorem zKnown {s : State} {args : Array Value} (hts : ∀ w ∈ lw_tbl, w.before args s = true) : ∃ (D : va_G) (cs : zC), va_K D vwCl (ztys cs) s ∧ zX s := by
  obtain ⟨c0, i0, k0⟩ := u_known (C := RX0) (T := TX0) (N := 9) (n := 9) hts (fun w h => ztbl (kf0 w h)) (hts _ (ztbl kjX0))
  obtain ⟨c1, i1, k1⟩ := u_known (C := RX1) (T := TX1) (N := 11) (n := 11) hts (fun w h => ztbl (kf1 w h)) (hts _ (ztbl kjX1))
  obtain ⟨c2, i2, k2⟩ := u_known (C := RX2) (T := TX2) (N := 11) (n := 11) hts (fun w h => ztbl (kf2 w h)) (hts _ (ztbl kjX2))
  obtain ⟨c3, i3, k3⟩ := u_known (C := RX3) (T := TX3) (N := 14) (n := 14) hts (fun w h => ztbl (kf3 w h)) (hts _ (ztbl kjX3))
  obtain ⟨cI, kI, pI, fI, gI, hI⟩ := Cond.arrayClass_spec (hts _ (ztbl ac_int))
  obtain ⟨cZ, kZ, pZ, fZ, gZ, hZ⟩ := Cond.arrayClass_spec (hts _ (ztbl ac_boolean))
  obtain ⟨pP, cP, kP, eP, -, gP, hP, fP⟩ := Cond.arrayOver_spec (hts _ aoX0)
  obtain ⟨pS, cS, kS, eS, -, gS, hS, fS⟩ := Cond.arrayOver_spec (hts _ aoX1)
  refine ⟨(fun k => if k = 0 then c0 else if k = 1 then c1 else if k = 2 then c2 else c3, fun k => if k = 0 then i0 else if k = 1 then i1 else if k = 2 then i2 else i3), (cI, cZ, cP, cS), ⟨fun k q hq => ?_, fun k q hq => ?_⟩, va_AO.of (hts _ aoX0), va_AO.of (hts _ aoX1), va_Nw.of rfl (hts _ nlX1_33), va_Nw.of rfl (hts _ nlX1_117)⟩
  · match k, hq with
    | 0, hq => cases hq; exact k0
    | 1, hq => cases hq; exact k1
    | 2, hq => cases hq; exact k2
    | 3, hq => cases hq; exact k3
    | k + 4, hq => simp at hq
  · match k, hq with
    | 0, hq => cases hq; exact ⟨fun n z => ⟨fun k h => (by cases h), kI, gI, pI, hI⟩, fI⟩
    | 1, hq => cases hq; exact ⟨fun n z => ⟨fun k h => (by cases h), kZ, gZ, pZ, hZ⟩, fZ⟩
    | 2, hq => cases hq; exact ⟨fun n z => ⟨fun k h => (by cases h), kP, gP, pP, hP⟩, kP, pP, gP, hP, eP, fP⟩
    | 3, hq => cases hq; exact ⟨fun n z => ⟨fun k h => (by cases h), kS, gS, pS, hS⟩, kS, pS, gS, hS, eS, fS⟩
    | k + 4, hq => simp [ztys] at hq
/-- from the entry, for every script of at most 2048 ints, the law comes to its end with true -/
theorem whole_start {p : Program} {e : Env} {s : State} {m : MethodId} {below : List Frame} {meth : Method} {c : Code} (l : Launch) (hflags : l.flags = flags0) {b L : Nat} {xs : Nat → Int32} (hL : L ≤ 2048) (C0 : lw_At p s m meth c b L xs) : W p l e room_1 s m #[Value.ref b] below meth c s.heap [] 0 0 (lw_Z below #[Value.ref b] s) (entryFrame m ([Value.ref b] : List Value).toArray 4) := by
  obtain ⟨hx, hb, hr, hml, hown, hts, hX, hbl, hlocks, hgv⟩ := id C0
  obtain ⟨D, cs, hK, hZ⟩ := zKnown hts
  have hH : zH RL meth.name code 4 ret p s m #[Value.ref b] meth c D cs (fun q : Nat => s.heap.size ≤ q) := ⟨hx, hb, hr, hml, hown, fun w h => hts w (ztbl h), hlocks, rfl, fun _ h => h, hK, hZ⟩
  have hbA : ¬ (fun q : Nat => s.heap.size ≤ q) b := Nat.not_le.mpr hbl
  have hC : LCx p s m meth c D cs (fun q : Nat => s.heap.size ≤ q) b L xs meth.name := ⟨hH, hX, hbl, hbA, hL⟩
  have hw0 : zWd cs (fun _ => 0) (0, fun _ => (0, 0), fun _ _ => 0) (fun _ _ => nI 0) (fun q : Nat => s.heap.size ≤ q) D s.heap s.heap [] := ⟨fun k q h => by simp [zws] at h, ⟨fun i j p q h => by simp [zws] at h, fun k q h => by simp [zws] at h⟩, va_S.rf⟩
  have hwf0 : zwf (0, fun _ => (0, 0), fun _ _ => 0) := fun i j hi => absurd hi (Nat.not_lt_zero i)
  have hl := lv_entry ([.ref b]) (n := 4) (Nat.le_of_ble_eq_true rfl)
  rw [lg_entry_eq]
  generalize (lg_sl ([.ref b]) ++ List.replicate (4 - (lg_sl ([.ref b])).length) Slot.unset).toArray = ls at hl ⊢
  have hl : lv_has ls 4 [(0, .ref b)] := hl
  refine zl_new (ci := 2) hH hw0 dL_law_0 rfl clL_7 kjX2 kiX2 hwf0 (Nat.le_of_ble_eq_true rfl) (Nat.le_of_ble_eq_true rfl) (fun q0 H1 hw1 => ?_)
  refine lv_dup hx hb dL_law_3 rfl ?_
  refine zl_callI (k := 0) (As := []) (rest := [.ref q0]) hH hw1 hl.1 (cx_X2_init (zwf_gr hwf0 _) rfl rfl (zrow_s _ _ _)) dL_law_4 cnX2_init mlL_9 rfl rfl (Nat.le_of_ble_eq_true rfl) ⟨by decide, by decide⟩ ⟨Nat.le_of_ble_eq_true rfl, Nat.le_of_ble_eq_true rfl⟩ (fun v S2 mu2 ad2 H2 locs2 hP2 ha2 hw2 => ?_)
  obtain ⟨rfl, t2, ⟨e1, e2, e3, e4⟩, hXS, hXR⟩ := hP2
  have t2 : S2.1 = 215 := t2
  have a20 : ad2 0 = q0 := ha2.1 0 (by decide)
  refine lv_astore_n (x := q0) (lv' := [(1, .ref q0), (0, .ref b)]) hx hb dL_law_7 rfl hl (by decide) rfl (fun ls hl => ?_)
  refine zl_new (ci := 3) hH hw2 dL_law_8 rfl clL_10 kjX3 kiX3 e1 (Nat.le_of_ble_eq_true rfl) (Nat.le_of_ble_eq_true rfl) (fun q1 H3 hw3 => ?_)
  refine lv_dup hx hb dL_law_11 rfl ?_
  have g1 : (zgr S2 (0, 3)).1 = S2.1 + 1 := rfl
  have g2 : (zgr S2 (0, 3)).2.1 S2.1 = (0, 3) := if_pos rfl
  have a3 : zad ad2 S2.1 q1 S2.1 = q1 := if_pos rfl
  refine zl_callI (k := S2.1) (As := []) (rest := [.ref q1]) hH hw3 hl.1 (cm_X3_init (zwf_gr e1 _) g1 g2 (zrow_s _ _ _)) dL_law_12 cnX3_init mlL_12 rfl (by rw [a3]; rfl) (Nat.le_of_ble_eq_true rfl) ⟨by decide, by decide⟩ ⟨Nat.le_of_ble_eq_true rfl, Nat.le_of_ble_eq_true rfl⟩ (fun v T mu4 ad4 H4 locs4 hP4 ha4 hw4 => ?_)
  obtain ⟨rfl, t4, ⟨f1, f2, f3, f4⟩, hMS, hMR⟩ := hP4
  have a40 : ad4 0 = q0 := by rw [ha4.1 0 (by omega), zad_lt (by omega)]; exact a20
  have a41 : ad4 215 = q1 := by rw [ha4.1 215 (by omega), ← t2]; exact a3
  refine lv_astore_n (x := q1) (lv' := [(2, .ref q1), (1, .ref q0), (0, .ref b)]) hx hb dL_law_15 rfl hl (by decide) rfl (fun ls hl => ?_)
  refine lv_iconst (v := nI 0) hx hb dL_law_16 (by decide) ?_
  refine lv_istore_n (lv' := [(3, .int (nI 0)), (2, .ref q1), (1, .ref q0), (0, .ref b)]) hx hb dL_law_17 rfl hl (by decide) rfl (fun ls hl => ?_)
  rw [t2] at hMS hMR
  have n1 : ∀ q, q < 215 → T.2.1 q = S2.2.1 q ∧ T.2.2 q = S2.2.2 q ∧ mu4 q = mu2 q := fun q hq => by
    refine ⟨?_, ?_, ?_⟩
    · rw [f3 q (by omega)]
      show (if q = S2.1 then (0, 3) else S2.2.1 q) = _
      rw [if_neg (by omega)]
    · rw [(f4 q (by omega) (by omega)).1]
      show (if q = S2.1 then fun _ => 0 else S2.2.2 q) = _
      rw [if_neg (by omega)]
    · rw [(f4 q (by omega) (by omega)).2, zrow_n (by omega)]
  have hXS4 : XS T 0 (fun t => t) := XS_ex hXS (by omega) (fun q _ hq => ⟨(n1 q (by omega)).1, (n1 q (by omega)).2.1⟩)
  have hI : ZI 0 T mu4 := ⟨fun t => t, (qv0, 0, fun _ => nI 0, fun _ => nI 0, 0, fun _ _ => nI 0, fun _ => nI 0, fun _ _ => nI 0), hXS4, hMS, XR_tr hXS hXR (fun q hq => (n1 q (by omega)).2.2), hMR⟩
  refine law_loop (x := 0) hC (fun _ h => h) (Nat.le_of_ble_eq_true rfl) (Nat.le_of_ble_eq_true rfl) (L + 4) 0 T mu4 H4 locs4 ls (by omega) (by omega) hI hw4 ?_
  show lv_has ls 4 [(0, .ref b), (1, .ref (ad4 0)), (2, .ref (ad4 215)), (3, .int (nI 0))]
  rw [a40, a41]
  exact lv_sub hl [3, 2, 1, 0] rfl
