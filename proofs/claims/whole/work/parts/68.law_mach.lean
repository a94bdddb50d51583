/-! THE LAW: its frame, its script, its calls -/
section ZL
variable {p : Program} {l : Launch} {e : Env} {R : Room} {s : State} {m : MethodId} {args : Array Value} {below : List Frame} {meth : Method} {c : Code} {D : va_G} {cs : zC} {A : Nat → Prop} {own nm : String} {cc : ByteArray} {nL : Nat} {ret : Option FieldType} {ad : Nat → Nat} {H : Heap} {locs : List Loc} {ls : Array Slot} {S : zS} {mu : zU} {cells slots : Nat} {Q : State → Prop} {pc : Nat} {rest : List Value}
variable {y : MethodName} {cc2 : ByteArray} {nL2 : Nat} {ret2 : Option FieldType} {d2 mc2 ms2 : Nat} {As : List zV} {Ps : Option zV → zS → zU → Prop}
theorem zl_after (h : zH own nm cc nL ret p s m args meth c D cs A) (hw : zWd cs ad S mu A D s.heap H locs) {st0 : List Value} {a : Array Value}
    (hr : va_Run p l e R s m args below meth c H locs cells slots mc2 ms2 (F0 m pc ls st0) rest (zQ D cs ad S.1 (va_A (zws cs ad S mu) H.size) Ps a) (va_A (zws cs ad S mu) H.size))
    (kk : ∀ v S2 mu2 ad2 H2 locs2, Ps v S2 mu2 → zAg ad ad2 S.1 S2 → zWd cs ad2 S2 mu2 A D s.heap H2 locs2 → W p l e R s m args below meth c H2 locs2 (cells + mc2) (slots + ms2) Q (F0 m (pc + 3) ls ((v.map (zr ad2)).toList ++ rest))) : W p l e R s m args below meth c H locs cells slots Q (F0 m pc ls st0) := by
  intro T hT X
  obtain ⟨v, st₀, t, T', L', h0, X', hL, e1, e2, ⟨v', S', mu', ad', hv, hPs, hag, hP', hD', hz, hk⟩, hst⟩ := hr T hT X
  have hv' : v = v'.map (zr ad') := by cases hv; rfl
  have hsub := zA_sub hw h.2.2.2.2.2.2.2.2.1
  rw [h0] at hz hk
  obtain ⟨t2, a1, b1⟩ := kk v' S' mu' ad' T'.heap (locs ++ L') hPs hag
    ⟨by rw [e1]; exact hP', hD'.weaken (fun _ _ _ q => hsub _ q), Nat.le_trans hw.2.2.1 (by rw [e1]; exact hz), fun q h1 h2 => by rw [e1, hk q (Nat.lt_of_lt_of_le h1 hw.2.2.1) (fun z => h2 (hsub q z))]; exact hw.2.2.2.1 q h1 h2, fun q hq => by
      rcases List.mem_append.mp hq with h3 | h3
      · exact hw.2.2.2.2 q h3
      · exact hsub _ (hL q h3)⟩ T' rfl X'
  refine ⟨t2, hst t2 ?_, b1⟩
  rw [← hv'] at a1
  exact a1
theorem zl_callV {ix ci n k : Nat} {post : Int32 → zS → zU → Prop} (h : zH own nm cc nL ret p s m args meth c D cs A) (hw : zWd cs ad S mu A D s.heap H locs) (hls : ls.size = nL) (hM : zM y cc2 nL2 ret2 d2 0 0 (.inr (k + 1) :: As) S mu (zTi S post)) (hd : decode cc pc = .ok (.invokevirtual ix, 3)) (hv : zcv y ci cc2 nL2 ret2 n) (hm : Cond.methodLink own ix y ∈ zwd) (hn : As.length = n) (hk : S.2.1 k = (0, ci)) (hN : k < S.1) {st0 : List Value} (hst : st0 = (As.map (zr ad)).reverse ++ .ref (ad k) :: rest) (hr8 : (rest.map fun v => v.category).sum ≤ 8) (hR : zfit R nL2 d2) (hf : cells ≤ R.cells ∧ slots ≤ R.slots)
    (kk : ∀ r S2 mu2 H2 locs2, post r S2 mu2 → S2.1 = S.1 → zWd cs ad S2 mu2 A D s.heap H2 locs2 → W p l e R s m args below meth c H2 locs2 cells slots Q (F0 m (pc + 3) ls (.int r :: rest))) : W p l e R s m args below meth c H locs cells slots Q (F0 m pc ls st0) := by
  obtain ⟨hC, hin, hsel, hini, hcode, hpl⟩ := hv
  subst hst
  have hts := h.2.2.2.2.2.1
  have hKs := h.2.2.2.2.2.2.2.2.2.1
  obtain ⟨q, hq, hqy⟩ := Option.map_eq_some_iff.mp hC
  have hrc := va_recv hKs hw.1 hq ((zws_get cs ad S mu hN).trans (by rw [zent_o hk]))
  rw [hqy] at hrc
  refine zl_after h hw (va_runV (C := y.cls) (b := ad k) (As := As.map (zr ad)) (rest := rest) ⟨h.1, h.2.1, h.2.2.2.1, h.2.2.2.2.1, hts⟩ (hM l D cs ad H.size) ⟨callB_of n hts (zgoodIn hcode) rfl rfl rfl (hts _ hini) (hts _ hm) hpl hR, hts _ hin, hts _ hsel⟩ ⟨zPc_blind D cs ad S mu H.size _, hrc, fun U hU hW => ⟨rfl, by rw [hU], by rw [hU]; exact hw.1, hw.2.1.weaken (fun _ _ _ _ => trivial), va_K.moved hW.alike hKs, zX_warm hW h.2.2.2.2.2.2.2.2.2.2⟩⟩ rfl (by rw [List.length_map]; exact hn) hls rfl (lv_room hr8) hd hf) (fun v S2 mu2 ad2 H2 locs2 hp ha hw2 => ?_)
  obtain ⟨r, rfl, hS2, hp⟩ := hp
  have hae := ha.2.2 hS2
  subst hae
  exact kk r S2 mu2 H2 locs2 hp hS2 hw2
theorem zl_callI {ix n k : Nat} (h : zH own nm cc nL ret p s m args meth c D cs A) (hw : zWd cs ad S mu A D s.heap H locs) (hls : ls.size = nL) (hM : zM y cc2 nL2 none d2 mc2 ms2 (.inr (k + 1) :: As) S mu Ps) (hd : decode cc pc = .ok (.invokespecial ix, 3)) (hv : zcn y cc2 nL2 n) (hm : Cond.methodLink own ix y ∈ zwd) (hn : As.length = n) {st0 : List Value} (hst : st0 = (As.map (zr ad)).reverse ++ .ref (ad k) :: rest) (hr8 : (rest.map fun v => v.category).sum ≤ 8) (hR : zfit R nL2 d2) (hf : cells + mc2 ≤ R.cells ∧ slots + ms2 ≤ R.slots)
    (kk : ∀ v S2 mu2 ad2 H2 locs2, Ps v S2 mu2 → zAg ad ad2 S.1 S2 → zWd cs ad2 S2 mu2 A D s.heap H2 locs2 → W p l e R s m args below meth c H2 locs2 (cells + mc2) (slots + ms2) Q (F0 m (pc + 3) ls ((v.map (zr ad2)).toList ++ rest))) : W p l e R s m args below meth c H locs cells slots Q (F0 m pc ls st0) := by
  obtain ⟨hname, hin, hini, hcode, hpl⟩ := hv
  subst hst
  have hts := h.2.2.2.2.2.1
  have hKs := h.2.2.2.2.2.2.2.2.2.1
  exact zl_after h hw (va_runI (b := ad k) (As := As.map (zr ad)) (rest := rest) ⟨h.1, h.2.1, h.2.2.2.1, h.2.2.2.2.1, hts⟩ (hM l D cs ad H.size) ⟨callB_of n hts (zgoodIn hcode) rfl rfl rfl (hts _ hini) (hts _ hm) hpl hR, hname, hts _ hin⟩ ⟨zPc_blind D cs ad S mu H.size _, fun U hU hW => ⟨rfl, by rw [hU], by rw [hU]; exact hw.1, hw.2.1.weaken (fun _ _ _ _ => trivial), va_K.moved hW.alike hKs, zX_warm hW h.2.2.2.2.2.2.2.2.2.2⟩⟩ rfl (by rw [List.length_map]; exact hn) hls rfl (lv_room hr8) hd hf) kk
theorem zl_new {ix ci N : Nat} {C : String} {T : u_T} (h : zH own nm cc nL ret p s m args meth c D cs A) (hw2 : zWd cs ad S mu A D s.heap H locs) (hd : decode cc pc = .ok (.new ix, 3)) (hc : vwCl[ci]? = some (C, T, N)) (hcl : Cond.classLink own ix C ∈ zwd) (hin : Cond.instantiable C N ∈ zwd) (hini : Cond.initialized C ∈ zwd) (hw : zwf S) (hcells : cells + 1 ≤ R.cells) (hslots : slots + N ≤ R.slots)
    (kk : ∀ q H2, zWd cs (zad ad S.1 q) (zgr S (0, ci)) (zrow mu S.1 (fun _ => nI 0)) A D s.heap H2 locs → W p l e R s m args below meth c H2 locs (cells + 1) (slots + N) Q (F0 m (pc + 3) ls (.ref q :: rest))) : W p l e R s m args below meth c H locs cells slots Q (F0 m pc ls rest) := by
  obtain ⟨hin2, hnf, -, -, ty, hty, hfl⟩ := zck hc
  have hts := h.2.2.2.2.2.1
  refine va_new (D := D) (ci := ci) (fs := zfs ad (fun _ => 0) (fun _ => nI 0) ci) (C := C) (T := T) (N := N) h.1 h.2.1 hts hin2 ty hty h.2.2.2.2.1 (hts _ hcl) (hts _ hin) (hts _ hini) h.2.2.2.2.2.2.2.2.2.1 hw2.1 hw2.2.1 hw2.2.2 h.2.2.2.2.2.2.2.2.1 hc (fun j hj => ?_) hcells hslots hd (fun q H1 hP hD hS => ?_)
  · have hfl := hfl j hj
    rw [vp_V, List.getD_eq_getElem?_getD, zfs_get (by rw [hnf]; exact hj), zfv]
    by_cases hr : j ∈ zrefs ci
    · rw [if_pos hr] at hfl
      rw [if_pos hr, (zrt_ok hfl.1 ad 0).2.2]
      rfl
    · rw [if_neg hr] at hfl
      rw [if_neg hr, hfl.1, nI_0]
      rfl
  · have hz : zws cs ad S mu ++ [(q, .inr (ci, zfs ad (fun _ => 0) (fun _ => nI 0) ci))] = zws cs (zad ad S.1 q) (zgr S (0, ci)) (zrow mu S.1 (fun _ => nI 0)) := by
      rw [zws_gr hw, zent_new]
      rfl
    rw [hz] at hP hD
    exact kk q H1 ⟨hP, hD, hS⟩
end ZL
