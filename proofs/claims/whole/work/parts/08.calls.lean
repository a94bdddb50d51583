/-! calls of the machine over int rows -/
theorem zgoodIn {y : MethodName} {cc : ByteArray} {nL : Nat} {ret : Option FieldType} (h : Cond.code y cc nL ret ∈ zwd) : GoodIn zwd (Cond.code y cc nL ret :: zwd) := by
  intro w hw
  rcases List.mem_cons.mp hw with rfl | hw
  · exact ⟨h, zgood h⟩
  · exact ⟨hw, zgood hw⟩
theorem zAg_trans {ad0 ad ad1 : Nat → Nat} {N0 : Nat} {S S1 : zS} (h : zAg ad0 ad N0 S) (h1 : zAg ad ad1 S.1 S1) : zAg ad0 ad1 N0 S1 := by
  refine ⟨fun k hk => (h1.1 k (Nat.lt_of_lt_of_le hk h.2.1)).trans (h.1 k hk), Nat.le_trans h.2.1 h1.2.1, fun e => ?_⟩
  have e1 : S.1 = N0 := by have := h.2.1; have := h1.2.1; omega
  rw [h1.2.2 (by omega), h.2.2 e1]
theorem zPc_blind (D : va_G) (cs : zC) (ad : Nat → Nat) (S : zS) (mu : zU) (sz : Nat) (av : List Value) : FrameBlind (va_Pc av (zPc D cs ad S mu sz)) := by
  intro a U g mk q
  obtain ⟨q0, q1, qP, qD, qK, qX⟩ := q
  exact ⟨q0, q1, qP, qD, va_K.moved (u := U) (U := U.calling g mk a) (Vm.Alike.refl U.vm) qK, zX_same rfl qX⟩
section ZC
variable {own nm : String} {cc : ByteArray} {nL : Nat} {ret : Option FieldType} {R : Room} {mc ms : Nat} {Ph : Option zV → zS → zU → Prop} {pc : Nat} {L : List (Option zV)} {st rest : List zV} {S : zS} {mu : zU} {cells slots : Nat}
variable {y : MethodName} {cc2 : ByteArray} {nL2 : Nat} {ret2 : Option FieldType} {d2 mc2 ms2 : Nat} {As : List zV} {Ps : Option zV → zS → zU → Prop}
/-- references of a list lie below the number of places -/
def zok (S : zS) (L : List (Option zV)) : Prop := ∀ v ∈ L, ∀ q : Nat, v = some (.inr (q + 1)) → q < S.1
theorem zok_ls {ad ad1 : Nat → Nat} {S : zS} {L : List (Option zV)} (h : ∀ k, k < S.1 → ad1 k = ad k) (hk : zok S L) {ls : Array Slot} (hl : zLs ad ls nL L) : zLs ad1 ls nL L := by
  refine ⟨hl.1, hl.2.1, hl.2.2.1, fun i v hv => ?_⟩
  rw [hl.2.2.2 i v hv]
  rcases v with x | _ | q
  · rfl
  · rfl
  · have := hk _ (List.mem_of_getElem? hv) q rfl
    simp [zr, h q this]
theorem zok_st {ad ad1 : Nat → Nat} {S : zS} (h : ∀ k, k < S.1 → ad1 k = ad k) : ∀ {st : List zV}, zok S (st.map some) → st.map (zr ad1) = st.map (zr ad)
  | [], _ => rfl
  | v :: t, hk => by
    rw [List.map_cons, List.map_cons, zok_st h (st := t) (fun w hw => hk w (by rw [List.map_cons]; exact List.mem_cons_of_mem _ hw))]
    congr 1
    rcases v with x | _ | q
    · rfl
    · rfl
    · have := hk (some (.inr (q + 1))) (by rw [List.map_cons]; exact List.mem_cons_self) q rfl
      simp [zr, h q this]
theorem zg_after {p : Program} {l : Launch} {e : Env} {s : State} {m : MethodId} {args : Array Value} {below : List Frame} {meth : Method} {c : Code} {D : va_G} {cs : zC} {ad0 : Nat → Nat} {N0 : Nat} {A : Nat → Prop} (h : zH own nm cc nL ret p s m args meth c D cs A) {ad : Nat → Nat} {H : Heap} {locs : List Loc} {ls : Array Slot} (ho : zAg ad0 ad N0 S) (hw : zWd cs ad S mu A D s.heap H locs) (hl : zLs ad ls nL L) {st0 : List Value} {a : Array Value}
    (hr : va_Run p l e R s m args below meth c H locs cells slots mc2 ms2 (F0 m pc ls st0) (rest.map (zr ad)) (zQ D cs ad S.1 (va_A (zws cs ad S mu) H.size) Ps a) (va_A (zws cs ad S mu) H.size))
    (hS : (∀ v S2 mu2, Ps v S2 mu2 → S2.1 = S.1) ∨ (zok S L ∧ zok S (rest.map some)))
    (kk : ∀ v S2 mu2, Ps v S2 mu2 → zG own nm cc nL ret R mc ms Ph (pc + 3) L (v.toList ++ rest) S2 mu2 (cells + mc2) (slots + ms2)) : W p l e R s m args below meth c H locs cells slots (MQ below (zQ D cs ad0 N0 A Ph) args s mc ms A) (F0 m pc ls st0) := by
  intro T hT X
  obtain ⟨v, st₀, t, T', L', h0, X', hL, e1, e2, ⟨v', S', mu', ad', hv, hPs, hag, hP', hD', hz, hk⟩, hst⟩ := hr T hT X
  have hv' : v = v'.map (zr ad') := by cases hv; rfl
  have hsub := zA_sub hw h.2.2.2.2.2.2.2.2.1
  rw [h0] at hz hk
  have hl' : zLs ad' ls nL L ∧ rest.map (zr ad') = rest.map (zr ad) := by
    rcases hS with hS | hS
    · have := hag.2.2 (hS _ _ _ hPs)
      subst this
      exact ⟨hl, rfl⟩
    · exact ⟨zok_ls hag.1 hS.1 hl, zok_st hag.1 hS.2⟩
  obtain ⟨t2, a1, b1⟩ := kk v' S' mu' hPs l p e s m args below meth c D cs ad0 N0 A h ad' T'.heap (locs ++ L') ls (zAg_trans ho hag)
    ⟨by rw [e1]; exact hP', hD'.weaken (fun _ _ _ q => hsub _ q), Nat.le_trans hw.2.2.1 (by rw [e1]; exact hz), fun q h1 h2 => by rw [e1, hk q (Nat.lt_of_lt_of_le h1 hw.2.2.1) (fun z => h2 (hsub q z))]; exact hw.2.2.2.1 q h1 h2, fun q hq => by
      rcases List.mem_append.mp hq with h3 | h3
      · exact hw.2.2.2.2 q h3
      · exact hsub _ (hL q h3)⟩ hl'.1 T' rfl X'
  refine ⟨t2, hst t2 ?_, b1⟩
  have : List.map (zr ad') (v'.toList ++ rest) = v.toList ++ List.map (zr ad) rest := by
    rw [List.map_append, hl'.2, hv']
    cases v' <;> rfl
  rw [this] at a1
  exact a1
/-- an object's method that is called by invokevirtual -/
def zcv (y : MethodName) (ci : Nat) (cc : ByteArray) (nL : Nat) (ret : Option FieldType) (n : Nat) : Prop :=
  vwCl[ci]?.map (fun q => q.1) = some y.cls ∧ Cond.instanceMethod y ∈ zwd ∧ Cond.selects y.cls y y ∈ zwd ∧ Cond.initialized y.cls ∈ zwd ∧ Cond.code y cc nL ret ∈ zwd ∧ (y.cls ≠ "java/lang/invoke/MethodHandle" ∧ y.cls ≠ "java/lang/invoke/VarHandle" ∧ (parseMethodDescriptor y.desc).map (fun d => d.parameters.length) = some n)
/-- a static method, and a constructor -/
def zct (y : MethodName) (cc : ByteArray) (nL : Nat) (ret : Option FieldType) (n : Nat) : Prop :=
  Cond.static y ∈ zwd ∧ Cond.initialized y.cls ∈ zwd ∧ Cond.code y cc nL ret ∈ zwd ∧ (y.cls ≠ "java/lang/invoke/MethodHandle" ∧ y.cls ≠ "java/lang/invoke/VarHandle" ∧ (parseMethodDescriptor y.desc).map (fun d => d.parameters.length) = some n)
def zcn (y : MethodName) (cc : ByteArray) (nL n : Nat) : Prop :=
  y.name = "<init>" ∧ Cond.instanceMethod y ∈ zwd ∧ Cond.initialized y.cls ∈ zwd ∧ Cond.code y cc nL none ∈ zwd ∧ (y.cls ≠ "java/lang/invoke/MethodHandle" ∧ y.cls ≠ "java/lang/invoke/VarHandle" ∧ (parseMethodDescriptor y.desc).map (fun d => d.parameters.length) = some n)
def zfit (R : Room) (nL d : Nat) : Prop := d + 1 ≤ R.frames ∧ 8 + (nL + 11) + 38 * d ≤ R.locals
theorem zg_callV {ix ci n k : Nat} (hM : zM y cc2 nL2 ret2 d2 mc2 ms2 (.inr (k + 1) :: As) S mu Ps) (hd : decode cc pc = .ok (.invokevirtual ix, 3)) (hv : zcv y ci cc2 nL2 ret2 n) (hm : Cond.methodLink own ix y ∈ zwd) (hn : As.length = n) (hk : S.2.1 k = (0, ci)) (hN : k < S.1) (hst : st = As.reverse ++ .inr (k + 1) :: rest) (hr8 : rest.length ≤ 8) (hR : zfit R nL2 d2) (hf : cells + mc2 ≤ R.cells ∧ slots + ms2 ≤ R.slots)
    (hS : (∀ v S2 mu2, Ps v S2 mu2 → S2.1 = S.1) ∨ (zok S L ∧ zok S (rest.map some))) (kk : ∀ v S2 mu2, Ps v S2 mu2 → zG own nm cc nL ret R mc ms Ph (pc + 3) L (v.toList ++ rest) S2 mu2 (cells + mc2) (slots + ms2)) : zG own nm cc nL ret R mc ms Ph pc L st S mu cells slots := by
  obtain ⟨hC, hin, hsel, hini, hcode, hpl⟩ := hv
  subst hst
  intro l p e s m args below meth c D cs ad0 N0 A h ad H locs ls ho hw hl
  have hts := h.2.2.2.2.2.1
  have hKs := h.2.2.2.2.2.2.2.2.2.1
  obtain ⟨q, hq, hqy⟩ := Option.map_eq_some_iff.mp hC
  have hrc := va_recv hKs hw.1 hq ((zws_get cs ad S mu hN).trans (by rw [zent_o hk]))
  rw [hqy] at hrc
  refine zg_after h ho hw hl (va_runV (C := y.cls) (b := ad k) (As := As.map (zr ad)) (rest := rest.map (zr ad)) ⟨h.1, h.2.1, h.2.2.2.1, h.2.2.2.2.1, hts⟩ (hM l D cs ad H.size) ⟨callB_of n hts (zgoodIn hcode) rfl rfl rfl (hts _ hini) (hts _ hm) hpl hR, hts _ hin, hts _ hsel⟩ ⟨zPc_blind D cs ad S mu H.size _, hrc, fun U hU hW => ⟨rfl, by rw [hU], by rw [hU]; exact hw.1, hw.2.1.weaken (fun _ _ _ _ => trivial), va_K.moved hW.alike hKs, zX_warm hW h.2.2.2.2.2.2.2.2.2.2⟩⟩ rfl (by rw [List.length_map]; exact hn) hl.2.1 (by simp [F0, zr]) (lv_room (by rw [zr_sum]; exact hr8)) hd hf) hS kk
theorem zg_callS {ix n : Nat} (hM : zM y cc2 nL2 ret2 d2 mc2 ms2 As S mu Ps) (hd : decode cc pc = .ok (.invokestatic ix, 3)) (hv : zct y cc2 nL2 ret2 n) (hm : Cond.methodLink own ix y ∈ zwd) (hn : As.length = n) (hst : st = As.reverse ++ rest) (hr8 : rest.length ≤ 8) (hR : zfit R nL2 d2) (hf : cells + mc2 ≤ R.cells ∧ slots + ms2 ≤ R.slots)
    (hS : (∀ v S2 mu2, Ps v S2 mu2 → S2.1 = S.1) ∨ (zok S L ∧ zok S (rest.map some))) (kk : ∀ v S2 mu2, Ps v S2 mu2 → zG own nm cc nL ret R mc ms Ph (pc + 3) L (v.toList ++ rest) S2 mu2 (cells + mc2) (slots + ms2)) : zG own nm cc nL ret R mc ms Ph pc L st S mu cells slots := by
  obtain ⟨hstat, hini, hcode, hpl⟩ := hv
  subst hst
  intro l p e s m args below meth c D cs ad0 N0 A h ad H locs ls ho hw hl
  have hts := h.2.2.2.2.2.1
  have hKs := h.2.2.2.2.2.2.2.2.2.1
  refine zg_after h ho hw hl (va_runS (As := As.map (zr ad)) (rest := rest.map (zr ad)) ⟨h.1, h.2.1, h.2.2.2.1, h.2.2.2.2.1, hts⟩ (hM l D cs ad H.size) ⟨callB_of n hts (zgoodIn hcode) rfl rfl rfl (hts _ hini) (hts _ hm) hpl hR, hts _ hstat⟩ ⟨zPc_blind D cs ad S mu H.size _, fun U hU hW => ⟨rfl, by rw [hU], by rw [hU]; exact hw.1, hw.2.1.weaken (fun _ _ _ _ => trivial), va_K.moved hW.alike hKs, zX_warm hW h.2.2.2.2.2.2.2.2.2.2⟩⟩ rfl (by rw [List.length_map]; exact hn) hl.2.1 (by simp [F0]) (lv_room (by rw [zr_sum]; exact hr8)) hd hf) hS kk
theorem zg_callSN {ix n : Nat} {host : String} (hM : zM y cc2 nL2 ret2 d2 mc2 ms2 As S mu Ps) (hd : decode cc pc = .ok (.invokestatic ix, 3)) (hv : zct y cc2 nL2 ret2 n) (hm : ∀ s : State, zX s → va_Nw (.methodLinkNest own ix y host) s) (hn : As.length = n) (hst : st = As.reverse ++ rest) (hr8 : rest.length ≤ 8) (hR : zfit R nL2 d2) (hf : cells + mc2 ≤ R.cells ∧ slots + ms2 ≤ R.slots)
    (hS : (∀ v S2 mu2, Ps v S2 mu2 → S2.1 = S.1) ∨ (zok S L ∧ zok S (rest.map some))) (kk : ∀ v S2 mu2, Ps v S2 mu2 → zG own nm cc nL ret R mc ms Ph (pc + 3) L (v.toList ++ rest) S2 mu2 (cells + mc2) (slots + ms2)) : zG own nm cc nL ret R mc ms Ph pc L st S mu cells slots := by
  obtain ⟨hstat, hini, hcode, hpl⟩ := hv
  subst hst
  intro l p e s m args below meth c D cs ad0 N0 A h ad H locs ls ho hw hl
  have hts := h.2.2.2.2.2.1
  have hKs := h.2.2.2.2.2.2.2.2.2.1
  refine zg_after h ho hw hl (va_runSN (As := As.map (zr ad)) (rest := rest.map (zr ad)) ⟨h.1, h.2.1, h.2.2.2.1, h.2.2.2.2.1, hts⟩ (hM l D cs ad H.size) ⟨va_cnB n hts (zgoodIn hcode) rfl rfl rfl (hm s h.2.2.2.2.2.2.2.2.2.2) (hts _ hini) hpl hR, hts _ hstat, trivial⟩ ⟨zPc_blind D cs ad S mu H.size _, fun U hU hW => ⟨rfl, by rw [hU], by rw [hU]; exact hw.1, hw.2.1.weaken (fun _ _ _ _ => trivial), va_K.moved hW.alike hKs, zX_warm hW h.2.2.2.2.2.2.2.2.2.2⟩⟩ rfl (by rw [List.length_map]; exact hn) hl.2.1 (by simp [F0]) (lv_room (by rw [zr_sum]; exact hr8)) hd hf) hS kk
theorem zg_callI {ix n k : Nat} (hM : zM y cc2 nL2 none d2 mc2 ms2 (.inr (k + 1) :: As) S mu Ps) (hd : decode cc pc = .ok (.invokespecial ix, 3)) (hv : zcn y cc2 nL2 n) (hm : Cond.methodLink own ix y ∈ zwd) (hn : As.length = n) (hst : st = As.reverse ++ .inr (k + 1) :: rest) (hr8 : rest.length ≤ 8) (hR : zfit R nL2 d2) (hf : cells + mc2 ≤ R.cells ∧ slots + ms2 ≤ R.slots)
    (hS : (∀ v S2 mu2, Ps v S2 mu2 → S2.1 = S.1) ∨ (zok S L ∧ zok S (rest.map some))) (kk : ∀ v S2 mu2, Ps v S2 mu2 → zG own nm cc nL ret R mc ms Ph (pc + 3) L (v.toList ++ rest) S2 mu2 (cells + mc2) (slots + ms2)) : zG own nm cc nL ret R mc ms Ph pc L st S mu cells slots := by
  obtain ⟨hname, hin, hini, hcode, hpl⟩ := hv
  subst hst
  intro l p e s m args below meth c D cs ad0 N0 A h ad H locs ls ho hw hl
  have hts := h.2.2.2.2.2.1
  have hKs := h.2.2.2.2.2.2.2.2.2.1
  refine zg_after h ho hw hl (va_runI (b := ad k) (As := As.map (zr ad)) (rest := rest.map (zr ad)) ⟨h.1, h.2.1, h.2.2.2.1, h.2.2.2.2.1, hts⟩ (hM l D cs ad H.size) ⟨callB_of n hts (zgoodIn hcode) rfl rfl rfl (hts _ hini) (hts _ hm) hpl hR, hname, hts _ hin⟩ ⟨zPc_blind D cs ad S mu H.size _, fun U hU hW => ⟨rfl, by rw [hU], by rw [hU]; exact hw.1, hw.2.1.weaken (fun _ _ _ _ => trivial), va_K.moved hW.alike hKs, zX_warm hW h.2.2.2.2.2.2.2.2.2.2⟩⟩ rfl (by rw [List.length_map]; exact hn) hl.2.1 (by simp [F0, zr]) (lv_room (by rw [zr_sum]; exact hr8)) hd hf) hS kk
theorem zg_callIN {ix n k : Nat} {host : String} (hM : zM y cc2 nL2 none d2 mc2 ms2 (.inr (k + 1) :: As) S mu Ps) (hd : decode cc pc = .ok (.invokespecial ix, 3)) (hv : zcn y cc2 nL2 n) (hm : ∀ s : State, zX s → va_Nw (.methodLinkNest own ix y host) s) (hn : As.length = n) (hst : st = As.reverse ++ .inr (k + 1) :: rest) (hr8 : rest.length ≤ 8) (hR : zfit R nL2 d2) (hf : cells + mc2 ≤ R.cells ∧ slots + ms2 ≤ R.slots)
    (hS : (∀ v S2 mu2, Ps v S2 mu2 → S2.1 = S.1) ∨ (zok S L ∧ zok S (rest.map some))) (kk : ∀ v S2 mu2, Ps v S2 mu2 → zG own nm cc nL ret R mc ms Ph (pc + 3) L (v.toList ++ rest) S2 mu2 (cells + mc2) (slots + ms2)) : zG own nm cc nL ret R mc ms Ph pc L st S mu cells slots := by
  obtain ⟨hname, hin, hini, hcode, hpl⟩ := hv
  subst hst
  intro l p e s m args below meth c D cs ad0 N0 A h ad H locs ls ho hw hl
  have hts := h.2.2.2.2.2.1
  have hKs := h.2.2.2.2.2.2.2.2.2.1
  refine zg_after h ho hw hl (va_runIN (b := ad k) (As := As.map (zr ad)) (rest := rest.map (zr ad)) ⟨h.1, h.2.1, h.2.2.2.1, h.2.2.2.2.1, hts⟩ (hM l D cs ad H.size) ⟨va_cnB n hts (zgoodIn hcode) rfl rfl rfl (hm s h.2.2.2.2.2.2.2.2.2.2) (hts _ hini) hpl hR, hname, hts _ hin⟩ ⟨zPc_blind D cs ad S mu H.size _, fun U hU hW => ⟨rfl, by rw [hU], by rw [hU]; exact hw.1, hw.2.1.weaken (fun _ _ _ _ => trivial), va_K.moved hW.alike hKs, zX_warm hW h.2.2.2.2.2.2.2.2.2.2⟩⟩ rfl (by rw [List.length_map]; exact hn) hl.2.1 (by simp [F0, zr]) (lv_room (by rw [zr_sum]; exact hr8)) hd hf) hS kk
/-- ends of methods that leave the shape -/
def zPi (S : zS) (post : Int32 → zU → Prop) : Option zV → zS → zU → Prop := fun v S2 mu2 => ∃ r : Int32, v = some (.inl r) ∧ S2 = S ∧ post r mu2
def zPv (S : zS) (post : zU → Prop) : Option zV → zS → zU → Prop := fun v S2 mu2 => v = none ∧ S2 = S ∧ post mu2
theorem zg_callVi {ix ci n k : Nat} {post : Int32 → zU → Prop} (hM : zM y cc2 nL2 ret2 d2 0 0 (.inr (k + 1) :: As) S mu (zPi S post)) (hd : decode cc pc = .ok (.invokevirtual ix, 3)) (hv : zcv y ci cc2 nL2 ret2 n) (hm : Cond.methodLink own ix y ∈ zwd) (hn : As.length = n) (hk : S.2.1 k = (0, ci)) (hN : k < S.1) (hst : st = As.reverse ++ .inr (k + 1) :: rest) (hr8 : rest.length ≤ 8) (hR : zfit R nL2 d2) (hf : cells ≤ R.cells ∧ slots ≤ R.slots)
    (kk : ∀ r mu2, post r mu2 → zG own nm cc nL ret R mc ms Ph (pc + 3) L (.inl r :: rest) S mu2 cells slots) : zG own nm cc nL ret R mc ms Ph pc L st S mu cells slots :=
  zg_callV hM hd hv hm hn hk hN hst hr8 hR hf (Or.inl (fun v S2 mu2 ⟨r, _, e, _⟩ => by rw [e])) (fun v S2 mu2 ⟨r, e1, e2, h⟩ => by subst e1; subst e2; exact kk r mu2 h)
theorem zg_callVv {ix ci n k : Nat} {post : zU → Prop} (hM : zM y cc2 nL2 ret2 d2 0 0 (.inr (k + 1) :: As) S mu (zPv S post)) (hd : decode cc pc = .ok (.invokevirtual ix, 3)) (hv : zcv y ci cc2 nL2 ret2 n) (hm : Cond.methodLink own ix y ∈ zwd) (hn : As.length = n) (hk : S.2.1 k = (0, ci)) (hN : k < S.1) (hst : st = As.reverse ++ .inr (k + 1) :: rest) (hr8 : rest.length ≤ 8) (hR : zfit R nL2 d2) (hf : cells ≤ R.cells ∧ slots ≤ R.slots)
    (kk : ∀ mu2, post mu2 → zG own nm cc nL ret R mc ms Ph (pc + 3) L rest S mu2 cells slots) : zG own nm cc nL ret R mc ms Ph pc L st S mu cells slots :=
  zg_callV hM hd hv hm hn hk hN hst hr8 hR hf (Or.inl (fun v S2 mu2 ⟨_, e, _⟩ => by rw [e])) (fun v S2 mu2 ⟨e1, e2, h⟩ => by subst e1; subst e2; exact kk mu2 h)
theorem zg_callSi {ix n : Nat} {post : Int32 → zU → Prop} (hM : zM y cc2 nL2 ret2 d2 0 0 As S mu (zPi S post)) (hd : decode cc pc = .ok (.invokestatic ix, 3)) (hv : zct y cc2 nL2 ret2 n) (hm : Cond.methodLink own ix y ∈ zwd) (hn : As.length = n) (hst : st = As.reverse ++ rest) (hr8 : rest.length ≤ 8) (hR : zfit R nL2 d2) (hf : cells ≤ R.cells ∧ slots ≤ R.slots)
    (kk : ∀ r mu2, post r mu2 → zG own nm cc nL ret R mc ms Ph (pc + 3) L (.inl r :: rest) S mu2 cells slots) : zG own nm cc nL ret R mc ms Ph pc L st S mu cells slots :=
  zg_callS hM hd hv hm hn hst hr8 hR hf (Or.inl (fun v S2 mu2 ⟨r, _, e, _⟩ => by rw [e])) (fun v S2 mu2 ⟨r, e1, e2, h⟩ => by subst e1; subst e2; exact kk r mu2 h)
theorem zg_callSNi {ix n : Nat} {host : String} {post : Int32 → zU → Prop} (hM : zM y cc2 nL2 ret2 d2 0 0 As S mu (zPi S post)) (hd : decode cc pc = .ok (.invokestatic ix, 3)) (hv : zct y cc2 nL2 ret2 n) (hm : ∀ s : State, zX s → va_Nw (.methodLinkNest own ix y host) s) (hn : As.length = n) (hst : st = As.reverse ++ rest) (hr8 : rest.length ≤ 8) (hR : zfit R nL2 d2) (hf : cells ≤ R.cells ∧ slots ≤ R.slots)
    (kk : ∀ r mu2, post r mu2 → zG own nm cc nL ret R mc ms Ph (pc + 3) L (.inl r :: rest) S mu2 cells slots) : zG own nm cc nL ret R mc ms Ph pc L st S mu cells slots :=
  zg_callSN hM hd hv hm hn hst hr8 hR hf (Or.inl (fun v S2 mu2 ⟨r, _, e, _⟩ => by rw [e])) (fun v S2 mu2 ⟨r, e1, e2, h⟩ => by subst e1; subst e2; exact kk r mu2 h)
/-- a contract's end is taken wider -/
theorem zG.imp {Ph2 : Option zV → zS → zU → Prop} (hi : ∀ v S2 mu2, Ph v S2 mu2 → Ph2 v S2 mu2) (k : zG own nm cc nL ret R mc ms Ph pc L st S mu cells slots) : zG own nm cc nL ret R mc ms Ph2 pc L st S mu cells slots := by
  intro l p e s m args below meth c D cs ad0 N0 A h ad H locs ls ho hw hl T hT X
  obtain ⟨t, a1, o, b1, b2, ⟨v, S', mu', ad', c1, c2, c3⟩, b4⟩ := k l p e s m args below meth c D cs ad0 N0 A h ad H locs ls ho hw hl T hT X
  exact ⟨t, a1, o, b1, b2, ⟨v, S', mu', ad', c1, hi _ _ _ c2, c3⟩, b4⟩
theorem zM.imp {d : Nat} {as : List zV} {Ph2 : Option zV → zS → zU → Prop} (hi : ∀ v S2 mu2, Ph v S2 mu2 → Ph2 v S2 mu2) (k : zM y cc2 nL2 ret2 d mc ms as S mu Ph) : zM y cc2 nL2 ret2 d mc ms as S mu Ph2 := by
  intro l D cs ad sz p e ha hc hk s m args below hf hfit hheap happ
  obtain ⟨n, o, h1, h2, h3, ⟨v, S', mu', ad', c1, c2, c3⟩, h4⟩ := k l D cs ad sz p e ha hc hk s m args below hf hfit hheap happ
  exact ⟨n, o, h1, h2, h3, ⟨v, S', mu', ad', c1, hi _ _ _ c2, c3⟩, h4⟩
end ZC
