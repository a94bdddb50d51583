/-! THE MACHINE OVER INT ROWS: a state is a shape S (how many places, the kind of each, the references) and the ints mu; places are numbers -/
abbrev zV : Type := Int32 ⊕ Nat
abbrev zS : Type := Nat × (Nat → Nat × Nat) × (Nat → Nat → Nat)
abbrev zU : Type := Nat → Nat → Int32
abbrev zC : Type := ClassId × ClassId × ClassId × ClassId
def zr (ad : Nat → Nat) (v : zV) : Value := match v with
  | .inl x => .int x
  | .inr 0 => .null
  | .inr (q + 1) => .ref (ad q)
def zo (ad : Nat → Nat) (r : Nat) : Option Nat := match r with
  | 0 => none
  | q + 1 => some (ad q)
theorem zo_rf (ad : Nat → Nat) (r : Nat) : va_rf (zo ad r) = zr ad (.inr r) := by cases r <;> rfl
theorem zr_cat (ad : Nat → Nat) (v : zV) : (zr ad v).category = 1 := by
  rcases v with x | r
  · rfl
  · cases r <;> rfl
theorem zr_sum (ad : Nat → Nat) (st : List zV) : ((st.map (zr ad)).map fun v => v.category).sum = st.length := by
  induction st with
  | nil => rfl
  | cons a t ih =>
    rw [List.map_cons, List.map_cons, List.sum_cons, ih, zr_cat, List.length_cons]
    omega
def zrefs (ci : Nat) : List Nat := match ci with
  | 0 => [5, 7]
  | 1 => [0, 1, 2, 3, 5, 7]
  | 2 => [0, 2, 4, 5, 7, 8, 9, 10]
  | _ => [0, 1, 2, 3, 4, 6, 7, 8, 9, 11]
def znf (ci : Nat) : Nat := match ci with
  | 0 => 9
  | 1 => 11
  | 2 => 11
  | _ => 14
def zfv (ad : Nat → Nat) (rho : Nat → Nat) (mu : Nat → Int32) (ci j : Nat) : Value := if j ∈ zrefs ci then zr ad (.inr (rho j)) else .int (mu j)
def zfs (ad : Nat → Nat) (rho : Nat → Nat) (mu : Nat → Int32) (ci : Nat) : List Value := (List.range (znf ci)).map (zfv ad rho mu ci)
def zent (cs : zC) (ad : Nat → Nat) (S : zS) (mu : zU) (k : Nat) : va_E := match S.2.1 k with
  | (0, ci) => .inr (ci, zfs ad (S.2.2 k) (mu k) ci)
  | (1, n) => .inl (cs.1, n, .inl (mu k))
  | (2, n) => .inl (cs.2.1, n, .inl (mu k))
  | (3, n) => .inl (cs.2.2.1, n, .inr (.inr (.inr (.inr (fun j => zo ad (S.2.2 k j))))))
  | (_, n) => .inl (cs.2.2.2, n, .inr (.inr (.inr (.inr (fun j => zo ad (S.2.2 k j))))))
def zws (cs : zC) (ad : Nat → Nat) (S : zS) (mu : zU) : va_W := (List.range S.1).map (fun k => (ad k, zent cs ad S mu k))
theorem zws_get (cs : zC) (ad : Nat → Nat) (S : zS) (mu : zU) {k : Nat} (h : k < S.1) : (zws cs ad S mu)[k]? = some (ad k, zent cs ad S mu k) := by
  simp [zws, h]
theorem zws_set {cs : zC} {ad : Nat → Nat} {S S' : zS} {mu mu' : zU} {k : Nat} {e : va_E} (h1 : S'.1 = S.1) (hk : zent cs ad S' mu' k = e) (ho : ∀ q, q ≠ k → zent cs ad S' mu' q = zent cs ad S mu q) : (zws cs ad S mu).set k (ad k, e) = zws cs ad S' mu' := by
  apply List.ext_getElem?
  intro i
  rw [List.getElem?_set]
  by_cases hi : i < S.1
  · by_cases hik : k = i
    · subst hik
      simp [zws, hi, h1, hk]
    · simp [zws, hi, h1, hik, ho i (Ne.symm hik)]
  · by_cases hik : k = i
    · subst hik
      simp [zws, hi, h1]
    · simp [zws, hi, h1, hik]
def zup (mu : zU) (k j : Nat) (x : Int32) : zU := fun q => if q = k then upd (mu q) j x else mu q
def zur (rho : Nat → Nat → Nat) (k j r : Nat) : Nat → Nat → Nat := fun q => if q = k then (fun i => if i = j then r else rho q i) else rho q
theorem zup_s (mu : zU) (k j : Nat) (x : Int32) : zup mu k j x k = upd (mu k) j x := by simp [zup]
theorem zup_n {mu : zU} {k j q : Nat} {x : Int32} (h : q ≠ k) : zup mu k j x q = mu q := by simp [zup, h]
theorem zent_o {cs : zC} {ad : Nat → Nat} {S : zS} {mu : zU} {k ci : Nat} (h : S.2.1 k = (0, ci)) : zent cs ad S mu k = .inr (ci, zfs ad (S.2.2 k) (mu k) ci) := by simp [zent, h]
theorem zent_i {cs : zC} {ad : Nat → Nat} {S : zS} {mu : zU} {k n : Nat} (h : S.2.1 k = (1, n)) : zent cs ad S mu k = .inl (cs.1, n, .inl (mu k)) := by simp [zent, h]
theorem zent_z {cs : zC} {ad : Nat → Nat} {S : zS} {mu : zU} {k n : Nat} (h : S.2.1 k = (2, n)) : zent cs ad S mu k = .inl (cs.2.1, n, .inl (mu k)) := by simp [zent, h]
theorem zent_p {cs : zC} {ad : Nat → Nat} {S : zS} {mu : zU} {k n : Nat} (h : S.2.1 k = (3, n)) : zent cs ad S mu k = .inl (cs.2.2.1, n, .inr (.inr (.inr (.inr (fun j => zo ad (S.2.2 k j)))))) := by simp [zent, h]
theorem zent_t {cs : zC} {ad : Nat → Nat} {S : zS} {mu : zU} {k n : Nat} (h : S.2.1 k = (4, n)) : zent cs ad S mu k = .inl (cs.2.2.2, n, .inr (.inr (.inr (.inr (fun j => zo ad (S.2.2 k j)))))) := by simp [zent, h]
theorem zent_q {cs : zC} {ad : Nat → Nat} {S : zS} {mu mu' : zU} {q : Nat} (h : mu' q = mu q) : zent cs ad S mu' q = zent cs ad S mu q := by simp only [zent, h]
def ztys (cs : zC) : List (ClassId × FieldType) := [(cs.1, .int), (cs.2.1, .boolean), (cs.2.2.1, .object RX0), (cs.2.2.2, .object RX1)]
def zX (s : State) : Prop := va_AO RX0 s ∧ va_AO RX1 s ∧ va_Nw (.methodLinkNest RX1 33 yX0_init RX2) s ∧ va_Nw (.methodLinkNest RX1 117 yX2_isCode RX2) s
/-- what stays fixed in a method's body -/
def zH (own nm : String) (cc : ByteArray) (nL : Nat) (ret : Option FieldType) (p : Program) (s : State) (m : MethodId) (args : Array Value) (meth : Method) (c : Code) (D : va_G) (cs : zC) (A : Nat → Prop) : Prop :=
  p.tables.exec = Jvm.exec ∧ c.code = cc ∧ meth.sig.returnType = ret ∧ c.maxLocals = nL ∧ s.vm.findClass own = some m.cls ∧ (∀ w ∈ zwd, w.before args s = true) ∧ meth.locks = false ∧ meth.name = nm ∧ (∀ q, s.heap.size ≤ q → A q) ∧ va_K D vwCl (ztys cs) s ∧ zX s
def zWd (cs : zC) (ad : Nat → Nat) (S : zS) (mu : zU) (A : Nat → Prop) (D : va_G) (H0 H : Heap) (locs : List Loc) : Prop := va_P D vwCl (zws cs ad S mu) H ∧ va_D A (zws cs ad S mu) ∧ va_S A H0 H locs
def zAg (ad0 ad : Nat → Nat) (N0 : Nat) (S : zS) : Prop := (∀ k, k < N0 → ad k = ad0 k) ∧ N0 ≤ S.1 ∧ (S.1 = N0 → ad = ad0)
def zLs (ad : Nat → Nat) (ls : Array Slot) (nL : Nat) (L : List (Option zV)) : Prop := L.length = nL ∧ ls.size = nL ∧ lv_wf ls ∧ ∀ (i : Nat) (v : zV), L[i]? = some (some v) → ls[i]? = some (.val (zr ad v))
def zQ (D : va_G) (cs : zC) (ad0 : Nat → Nat) (N0 : Nat) (A : Nat → Prop) (Ph : Option zV → zS → zU → Prop) : Array Value → State → Outcome → State → Prop := fun _ st oc t =>
  ∃ (v : Option zV) (S' : zS) (mu' : zU) (ad' : Nat → Nat), oc = .returned (v.map (zr ad')) ∧ Ph v S' mu' ∧ zAg ad0 ad' N0 S' ∧ va_P D vwCl (zws cs ad' S' mu') t.heap ∧ va_D A (zws cs ad' S' mu') ∧ va_F A st t
/-- from this point of the body the method comes to an end with Ph -/
def zG (own nm : String) (cc : ByteArray) (nL : Nat) (ret : Option FieldType) (R : Room) (mc ms : Nat) (Ph : Option zV → zS → zU → Prop) (pc : Nat) (L : List (Option zV)) (st : List zV) (S : zS) (mu : zU) (cells slots : Nat) : Prop :=
  ∀ (l : Launch) (p : Program) (e : Env) (s : State) (m : MethodId) (args : Array Value) (below : List Frame) (meth : Method) (c : Code) (D : va_G) (cs : zC) (ad0 : Nat → Nat) (N0 : Nat) (A : Nat → Prop), zH own nm cc nL ret p s m args meth c D cs A →
    ∀ (ad : Nat → Nat) (H : Heap) (locs : List Loc) (ls : Array Slot), zAg ad0 ad N0 S → zWd cs ad S mu A D s.heap H locs → zLs ad ls nL L →
      W p l e R s m args below meth c H locs cells slots (MQ below (zQ D cs ad0 N0 A Ph) args s mc ms A) (F0 m pc ls (st.map (zr ad)))
def zroom (d mc ms : Nat) : Room := { frames := d, cells := mc, slots := ms, locals := 38 * d }
def zPc (D : va_G) (cs : zC) (ad : Nat → Nat) (S : zS) (mu : zU) (sz : Nat) (U : State) : Prop := U.heap.size = sz ∧ va_P D vwCl (zws cs ad S mu) U.heap ∧ va_D (fun _ => True) (zws cs ad S mu) ∧ va_K D vwCl (ztys cs) U ∧ zX U
/-- a method's contract: called with as at the state (S, mu), it comes back with Ph -/
def zM (y : MethodName) (cc : ByteArray) (nL : Nat) (ret : Option FieldType) (d mc ms : Nat) (as : List zV) (S : zS) (mu : zU) (Ph : Option zV → zS → zU → Prop) : Prop :=
  ∀ (l : Launch) (D : va_G) (cs : zC) (ad : Nat → Nat) (sz : Nat), Met l y (Cond.code y cc nL ret :: zwd) (zroom d mc ms) (va_Pc (as.map (zr ad)) (zPc D cs ad S mu sz)) (zQ D cs ad S.1 (va_A (zws cs ad S mu) sz) Ph) mc ms (va_A (zws cs ad S mu) sz)
def zlv (ad : Nat → Nat) (L : List (Option zV)) : List (Nat × Value) := (List.range L.length).filterMap (fun i => match L[i]? with
  | some (some v) => some (i, zr ad v)
  | _ => none)
theorem zlv_mem {ad : Nat → Nat} {L : List (Option zV)} {q : Nat × Value} : q ∈ zlv ad L ↔ ∃ v : zV, L[q.1]? = some (some v) ∧ q.2 = zr ad v := by
  unfold zlv
  rw [List.mem_filterMap]
  constructor
  · rintro ⟨i, hi, h⟩
    rcases hL : L[i]? with _ | (_ | v)
    · rw [hL] at h; cases h
    · rw [hL] at h; cases h
    · rw [hL] at h
      cases h
      exact ⟨v, hL, rfl⟩
  · rintro ⟨v, h1, h2⟩
    have hlt : q.1 < L.length := (List.getElem?_eq_some_iff.mp h1).1
    refine ⟨q.1, List.mem_range.mpr hlt, ?_⟩
    rw [h1]
    show some (q.1, zr ad v) = some q
    rw [← h2]
theorem zLs_has {ad : Nat → Nat} {ls : Array Slot} {nL : Nat} {L : List (Option zV)} (h : zLs ad ls nL L) : lv_has ls nL (zlv ad L) := by
  refine ⟨h.2.1, h.2.2.1, fun q hq => ?_⟩
  obtain ⟨v, h1, h2⟩ := zlv_mem.mp hq
  rw [h.2.2.2 q.1 v h1, h2]
theorem zLs_of {ad : Nat → Nat} {ls ls' : Array Slot} {nL : Nat} {L : List (Option zV)} {i : Nat} {x : zV} {w : Value} (h : zLs ad ls nL L) (hi : i < nL) (hw : w = zr ad x) (h' : lv_has ls' nL ((i, w) :: (zlv ad L).filter (fun q => !(q.1 == i) && !(q.1 + 1 == i && q.2.category == 2)))) : zLs ad ls' nL (L.set i (some x)) := by
  refine ⟨by rw [List.length_set]; exact h.1, h'.1, h'.2.1, fun j v hj => ?_⟩
  by_cases hij : i = j
  · subst hij
    rw [List.getElem?_set_self (by rw [h.1]; exact hi)] at hj
    cases hj
    have := h'.2.2 (i, w) List.mem_cons_self
    rw [← hw]; exact this
  · rw [List.getElem?_set_ne hij] at hj
    refine h'.2.2 (j, zr ad v) (List.mem_cons_of_mem _ (List.mem_filter.mpr ⟨zlv_mem.mpr ⟨v, hj, rfl⟩, ?_⟩))
    have hne : (j == i) = false := by simpa using fun z => hij z.symm
    simp [hne, zr_cat]
theorem zA_sub {cs : zC} {ad : Nat → Nat} {S : zS} {mu : zU} {A : Nat → Prop} {D : va_G} {H0 H : Heap} {locs : List Loc} (hw : zWd cs ad S mu A D H0 H locs) (hA : ∀ q, H0.size ≤ q → A q) : ∀ q, va_A (zws cs ad S mu) H.size q → A q := by
  intro q h
  rcases h with ⟨k, e, h⟩ | h
  · exact hw.2.1.2 k (q, e) h
  · exact hA q (Nat.le_trans hw.2.2.1 h)
theorem zX_warm {s U : State} (hW : s.WarmedH U.vm) (h : zX s) : zX U := ⟨h.1.moved hW.alike, h.2.1.moved hW.alike, va_Nw.warmM hW h.2.2.1, va_Nw.warmM hW h.2.2.2⟩
theorem zX_same {s U : State} (hW : s.vm = U.vm) (h : zX s) : zX U := ⟨h.1.moved (by rw [hW]; exact Vm.Alike.refl _), h.2.1.moved (by rw [hW]; exact Vm.Alike.refl _), va_Nw.same rfl hW h.2.2.1, va_Nw.same rfl hW h.2.2.2⟩
theorem zlg (ad : Nat → Nat) (as : List zV) : lg_sl (as.map (zr ad)) = as.map (fun v => Slot.val (zr ad v)) := by
  induction as with
  | nil => rfl
  | cons a t ih =>
    have : lg_sl ((a :: t).map (zr ad)) = (if (zr ad a).category = 2 then [Slot.val (zr ad a), .second] else [.val (zr ad a)]) ++ lg_sl (t.map (zr ad)) := rfl
    rw [this, ih, zr_cat]
    rfl
theorem zM.ofG {y : MethodName} {cc : ByteArray} {nL : Nat} {ret : Option FieldType} {d mc ms : Nat} {as : List zV} {S : zS} {mu : zU} {Ph : Option zV → zS → zU → Prop} (hy : plainName y.cls = true) (hn : as.length ≤ nL)
    (g : zG y.cls y.name cc nL ret (zroom d mc ms) mc ms Ph 0 (as.map some ++ List.replicate (nL - as.length) none) [] S mu 0 0) : zM y cc nL ret d mc ms as S mu Ph := by
  intro l D cs ad sz
  refine Met.ofW (cc := cc) (maxL := nL) (ret := ret) hy rfl ?_
  intro p e s m args below meth c s₁ B hml hv
  obtain ⟨rfl, hsz, hP, hD0, hK, hX⟩ := hv
  subst hsz
  have hts := atoms_spec (ws := Cond.code y cc nL ret :: zwd) B.pre
  have hl := lv_entry (as.map (zr ad)) (n := nL) (by rw [zlg]; simpa using hn)
  rw [lg_entry_eq]
  refine g l p e s m _ below meth c D cs ad S.1 _ ⟨B.exec, B.bytes, B.returns, hml, findClass_of_methodNamed B.named, fun w h => hts w (List.mem_cons_of_mem _ h), B.notSynchronized, (name_of_methodNamed B.named B.method).1, fun q h => Or.inr h, hK, hX⟩ ad s.heap [] _ ⟨fun _ _ => rfl, Nat.le_refl _, fun _ => rfl⟩ ⟨hP, hD0.self, va_S.rf⟩ ⟨by simp; omega, hl.1, hl.2.1, fun i v hi => ?_⟩
  rw [zlg]
  have hi' : i < as.length := by
    rcases Nat.lt_or_ge i as.length with q | q
    · exact q
    · rw [List.getElem?_append_right (by simpa using q), List.getElem?_replicate] at hi
      split at hi <;> simp at hi
  rw [List.getElem?_append_left (by simpa using hi')] at hi
  simp only [List.getElem?_map, Option.map_eq_some_iff] at hi
  obtain ⟨a, h1, h2⟩ := hi
  cases h2
  simp only [List.getElem?_toArray]
  rw [List.getElem?_append_left (by simpa using hi')]
  simp [h1]
