/-! a method of the JDK's that the machine runs as it is written -/
theorem zM.ofGJ {y : MethodName} {cc : ByteArray} {nL : Nat} {ret : Option FieldType} {d mc ms : Nat} {as : List zV} {S : zS} {mu : zU} {Ph : Option zV → zS → zU → Prop} (hy : plainFor y = true) (hn : as.length ≤ nL)
    (g : zG y.cls y.name cc nL ret (zroom d mc ms) mc ms Ph 0 (as.map some ++ List.replicate (nL - as.length) none) [] S mu 0 0) : zM y cc nL ret d mc ms as S mu Ph := by
  intro l D cs ad sz
  refine va_MetF (cc := cc) (maxL := nL) (ret := ret) hy rfl ?_
  intro p e s m args below meth c s₁ B hml hv
  obtain ⟨rfl, hsz, hP, hD0, hK, hX⟩ := hv
  subst hsz
  have hts := atoms_spec (ws := Cond.code y cc nL ret :: zwd) B.pre
  have hl := lv_entry (as.map (zr ad)) (n := nL) (by rw [zlg]; simpa using hn)
  rw [lg_entry_eq]
  refine g l p e s m _ below meth c D cs ad S.1 _ ⟨B.exec, B.bytes, B.returns, hml, findClass_of_methodNamed B.named, fun w h => hts w (List.mem_cons_of_mem _ h), B.notSynchronized, (name_of_methodNamed B.named B.method).1, fun q h => Or.inr h, hK, hX⟩ ad s.heap [] _ ⟨fun _ _ => rfl, Nat.le_refl _, fun _ => rfl⟩ ⟨hP, hD0.self, va_S.rf⟩ ⟨by simp; omega, hl.1, hl.2.1, fun i v hi => ?_⟩
  rw [zlg]
  have hi' : i < as.length := by
    rcases Nat.lt_or_ge i as.length with q | q
    · exact q
    · rw [List.getElem?_append_right (by simpa using q), List.getElem?_replicate] at hi
      split at hi <;> simp at hi
  rw [List.getElem?_append_left (by simpa using hi')] at hi
  simp only [List.getElem?_map, Option.map_eq_some_iff] at hi
  obtain ⟨a, h1, h2⟩ := hi
  cases h2
  simp only [List.getElem?_toArray]
  rw [List.getElem?_append_left (by simpa using hi')]
  simp [h1]
