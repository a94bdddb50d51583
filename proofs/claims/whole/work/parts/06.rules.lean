section ZG
variable {own nm : String} {cc : ByteArray} {nL : Nat} {ret : Option FieldType} {R : Room} {mc ms : Nat} {Ph : Option zV → zS → zU → Prop} {pc : Nat} {L : List (Option zV)} {st : List zV} {S : zS} {mu : zU} {cells slots : Nat}
theorem zg_iconst {n : Int} {v : Int32} (hd : decode cc pc = .ok (.iconst n, 1)) (hv : Int32.ofInt n = v) (k : zG own nm cc nL ret R mc ms Ph (pc + 1) L (.inl v :: st) S mu cells slots) : zG own nm cc nL ret R mc ms Ph pc L st S mu cells slots := by
  intro l p e s m args below meth c D cs ad0 N0 A h ad H locs ls ho hw hl
  exact lv_iconst h.1 h.2.1 hd hv (k l p e s m args below meth c D cs ad0 N0 A h ad H locs ls ho hw hl)
theorem zg_bipush {n : Int} {v : Int32} (hd : decode cc pc = .ok (.bipush n, 2)) (hv : (Int8.ofInt n).toInt32 = v) (k : zG own nm cc nL ret R mc ms Ph (pc + 2) L (.inl v :: st) S mu cells slots) : zG own nm cc nL ret R mc ms Ph pc L st S mu cells slots := by
  intro l p e s m args below meth c D cs ad0 N0 A h ad H locs ls ho hw hl
  exact lv_bipush h.1 h.2.1 hd hv (k l p e s m args below meth c D cs ad0 N0 A h ad H locs ls ho hw hl)
theorem zg_sipush {n : Int} {v : Int32} (hd : decode cc pc = .ok (.sipush n, 3)) (hv : (Int16.ofInt n).toInt32 = v) (k : zG own nm cc nL ret R mc ms Ph (pc + 3) L (.inl v :: st) S mu cells slots) : zG own nm cc nL ret R mc ms Ph pc L st S mu cells slots := by
  intro l p e s m args below meth c D cs ad0 N0 A h ad H locs ls ho hw hl
  exact lv_sipush h.1 h.2.1 hd hv (k l p e s m args below meth c D cs ad0 N0 A h ad H locs ls ho hw hl)
theorem zg_iload_n {q : Fin 4} {i : Nat} {x : Int32} (hd : decode cc pc = .ok (.iload_n q, 1)) (hi : (q : Nat) = i) (hL : L[i]? = some (some (.inl x))) (k : zG own nm cc nL ret R mc ms Ph (pc + 1) L (.inl x :: st) S mu cells slots) : zG own nm cc nL ret R mc ms Ph pc L st S mu cells slots := by
  intro l p e s m args below meth c D cs ad0 N0 A h ad H locs ls ho hw hl
  exact lv_iload_n h.1 h.2.1 hd hi (hl.2.2.2 i (.inl x) hL) (k l p e s m args below meth c D cs ad0 N0 A h ad H locs ls ho hw hl)
theorem zg_iload {i : Nat} {x : Int32} (hd : decode cc pc = .ok (.iload i, 2)) (hL : L[i]? = some (some (.inl x))) (k : zG own nm cc nL ret R mc ms Ph (pc + 2) L (.inl x :: st) S mu cells slots) : zG own nm cc nL ret R mc ms Ph pc L st S mu cells slots := by
  intro l p e s m args below meth c D cs ad0 N0 A h ad H locs ls ho hw hl
  exact lv_iload h.1 h.2.1 hd (hl.2.2.2 i (.inl x) hL) (k l p e s m args below meth c D cs ad0 N0 A h ad H locs ls ho hw hl)
theorem zg_aload_n {q : Fin 4} {i x : Nat} (hd : decode cc pc = .ok (.aload_n q, 1)) (hi : (q : Nat) = i) (hL : L[i]? = some (some (.inr (x + 1)))) (k : zG own nm cc nL ret R mc ms Ph (pc + 1) L (.inr (x + 1) :: st) S mu cells slots) : zG own nm cc nL ret R mc ms Ph pc L st S mu cells slots := by
  intro l p e s m args below meth c D cs ad0 N0 A h ad H locs ls ho hw hl
  exact lv_aload_n h.1 h.2.1 hd hi (hl.2.2.2 i (.inr (x + 1)) hL) (k l p e s m args below meth c D cs ad0 N0 A h ad H locs ls ho hw hl)
theorem zg_aload {i x : Nat} (hd : decode cc pc = .ok (.aload i, 2)) (hL : L[i]? = some (some (.inr (x + 1)))) (k : zG own nm cc nL ret R mc ms Ph (pc + 2) L (.inr (x + 1) :: st) S mu cells slots) : zG own nm cc nL ret R mc ms Ph pc L st S mu cells slots := by
  intro l p e s m args below meth c D cs ad0 N0 A h ad H locs ls ho hw hl
  exact lv_aload h.1 h.2.1 hd (hl.2.2.2 i (.inr (x + 1)) hL) (k l p e s m args below meth c D cs ad0 N0 A h ad H locs ls ho hw hl)
theorem zg_istore_n {q : Fin 4} {i : Nat} {x : Int32} {L2 : List (Option zV)} (hd : decode cc pc = .ok (.istore_n q, 1)) (hi : (q : Nat) = i) (hn : i < nL) (hL : L.set i (some (.inl x)) = L2) (k : zG own nm cc nL ret R mc ms Ph (pc + 1) L2 st S mu cells slots) : zG own nm cc nL ret R mc ms Ph pc L (.inl x :: st) S mu cells slots := by
  intro l p e s m args below meth c D cs ad0 N0 A h ad H locs ls ho hw hl
  subst hL
  exact lv_istore_n h.1 h.2.1 hd hi (zLs_has hl) hn rfl (fun ls2 h2 => (k l p e s m args below meth c D cs ad0 N0 A h ad H locs ls2 ho hw (zLs_of (x := .inl x) hl hn rfl h2)))
theorem zg_istore {i : Nat} {x : Int32} {L2 : List (Option zV)} (hd : decode cc pc = .ok (.istore i, 2)) (hn : i < nL) (hL : L.set i (some (.inl x)) = L2) (k : zG own nm cc nL ret R mc ms Ph (pc + 2) L2 st S mu cells slots) : zG own nm cc nL ret R mc ms Ph pc L (.inl x :: st) S mu cells slots := by
  intro l p e s m args below meth c D cs ad0 N0 A h ad H locs ls ho hw hl
  subst hL
  exact lv_istore h.1 h.2.1 hd (zLs_has hl) hn rfl (fun ls2 h2 => (k l p e s m args below meth c D cs ad0 N0 A h ad H locs ls2 ho hw (zLs_of (x := .inl x) hl hn rfl h2)))
theorem zg_astore_n {q : Fin 4} {i : Nat} {x : Nat} {L2 : List (Option zV)} (hd : decode cc pc = .ok (.astore_n q, 1)) (hi : (q : Nat) = i) (hn : i < nL) (hL : L.set i (some (.inr (x + 1))) = L2) (k : zG own nm cc nL ret R mc ms Ph (pc + 1) L2 st S mu cells slots) : zG own nm cc nL ret R mc ms Ph pc L (.inr (x + 1) :: st) S mu cells slots := by
  intro l p e s m args below meth c D cs ad0 N0 A h ad H locs ls ho hw hl
  subst hL
  exact lv_astore_n h.1 h.2.1 hd hi (zLs_has hl) hn rfl (fun ls2 h2 => (k l p e s m args below meth c D cs ad0 N0 A h ad H locs ls2 ho hw (zLs_of (x := .inr (x + 1)) hl hn rfl h2)))
theorem zg_astore {i : Nat} {x : Nat} {L2 : List (Option zV)} (hd : decode cc pc = .ok (.astore i, 2)) (hn : i < nL) (hL : L.set i (some (.inr (x + 1))) = L2) (k : zG own nm cc nL ret R mc ms Ph (pc + 2) L2 st S mu cells slots) : zG own nm cc nL ret R mc ms Ph pc L (.inr (x + 1) :: st) S mu cells slots := by
  intro l p e s m args below meth c D cs ad0 N0 A h ad H locs ls ho hw hl
  subst hL
  exact lv_astore h.1 h.2.1 hd (zLs_has hl) hn rfl (fun ls2 h2 => (k l p e s m args below meth c D cs ad0 N0 A h ad H locs ls2 ho hw (zLs_of (x := .inr (x + 1)) hl hn rfl h2)))
theorem zg_iinc {i : Nat} {n : Int} {x v : Int32} {L2 : List (Option zV)} (hd : decode cc pc = .ok (.iinc i n, 3)) (hn : i < nL) (hx : L[i]? = some (some (.inl x))) (hv : x + Int32.ofInt n = v) (hL : L.set i (some (.inl v)) = L2) (k : zG own nm cc nL ret R mc ms Ph (pc + 3) L2 st S mu cells slots) : zG own nm cc nL ret R mc ms Ph pc L st S mu cells slots := by
  intro l p e s m args below meth c D cs ad0 N0 A h ad H locs ls ho hw hl
  subst hL
  obtain ⟨kx, hkx⟩ := List.getElem?_of_mem (zlv_mem (ad := ad) (L := L) (q := (i, .int x)).mpr ⟨.inl x, hx, rfl⟩)
  exact lv_iinc h.1 h.2.1 hd (zLs_has hl) hkx hv hn rfl (fun ls2 h2 => (k l p e s m args below meth c D cs ad0 N0 A h ad H locs ls2 ho hw (zLs_of (x := .inl v) hl hn rfl h2)))
theorem zg_iadd {x y : Int32} (hd : decode cc pc = .ok (.iadd, 1)) (k : zG own nm cc nL ret R mc ms Ph (pc + 1) L (.inl (x + y) :: st) S mu cells slots) : zG own nm cc nL ret R mc ms Ph pc L (.inl y :: .inl x :: st) S mu cells slots := by
  intro l p e s m args below meth c D cs ad0 N0 A h ad H locs ls ho hw hl
  exact lv_iadd h.1 h.2.1 hd (k l p e s m args below meth c D cs ad0 N0 A h ad H locs ls ho hw hl)
theorem zg_isub {x y : Int32} (hd : decode cc pc = .ok (.isub, 1)) (k : zG own nm cc nL ret R mc ms Ph (pc + 1) L (.inl (x - y) :: st) S mu cells slots) : zG own nm cc nL ret R mc ms Ph pc L (.inl y :: .inl x :: st) S mu cells slots := by
  intro l p e s m args below meth c D cs ad0 N0 A h ad H locs ls ho hw hl
  exact lv_isub h.1 h.2.1 hd (k l p e s m args below meth c D cs ad0 N0 A h ad H locs ls ho hw hl)
theorem zg_imul {x y : Int32} (hd : decode cc pc = .ok (.imul, 1)) (k : zG own nm cc nL ret R mc ms Ph (pc + 1) L (.inl (x * y) :: st) S mu cells slots) : zG own nm cc nL ret R mc ms Ph pc L (.inl y :: .inl x :: st) S mu cells slots := by
  intro l p e s m args below meth c D cs ad0 N0 A h ad H locs ls ho hw hl
  exact lv_imul h.1 h.2.1 hd (k l p e s m args below meth c D cs ad0 N0 A h ad H locs ls ho hw hl)
theorem zg_iand {x y : Int32} (hd : decode cc pc = .ok (.iand, 1)) (k : zG own nm cc nL ret R mc ms Ph (pc + 1) L (.inl (x &&& y) :: st) S mu cells slots) : zG own nm cc nL ret R mc ms Ph pc L (.inl y :: .inl x :: st) S mu cells slots := by
  intro l p e s m args below meth c D cs ad0 N0 A h ad H locs ls ho hw hl
  exact lv_iand h.1 h.2.1 hd (k l p e s m args below meth c D cs ad0 N0 A h ad H locs ls ho hw hl)
theorem zg_ixor {x y : Int32} (hd : decode cc pc = .ok (.ixor, 1)) (k : zG own nm cc nL ret R mc ms Ph (pc + 1) L (.inl (x ^^^ y) :: st) S mu cells slots) : zG own nm cc nL ret R mc ms Ph pc L (.inl y :: .inl x :: st) S mu cells slots := by
  intro l p e s m args below meth c D cs ad0 N0 A h ad H locs ls ho hw hl
  exact lv_ixor h.1 h.2.1 hd (k l p e s m args below meth c D cs ad0 N0 A h ad H locs ls ho hw hl)
theorem zg_idiv {x y : Int32} (hd : decode cc pc = .ok (.idiv, 1)) (hne : ¬ y = 0) (k : zG own nm cc nL ret R mc ms Ph (pc + 1) L (.inl (x / y) :: st) S mu cells slots) : zG own nm cc nL ret R mc ms Ph pc L (.inl y :: .inl x :: st) S mu cells slots := by
  intro l p e s m args below meth c D cs ad0 N0 A h ad H locs ls ho hw hl
  exact lv_idiv h.1 h.2.1 hd hne (k l p e s m args below meth c D cs ad0 N0 A h ad H locs ls ho hw hl)
theorem zg_irem {x y : Int32} (hd : decode cc pc = .ok (.irem, 1)) (hne : ¬ y = 0) (k : zG own nm cc nL ret R mc ms Ph (pc + 1) L (.inl (x - x / y * y) :: st) S mu cells slots) : zG own nm cc nL ret R mc ms Ph pc L (.inl y :: .inl x :: st) S mu cells slots := by
  intro l p e s m args below meth c D cs ad0 N0 A h ad H locs ls ho hw hl
  exact lv_irem h.1 h.2.1 hd hne (k l p e s m args below meth c D cs ad0 N0 A h ad H locs ls ho hw hl)
theorem zg_dup {x : zV} (hd : decode cc pc = .ok (.dup, 1)) (k : zG own nm cc nL ret R mc ms Ph (pc + 1) L (x :: x :: st) S mu cells slots) : zG own nm cc nL ret R mc ms Ph pc L (x :: st) S mu cells slots := by
  intro l p e s m args below meth c D cs ad0 N0 A h ad H locs ls ho hw hl
  exact lv_dup h.1 h.2.1 hd (zr_cat ad x) (k l p e s m args below meth c D cs ad0 N0 A h ad H locs ls ho hw hl)
theorem zg_pop {x : zV} (hd : decode cc pc = .ok (.pop, 1)) (k : zG own nm cc nL ret R mc ms Ph (pc + 1) L st S mu cells slots) : zG own nm cc nL ret R mc ms Ph pc L (x :: st) S mu cells slots := by
  intro l p e s m args below meth c D cs ad0 N0 A h ad H locs ls ho hw hl
  exact lv_pop h.1 h.2.1 hd (zr_cat ad x) (k l p e s m args below meth c D cs ad0 N0 A h ad H locs ls ho hw hl)
theorem zg_dup2 {x y : zV} (hd : decode cc pc = .ok (.dup2, 1)) (k : zG own nm cc nL ret R mc ms Ph (pc + 1) L (x :: y :: x :: y :: st) S mu cells slots) : zG own nm cc nL ret R mc ms Ph pc L (x :: y :: st) S mu cells slots := by
  intro l p e s m args below meth c D cs ad0 N0 A h ad H locs ls ho hw hl
  exact lv_dup2_11 h.1 h.2.1 hd (zr_cat ad x) (zr_cat ad y) (k l p e s m args below meth c D cs ad0 N0 A h ad H locs ls ho hw hl)
theorem zg_if_eq {x : Int32} {off : Int} {tgt : Nat} (hd : decode cc pc = .ok (.ifCond .eq off, 3)) (ht : (pc : Int) + off = (tgt : Int)) (kt : x = 0 → zG own nm cc nL ret R mc ms Ph tgt L st S mu cells slots) (kf : ¬ x = 0 → zG own nm cc nL ret R mc ms Ph (pc + 3) L st S mu cells slots) : zG own nm cc nL ret R mc ms Ph pc L (.inl x :: st) S mu cells slots := by
  intro l p e s m args below meth c D cs ad0 N0 A h ad H locs ls ho hw hl
  exact lv_if_eq h.1 h.2.1 hd ht (fun q => kt q l p e s m args below meth c D cs ad0 N0 A h ad H locs ls ho hw hl) (fun q => kf q l p e s m args below meth c D cs ad0 N0 A h ad H locs ls ho hw hl)
theorem zg_icmp_eq {x y : Int32} {off : Int} {tgt : Nat} (hd : decode cc pc = .ok (.if_icmp .eq off, 3)) (ht : (pc : Int) + off = (tgt : Int)) (kt : x = y → zG own nm cc nL ret R mc ms Ph tgt L st S mu cells slots) (kf : ¬ x = y → zG own nm cc nL ret R mc ms Ph (pc + 3) L st S mu cells slots) : zG own nm cc nL ret R mc ms Ph pc L (.inl y :: .inl x :: st) S mu cells slots := by
  intro l p e s m args below meth c D cs ad0 N0 A h ad H locs ls ho hw hl
  exact lv_icmp_eq h.1 h.2.1 hd ht (fun q => kt q l p e s m args below meth c D cs ad0 N0 A h ad H locs ls ho hw hl) (fun q => kf q l p e s m args below meth c D cs ad0 N0 A h ad H locs ls ho hw hl)
theorem zg_if_ne {x : Int32} {off : Int} {tgt : Nat} (hd : decode cc pc = .ok (.ifCond .ne off, 3)) (ht : (pc : Int) + off = (tgt : Int)) (kt : ¬ x = 0 → zG own nm cc nL ret R mc ms Ph tgt L st S mu cells slots) (kf : x = 0 → zG own nm cc nL ret R mc ms Ph (pc + 3) L st S mu cells slots) : zG own nm cc nL ret R mc ms Ph pc L (.inl x :: st) S mu cells slots := by
  intro l p e s m args below meth c D cs ad0 N0 A h ad H locs ls ho hw hl
  exact lv_if_ne h.1 h.2.1 hd ht (fun q => kt q l p e s m args below meth c D cs ad0 N0 A h ad H locs ls ho hw hl) (fun q => kf q l p e s m args below meth c D cs ad0 N0 A h ad H locs ls ho hw hl)
theorem zg_icmp_ne {x y : Int32} {off : Int} {tgt : Nat} (hd : decode cc pc = .ok (.if_icmp .ne off, 3)) (ht : (pc : Int) + off = (tgt : Int)) (kt : ¬ x = y → zG own nm cc nL ret R mc ms Ph tgt L st S mu cells slots) (kf : x = y → zG own nm cc nL ret R mc ms Ph (pc + 3) L st S mu cells slots) : zG own nm cc nL ret R mc ms Ph pc L (.inl y :: .inl x :: st) S mu cells slots := by
  intro l p e s m args below meth c D cs ad0 N0 A h ad H locs ls ho hw hl
  exact lv_icmp_ne h.1 h.2.1 hd ht (fun q => kt q l p e s m args below meth c D cs ad0 N0 A h ad H locs ls ho hw hl) (fun q => kf q l p e s m args below meth c D cs ad0 N0 A h ad H locs ls ho hw hl)
theorem zg_if_lt {x : Int32} {off : Int} {tgt : Nat} (hd : decode cc pc = .ok (.ifCond .lt off, 3)) (ht : (pc : Int) + off = (tgt : Int)) (kt : x < 0 → zG own nm cc nL ret R mc ms Ph tgt L st S mu cells slots) (kf : ¬ x < 0 → zG own nm cc nL ret R mc ms Ph (pc + 3) L st S mu cells slots) : zG own nm cc nL ret R mc ms Ph pc L (.inl x :: st) S mu cells slots := by
  intro l p e s m args below meth c D cs ad0 N0 A h ad H locs ls ho hw hl
  exact lv_if_lt h.1 h.2.1 hd ht (fun q => kt q l p e s m args below meth c D cs ad0 N0 A h ad H locs ls ho hw hl) (fun q => kf q l p e s m args below meth c D cs ad0 N0 A h ad H locs ls ho hw hl)
theorem zg_icmp_lt {x y : Int32} {off : Int} {tgt : Nat} (hd : decode cc pc = .ok (.if_icmp .lt off, 3)) (ht : (pc : Int) + off = (tgt : Int)) (kt : x < y → zG own nm cc nL ret R mc ms Ph tgt L st S mu cells slots) (kf : ¬ x < y → zG own nm cc nL ret R mc ms Ph (pc + 3) L st S mu cells slots) : zG own nm cc nL ret R mc ms Ph pc L (.inl y :: .inl x :: st) S mu cells slots := by
  intro l p e s m args below meth c D cs ad0 N0 A h ad H locs ls ho hw hl
  exact lv_icmp_lt h.1 h.2.1 hd ht (fun q => kt q l p e s m args below meth c D cs ad0 N0 A h ad H locs ls ho hw hl) (fun q => kf q l p e s m args below meth c D cs ad0 N0 A h ad H locs ls ho hw hl)
theorem zg_if_ge {x : Int32} {off : Int} {tgt : Nat} (hd : decode cc pc = .ok (.ifCond .ge off, 3)) (ht : (pc : Int) + off = (tgt : Int)) (kt : 0 ≤ x → zG own nm cc nL ret R mc ms Ph tgt L st S mu cells slots) (kf : ¬ 0 ≤ x → zG own nm cc nL ret R mc ms Ph (pc + 3) L st S mu cells slots) : zG own nm cc nL ret R mc ms Ph pc L (.inl x :: st) S mu cells slots := by
  intro l p e s m args below meth c D cs ad0 N0 A h ad H locs ls ho hw hl
  exact lv_if_ge h.1 h.2.1 hd ht (fun q => kt q l p e s m args below meth c D cs ad0 N0 A h ad H locs ls ho hw hl) (fun q => kf q l p e s m args below meth c D cs ad0 N0 A h ad H locs ls ho hw hl)
theorem zg_icmp_ge {x y : Int32} {off : Int} {tgt : Nat} (hd : decode cc pc = .ok (.if_icmp .ge off, 3)) (ht : (pc : Int) + off = (tgt : Int)) (kt : y ≤ x → zG own nm cc nL ret R mc ms Ph tgt L st S mu cells slots) (kf : ¬ y ≤ x → zG own nm cc nL ret R mc ms Ph (pc + 3) L st S mu cells slots) : zG own nm cc nL ret R mc ms Ph pc L (.inl y :: .inl x :: st) S mu cells slots := by
  intro l p e s m args below meth c D cs ad0 N0 A h ad H locs ls ho hw hl
  exact lv_icmp_ge h.1 h.2.1 hd ht (fun q => kt q l p e s m args below meth c D cs ad0 N0 A h ad H locs ls ho hw hl) (fun q => kf q l p e s m args below meth c D cs ad0 N0 A h ad H locs ls ho hw hl)
theorem zg_if_gt {x : Int32} {off : Int} {tgt : Nat} (hd : decode cc pc = .ok (.ifCond .gt off, 3)) (ht : (pc : Int) + off = (tgt : Int)) (kt : 0 < x → zG own nm cc nL ret R mc ms Ph tgt L st S mu cells slots) (kf : ¬ 0 < x → zG own nm cc nL ret R mc ms Ph (pc + 3) L st S mu cells slots) : zG own nm cc nL ret R mc ms Ph pc L (.inl x :: st) S mu cells slots := by
  intro l p e s m args below meth c D cs ad0 N0 A h ad H locs ls ho hw hl
  exact lv_if_gt h.1 h.2.1 hd ht (fun q => kt q l p e s m args below meth c D cs ad0 N0 A h ad H locs ls ho hw hl) (fun q => kf q l p e s m args below meth c D cs ad0 N0 A h ad H locs ls ho hw hl)
theorem zg_icmp_gt {x y : Int32} {off : Int} {tgt : Nat} (hd : decode cc pc = .ok (.if_icmp .gt off, 3)) (ht : (pc : Int) + off = (tgt : Int)) (kt : y < x → zG own nm cc nL ret R mc ms Ph tgt L st S mu cells slots) (kf : ¬ y < x → zG own nm cc nL ret R mc ms Ph (pc + 3) L st S mu cells slots) : zG own nm cc nL ret R mc ms Ph pc L (.inl y :: .inl x :: st) S mu cells slots := by
  intro l p e s m args below meth c D cs ad0 N0 A h ad H locs ls ho hw hl
  exact lv_icmp_gt h.1 h.2.1 hd ht (fun q => kt q l p e s m args below meth c D cs ad0 N0 A h ad H locs ls ho hw hl) (fun q => kf q l p e s m args below meth c D cs ad0 N0 A h ad H locs ls ho hw hl)
theorem zg_if_le {x : Int32} {off : Int} {tgt : Nat} (hd : decode cc pc = .ok (.ifCond .le off, 3)) (ht : (pc : Int) + off = (tgt : Int)) (kt : x ≤ 0 → zG own nm cc nL ret R mc ms Ph tgt L st S mu cells slots) (kf : ¬ x ≤ 0 → zG own nm cc nL ret R mc ms Ph (pc + 3) L st S mu cells slots) : zG own nm cc nL ret R mc ms Ph pc L (.inl x :: st) S mu cells slots := by
  intro l p e s m args below meth c D cs ad0 N0 A h ad H locs ls ho hw hl
  exact lv_if_le h.1 h.2.1 hd ht (fun q => kt q l p e s m args below meth c D cs ad0 N0 A h ad H locs ls ho hw hl) (fun q => kf q l p e s m args below meth c D cs ad0 N0 A h ad H locs ls ho hw hl)
theorem zg_icmp_le {x y : Int32} {off : Int} {tgt : Nat} (hd : decode cc pc = .ok (.if_icmp .le off, 3)) (ht : (pc : Int) + off = (tgt : Int)) (kt : x ≤ y → zG own nm cc nL ret R mc ms Ph tgt L st S mu cells slots) (kf : ¬ x ≤ y → zG own nm cc nL ret R mc ms Ph (pc + 3) L st S mu cells slots) : zG own nm cc nL ret R mc ms Ph pc L (.inl y :: .inl x :: st) S mu cells slots := by
  intro l p e s m args below meth c D cs ad0 N0 A h ad H locs ls ho hw hl
  exact lv_icmp_le h.1 h.2.1 hd ht (fun q => kt q l p e s m args below meth c D cs ad0 N0 A h ad H locs ls ho hw hl) (fun q => kf q l p e s m args below meth c D cs ad0 N0 A h ad H locs ls ho hw hl)
theorem zg_goto {off : Int} {tgt : Nat} (hd : decode cc pc = .ok (.goto off, 3)) (ht : (pc : Int) + off = (tgt : Int)) (k : zG own nm cc nL ret R mc ms Ph tgt L st S mu cells slots) : zG own nm cc nL ret R mc ms Ph pc L st S mu cells slots := by
  intro l p e s m args below meth c D cs ad0 N0 A h ad H locs ls ho hw hl
  exact lv_goto h.1 h.2.1 hd ht (k l p e s m args below meth c D cs ad0 N0 A h ad H locs ls ho hw hl)
theorem zg_lookup {dflt : Int} {ps : Array (Int × Int)} {len : Nat} {x : Int32} {off : Int} {tgt : Nat} (hd : decode cc pc = .ok (.lookupswitch dflt ps, len)) (hp : (ps.toList.zip (ps.toList.drop 1)).all (fun (a, next) => a.1 < next.1) = true) (hf : Op.lookupswitch.offset ps.toList dflt x.toInt = off) (ht : (pc : Int) + off = (tgt : Int)) (k : zG own nm cc nL ret R mc ms Ph tgt L st S mu cells slots) : zG own nm cc nL ret R mc ms Ph pc L (.inl x :: st) S mu cells slots := by
  intro l p e s m args below meth c D cs ad0 N0 A h ad H locs ls ho hw hl
  exact lv_lookup h.1 h.2.1 hd hp hf ht (k l p e s m args below meth c D cs ad0 N0 A h ad H locs ls ho hw hl)
theorem zg_tableOut {dflt lo hi : Int} {offs : Array Int} {len : Nat} {x : Int32} {tgt : Nat} (hd : decode cc pc = .ok (.tableswitch dflt lo hi offs, len)) (hf : x.toInt < lo ∨ hi < x.toInt) (ht : (pc : Int) + dflt = (tgt : Int)) (k : zG own nm cc nL ret R mc ms Ph tgt L st S mu cells slots) : zG own nm cc nL ret R mc ms Ph pc L (.inl x :: st) S mu cells slots := by
  intro l p e s m args below meth c D cs ad0 N0 A h ad H locs ls ho hw hl
  exact lv_tableOut h.1 h.2.1 hd hf ht (k l p e s m args below meth c D cs ad0 N0 A h ad H locs ls ho hw hl)
theorem zg_tableIn {dflt lo hi : Int} {offs : Array Int} {len : Nat} {x : Int32} {off : Int} {tgt : Nat} (hd : decode cc pc = .ok (.tableswitch dflt lo hi offs, len)) (h1 : ¬ x.toInt < lo) (h2 : ¬ hi < x.toInt) (hf : offs[(x.toInt - lo).toNat]? = some off) (ht : (pc : Int) + off = (tgt : Int)) (k : zG own nm cc nL ret R mc ms Ph tgt L st S mu cells slots) : zG own nm cc nL ret R mc ms Ph pc L (.inl x :: st) S mu cells slots := by
  intro l p e s m args below meth c D cs ad0 N0 A h ad H locs ls ho hw hl
  exact lv_tableIn h.1 h.2.1 hd h1 h2 hf ht (k l p e s m args below meth c D cs ad0 N0 A h ad H locs ls ho hw hl)
theorem zg_topi {x : Int32} (k : ∀ y : Int32, y = x → zG own nm cc nL ret R mc ms Ph pc L (.inl y :: st) S mu cells slots) : zG own nm cc nL ret R mc ms Ph pc L (.inl x :: st) S mu cells slots := k x rfl
theorem zg_val {x y : Int32} (e : x = y) (k : zG own nm cc nL ret R mc ms Ph pc L (.inl y :: st) S mu cells slots) : zG own nm cc nL ret R mc ms Ph pc L (.inl x :: st) S mu cells slots := e ▸ k
theorem zg_loc {L2 : List (Option zV)} (e : L = L2) (k : zG own nm cc nL ret R mc ms Ph pc L2 st S mu cells slots) : zG own nm cc nL ret R mc ms Ph pc L st S mu cells slots := e ▸ k
theorem zg_mu {mu2 : zU} (e : mu = mu2) (k : zG own nm cc nL ret R mc ms Ph pc L st S mu2 cells slots) : zG own nm cc nL ret R mc ms Ph pc L st S mu cells slots := e ▸ k
theorem zg_widen {k2 n2 : Nat} (h1 : cells ≤ k2) (h2 : slots ≤ n2) (k : zG own nm cc nL ret R mc ms Ph pc L st S mu k2 n2) : zG own nm cc nL ret R mc ms Ph pc L st S mu cells slots := fun l p e s m args below meth c D cs ad0 N0 A h ad H locs ls ho hw hl => W.widen h1 h2 (k l p e s m args below meth c D cs ad0 N0 A h ad H locs ls ho hw hl)
end ZG
