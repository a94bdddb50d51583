/-! fields, arrays, ends and calls of the machine over int rows -/
def zrt (t : FieldType) : Bool := match t with
  | .object _ => true
  | .array _ => true
  | _ => false
theorem zrt_ok {t : FieldType} (h : zrt t = true) (ad : Nat → Nat) (r : Nat) : narrow t (zr ad (.inr r)) = zr ad (.inr r) ∧ fits t (zr ad (.inr r)) = true ∧ defaultValue t = .null := by
  cases t <;> first | (cases h; done) | (cases r <;> exact ⟨rfl, rfl, rfl⟩)
theorem zfs_get {ad : Nat → Nat} {rho : Nat → Nat} {m : Nat → Int32} {ci j : Nat} (h : j < znf ci) : (zfs ad rho m ci)[j]? = some (zfv ad rho m ci j) := by simp [zfs, h]
theorem zfs_len {ad : Nat → Nat} {rho : Nat → Nat} {m : Nat → Int32} {ci : Nat} : (zfs ad rho m ci).length = znf ci := by simp [zfs]
theorem zfs_set {ad : Nat → Nat} {rho : Nat → Nat} {m : Nat → Int32} {ci j : Nat} {x : Int32} (hj : j ∉ zrefs ci) : zfs ad rho (upd m j x) ci = (zfs ad rho m ci).set j (.int x) := by
  apply List.ext_getElem?
  intro i
  rw [List.getElem?_set]
  by_cases hi : i < znf ci
  · by_cases hij : j = i
    · subst hij
      simp [zfs, zfv, hi, hj, upd]
    · have hne : ¬ i = j := fun z => hij z.symm
      simp [zfs, zfv, hi, hij, hne, upd]
  · by_cases hij : j = i
    · subst hij
      simp [zfs, hi]
    · simp [zfs, hi, hij]
theorem zfs_setR {ad : Nat → Nat} {rho : Nat → Nat} {m : Nat → Int32} {ci j r : Nat} (hj : j ∈ zrefs ci) : zfs ad (fun i => if i = j then r else rho i) m ci = (zfs ad rho m ci).set j (zr ad (.inr r)) := by
  apply List.ext_getElem?
  intro i
  rw [List.getElem?_set]
  by_cases hi : i < znf ci
  · by_cases hij : j = i
    · subst hij
      simp [zfs, zfv, hi, hj]
    · have hne : ¬ i = j := fun z => hij z.symm
      simp [zfs, zfv, hi, hij, hne]
  · by_cases hij : j = i
    · subst hij
      simp [zfs, hi]
    · simp [zfs, hi, hij]
/-- what is known of the four classes -/
theorem zck {ci : Nat} {C : String} {T : u_T} {N : Nat} (h : vwCl[ci]? = some (C, T, N)) : (∀ w ∈ u_ws C T N, w ∈ zwd) ∧ znf ci = N ∧ (∀ a, a < N → ∀ b, b < N → a ≠ b → (T a).2.1 ≠ (T b).2.1) ∧ (∀ j, j < N → (T j).1 = C) ∧ ∃ ty : Nat → FieldType, (∀ k, k < N → parseFieldDescriptor (T k).2.2.1 = some (ty k)) ∧ ∀ j, j < N → if j ∈ zrefs ci then zrt (ty j) = true ∧ (T j).2.2.2 = true else ty j = .int ∧ (T j).2.2.2 = false := by
  match ci, h with
  | 0, h => cases h; exact ⟨kf0, rfl, nmX0, by decide +kernel, tyX0, tyX0_ok, by decide +kernel⟩
  | 1, h => cases h; exact ⟨kf1, rfl, nmX1, by decide +kernel, tyX1, tyX1_ok, by decide +kernel⟩
  | 2, h => cases h; exact ⟨kf2, rfl, nmX2, by decide +kernel, tyX2, tyX2_ok, by decide +kernel⟩
  | 3, h => cases h; exact ⟨kf3, rfl, nmX3, by decide +kernel, tyX3, tyX3_ok, by decide +kernel⟩
  | k + 4, h => simp at h
theorem zin {i : Int32} {j n : Nat} (hi : i = nI j) (hj : j < n) (hn : n < 2 ^ 31) : vp_in i n ∧ i.toNatClampNeg = j := by
  subst hi
  exact ⟨vp_in_nI hj hn, nI_clamp (Nat.lt_trans hj hn)⟩
section ZH
variable {own nm : String} {cc : ByteArray} {nL : Nat} {ret : Option FieldType} {R : Room} {mc ms : Nat} {Ph : Option zV → zS → zU → Prop} {pc : Nat} {L : List (Option zV)} {st : List zV} {S : zS} {mu : zU} {cells slots : Nat}
theorem zg_getI {ix ci j k : Nat} (hd : decode cc pc = .ok (.getfield ix, 3)) (hf : zfl own ix ci j) (hj : j ∉ zrefs ci) (hk : S.2.1 k = (0, ci)) (hN : k < S.1) (kk : zG own nm cc nL ret R mc ms Ph (pc + 3) L (.inl (mu k j) :: st) S mu cells slots) : zG own nm cc nL ret R mc ms Ph pc L (.inr (k + 1) :: st) S mu cells slots := by
  obtain ⟨C, T, N, hc, hjN, hm⟩ := hf
  obtain ⟨hin, hnf, -⟩ := zck hc
  intro l p e s m args below meth c D cs ad0 N0 A h ad H locs ls ho hw hl
  refine va_get (D := D) (ci := ci) (v := .int (mu k j)) (C := C) (T := T) (N := N) h.1 h.2.1 h.2.2.2.2.2.1 hin h.2.2.2.2.1 h.2.2.2.2.2.2.2.2.2.1 hw.1 k ((zws_get cs ad S mu hN).trans (by rw [zent_o hk])) hc j hjN (h.2.2.2.2.2.1 _ hm) (fun _ h9 => h9) ?_ hd (kk l p e s m args below meth c D cs ad0 N0 A h ad H locs ls ho hw hl)
  rw [zfs_get (by rw [hnf]; exact hjN), zfv, if_neg hj]
theorem zg_getR {ix ci j k r : Nat} (hd : decode cc pc = .ok (.getfield ix, 3)) (hf : zfl own ix ci j) (hj : j ∈ zrefs ci) (hk : S.2.1 k = (0, ci)) (hN : k < S.1) (hr : S.2.2 k j = r) (kk : zG own nm cc nL ret R mc ms Ph (pc + 3) L (.inr r :: st) S mu cells slots) : zG own nm cc nL ret R mc ms Ph pc L (.inr (k + 1) :: st) S mu cells slots := by
  obtain ⟨C, T, N, hc, hjN, hm⟩ := hf
  obtain ⟨hin, hnf, -⟩ := zck hc
  subst hr
  intro l p e s m args below meth c D cs ad0 N0 A h ad H locs ls ho hw hl
  refine va_get (D := D) (ci := ci) (v := zr ad (.inr (S.2.2 k j))) (C := C) (T := T) (N := N) h.1 h.2.1 h.2.2.2.2.2.1 hin h.2.2.2.2.1 h.2.2.2.2.2.2.2.2.2.1 hw.1 k ((zws_get cs ad S mu hN).trans (by rw [zent_o hk])) hc j hjN (h.2.2.2.2.2.1 _ hm) (fun _ h9 => h9) ?_ hd (kk l p e s m args below meth c D cs ad0 N0 A h ad H locs ls ho hw hl)
  rw [zfs_get (by rw [hnf]; exact hjN), zfv, if_pos hj]
theorem zg_putI {ix ci j k : Nat} {x : Int32} (hd : decode cc pc = .ok (.putfield ix, 3)) (hf : zfl own ix ci j) (hj : j ∉ zrefs ci) (hk : S.2.1 k = (0, ci)) (hN : k < S.1) (kk : zG own nm cc nL ret R mc ms Ph (pc + 3) L st S (zup mu k j x) cells slots) : zG own nm cc nL ret R mc ms Ph pc L (.inl x :: .inr (k + 1) :: st) S mu cells slots := by
  obtain ⟨C, T, N, hc, hjN, hm⟩ := hf
  obtain ⟨hin, hnf, hnm, -, ty, hty, hfl⟩ := zck hc
  have hfl := hfl j hjN
  rw [if_neg hj] at hfl
  intro l p e s m args below meth c D cs ad0 N0 A h ad H locs ls ho hw hl
  refine va_put (D := D) (ci := ci) (v := .int x) (ty := ty j) (C := C) (T := T) (N := N) h.1 h.2.1 h.2.2.2.2.2.1 hin ty hty hnm h.2.2.2.2.1 h.2.2.2.2.2.2.2.2.2.1 hw.1 hw.2.1 hw.2.2 k ((zws_get cs ad S mu hN).trans (by rw [zent_o hk])) hc j hjN (h.2.2.2.2.2.1 _ hm) (fun _ h9 => h9) hfl.2 (hty j hjN) (by rw [hfl.1]; rfl) (by rw [hfl.1]; rfl) (by rw [zfs_len, hnf]; exact hjN) hd (fun H1 locs1 hP hD hS => ?_)
  have hz : (zws cs ad S mu).set k (ad k, .inr (ci, (zfs ad (S.2.2 k) (mu k) ci).set j (.int x))) = zws cs ad S (zup mu k j x) := zws_set rfl (by rw [zent_o hk, zup_s, zfs_set hj]) (fun q hq => zent_q (zup_n hq))
  rw [hz] at hP hD
  exact kk l p e s m args below meth c D cs ad0 N0 A h ad H1 locs1 ls ho ⟨hP, hD, hS⟩ hl
theorem zg_putR {ix ci j k r : Nat} (hd : decode cc pc = .ok (.putfield ix, 3)) (hf : zfl own ix ci j) (hj : j ∈ zrefs ci) (hk : S.2.1 k = (0, ci)) (hN : k < S.1) (hi : nm = "<init>") (hown : vwCl[ci]?.map (fun q => q.1) = some own) (kk : zG own nm cc nL ret R mc ms Ph (pc + 3) L st (S.1, S.2.1, zur S.2.2 k j r) mu cells slots) : zG own nm cc nL ret R mc ms Ph pc L (.inr r :: .inr (k + 1) :: st) S mu cells slots := by
  obtain ⟨C, T, N, hc, hjN, hm⟩ := hf
  obtain ⟨hin, hnf, hnm, hC, ty, hty, hfl⟩ := zck hc
  have hfl := hfl j hjN
  rw [if_pos hj] at hfl
  have hCo : C = own := by
    rw [hc] at hown
    exact Option.some.inj hown
  intro l p e s m args below meth c D cs ad0 N0 A h ad H locs ls ho hw hl
  refine va_putF (D := D) (ci := ci) (v := zr ad (.inr r)) (ty := ty j) (C := C) (T := T) (N := N) h.1 h.2.1 h.2.2.2.2.2.1 hin ty hty hnm h.2.2.2.2.1 h.2.2.2.2.2.2.2.2.2.1 hw.1 hw.2.1 hw.2.2 k ((zws_get cs ad S mu hN).trans (by rw [zent_o hk])) hc j hjN (h.2.2.2.2.2.1 _ hm) (fun _ h9 => h9) hfl.2 (h.2.2.2.2.2.2.2.1.trans hi) ((hC j hjN).trans hCo) (hty j hjN) (zrt_ok hfl.1 ad r).1 (zrt_ok hfl.1 ad r).2.1 (by rw [zfs_len, hnf]; exact hjN) hd (fun H1 locs1 hP hD hS => ?_)
  have hz : (zws cs ad S mu).set k (ad k, .inr (ci, (zfs ad (S.2.2 k) (mu k) ci).set j (zr ad (.inr r)))) = zws cs ad (S.1, S.2.1, zur S.2.2 k j r) mu := zws_set rfl (by rw [zent_o (S := (S.1, S.2.1, zur S.2.2 k j r)) (ci := ci) hk, ← zfs_setR hj]; simp [zur]) (fun q hq => by simp [zent, zur, hq])
  rw [hz] at hP hD
  exact kk l p e s m args below meth c D cs ad0 N0 A h ad H1 locs1 ls ho ⟨hP, hD, hS⟩ hl
theorem zg_iald {k n j : Nat} {i : Int32} (hd : decode cc pc = .ok (.iaload, 1)) (hk : S.2.1 k = (1, n)) (hN : k < S.1) (hi : i = nI j) (hj : j < n) (hn : n < 2 ^ 31) (kk : zG own nm cc nL ret R mc ms Ph (pc + 1) L (.inl (mu k j) :: st) S mu cells slots) : zG own nm cc nL ret R mc ms Ph pc L (.inl i :: .inr (k + 1) :: st) S mu cells slots := by
  intro l p e s m args below meth c D cs ad0 N0 A h ad H locs ls ho hw hl
  obtain ⟨hv, hc⟩ := zin hi hj hn
  refine va_iald h.1 h.2.1 h.2.2.2.2.2.2.2.2.2.1 hw.1 k 0 ((zws_get cs ad S mu hN).trans (by rw [zent_i hk])) rfl hv hd ?_
  rw [hc]
  exact kk l p e s m args below meth c D cs ad0 N0 A h ad H locs ls ho hw hl
theorem zg_iast {k n j : Nat} {i x : Int32} (hd : decode cc pc = .ok (.iastore, 1)) (hk : S.2.1 k = (1, n)) (hN : k < S.1) (hi : i = nI j) (hj : j < n) (hn : n < 2 ^ 31) (kk : zG own nm cc nL ret R mc ms Ph (pc + 1) L st S (zup mu k j x) cells slots) : zG own nm cc nL ret R mc ms Ph pc L (.inl x :: .inl i :: .inr (k + 1) :: st) S mu cells slots := by
  intro l p e s m args below meth c D cs ad0 N0 A h ad H locs ls ho hw hl
  obtain ⟨hv, hc⟩ := zin hi hj hn
  refine va_iast h.1 h.2.1 h.2.2.2.2.2.2.2.2.2.1 hw.1 hw.2.1 hw.2.2 k 0 ((zws_get cs ad S mu hN).trans (by rw [zent_i hk])) rfl hv hd (fun H1 locs1 hP hD hS => ?_)
  rw [hc] at hP hD
  have hz : (zws cs ad S mu).set k (ad k, .inl (cs.1, n, .inl (upd (mu k) j x))) = zws cs ad S (zup mu k j x) := zws_set rfl (by rw [zent_i hk, zup_s]) (fun q hq => zent_q (zup_n hq))
  rw [hz] at hP hD
  exact kk l p e s m args below meth c D cs ad0 N0 A h ad H1 locs1 ls ho ⟨hP, hD, hS⟩ hl
theorem zg_zald {k n j : Nat} {i : Int32} (hd : decode cc pc = .ok (.baload, 1)) (hk : S.2.1 k = (2, n)) (hN : k < S.1) (hi : i = nI j) (hj : j < n) (hn : n < 2 ^ 31) (kk : zG own nm cc nL ret R mc ms Ph (pc + 1) L (.inl (mu k j) :: st) S mu cells slots) : zG own nm cc nL ret R mc ms Ph pc L (.inl i :: .inr (k + 1) :: st) S mu cells slots := by
  intro l p e s m args below meth c D cs ad0 N0 A h ad H locs ls ho hw hl
  obtain ⟨hv, hc⟩ := zin hi hj hn
  refine va_zald h.1 h.2.1 h.2.2.2.2.2.2.2.2.2.1 hw.1 k 1 ((zws_get cs ad S mu hN).trans (by rw [zent_z hk])) rfl hv hd ?_
  rw [hc]
  exact kk l p e s m args below meth c D cs ad0 N0 A h ad H locs ls ho hw hl
theorem zg_zast {k n j : Nat} {i x : Int32} (hd : decode cc pc = .ok (.bastore, 1)) (hk : S.2.1 k = (2, n)) (hN : k < S.1) (hi : i = nI j) (hj : j < n) (hn : n < 2 ^ 31) (hx : x = 0 ∨ x = 1) (kk : zG own nm cc nL ret R mc ms Ph (pc + 1) L st S (zup mu k j x) cells slots) : zG own nm cc nL ret R mc ms Ph pc L (.inl x :: .inl i :: .inr (k + 1) :: st) S mu cells slots := by
  intro l p e s m args below meth c D cs ad0 N0 A h ad H locs ls ho hw hl
  obtain ⟨hv, hc⟩ := zin hi hj hn
  have hb : vp_nar .boolean x = x := by rcases hx with rfl | rfl <;> decide
  refine va_zast h.1 h.2.1 h.2.2.2.2.2.2.2.2.2.1 hw.1 hw.2.1 hw.2.2 k 1 ((zws_get cs ad S mu hN).trans (by rw [zent_z hk])) rfl hv hd (fun H1 locs1 hP hD hS => ?_)
  rw [hc, hb] at hP hD
  have hz : (zws cs ad S mu).set k (ad k, .inl (cs.2.1, n, .inl (upd (mu k) j x))) = zws cs ad S (zup mu k j x) := zws_set rfl (by rw [zent_z hk, zup_s]) (fun q hq => zent_q (zup_n hq))
  rw [hz] at hP hD
  exact kk l p e s m args below meth c D cs ad0 N0 A h ad H1 locs1 ls ho ⟨hP, hD, hS⟩ hl
theorem zg_pald {k n j r : Nat} {i : Int32} (hd : decode cc pc = .ok (.aaload, 1)) (hk : S.2.1 k = (3, n)) (hN : k < S.1) (hi : i = nI j) (hj : j < n) (hn : n < 2 ^ 31) (hr : S.2.2 k j = r) (kk : zG own nm cc nL ret R mc ms Ph (pc + 1) L (.inr r :: st) S mu cells slots) : zG own nm cc nL ret R mc ms Ph pc L (.inl i :: .inr (k + 1) :: st) S mu cells slots := by
  intro l p e s m args below meth c D cs ad0 N0 A h ad H locs ls ho hw hl
  obtain ⟨hv, hc⟩ := zin hi hj hn
  subst hr
  refine va_aldq h.1 h.2.1 h.2.2.2.2.2.2.2.2.2.1 hw.1 k 2 ((zws_get cs ad S mu hN).trans (by rw [zent_p hk])) rfl hv hd ?_
  rw [hc, zo_rf]
  exact kk l p e s m args below meth c D cs ad0 N0 A h ad H locs ls ho hw hl
theorem zg_sald {k n j r : Nat} {i : Int32} (hd : decode cc pc = .ok (.aaload, 1)) (hk : S.2.1 k = (4, n)) (hN : k < S.1) (hi : i = nI j) (hj : j < n) (hn : n < 2 ^ 31) (hr : S.2.2 k j = r) (kk : zG own nm cc nL ret R mc ms Ph (pc + 1) L (.inr r :: st) S mu cells slots) : zG own nm cc nL ret R mc ms Ph pc L (.inl i :: .inr (k + 1) :: st) S mu cells slots := by
  intro l p e s m args below meth c D cs ad0 N0 A h ad H locs ls ho hw hl
  obtain ⟨hv, hc⟩ := zin hi hj hn
  subst hr
  refine va_aldq h.1 h.2.1 h.2.2.2.2.2.2.2.2.2.1 hw.1 k 3 ((zws_get cs ad S mu hN).trans (by rw [zent_t hk])) rfl hv hd ?_
  rw [hc, zo_rf]
  exact kk l p e s m args below meth c D cs ad0 N0 A h ad H locs ls ho hw hl
theorem zg_past {k n j q : Nat} {i : Int32} (hd : decode cc pc = .ok (.aastore, 1)) (hk : S.2.1 k = (3, n)) (hN : k < S.1) (hi : i = nI j) (hj : j < n) (hn : n < 2 ^ 31) (hq : S.2.1 q = (0, 0)) (hqN : q < S.1) (kk : zG own nm cc nL ret R mc ms Ph (pc + 1) L st (S.1, S.2.1, zur S.2.2 k j (q + 1)) mu cells slots) : zG own nm cc nL ret R mc ms Ph pc L (.inr (q + 1) :: .inl i :: .inr (k + 1) :: st) S mu cells slots := by
  intro l p e s m args below meth c D cs ad0 N0 A h ad H locs ls ho hw hl
  obtain ⟨hv, hc⟩ := zin hi hj hn
  refine va_astq (r := (RX0, TX0, 9)) h.1 h.2.1 h.2.2.2.2.2.2.2.2.2.1 hw.1 hw.2.1 hw.2.2 k 2 q 0 ((zws_get cs ad S mu hN).trans (by rw [zent_p hk])) rfl ((zws_get cs ad S mu hqN).trans (by rw [zent_o hq])) rfl hv hd (fun H1 locs1 hP hD hS => ?_)
  rw [hc] at hP hD
  have hz : (zws cs ad S mu).set k (ad k, .inl (cs.2.2.1, n, .inr (.inr (.inr (.inr (va_up (fun j => zo ad (S.2.2 k j)) j (some (ad q)))))))) = zws cs ad (S.1, S.2.1, zur S.2.2 k j (q + 1)) mu := zws_set rfl (by
    rw [zent_p (S := (S.1, S.2.1, zur S.2.2 k j (q + 1))) (n := n) hk]
    refine congrArg (fun f : Nat → Option Nat => (Sum.inl (cs.2.2.1, n, Sum.inr (Sum.inr (Sum.inr (Sum.inr f)))) : va_E)) (funext fun i => ?_)
    by_cases hij : i = j
    · simp [zur, va_up, hij, zo]
    · simp [zur, va_up, hij]) (fun q hq => by simp [zent, zur, hq])
  rw [hz] at hP hD
  exact kk l p e s m args below meth c D cs ad0 N0 A h ad H1 locs1 ls ho ⟨hP, hD, hS⟩ hl
theorem zg_sast {k n j q : Nat} {i : Int32} (hd : decode cc pc = .ok (.aastore, 1)) (hk : S.2.1 k = (4, n)) (hN : k < S.1) (hi : i = nI j) (hj : j < n) (hn : n < 2 ^ 31) (hq : S.2.1 q = (0, 1)) (hqN : q < S.1) (kk : zG own nm cc nL ret R mc ms Ph (pc + 1) L st (S.1, S.2.1, zur S.2.2 k j (q + 1)) mu cells slots) : zG own nm cc nL ret R mc ms Ph pc L (.inr (q + 1) :: .inl i :: .inr (k + 1) :: st) S mu cells slots := by
  intro l p e s m args below meth c D cs ad0 N0 A h ad H locs ls ho hw hl
  obtain ⟨hv, hc⟩ := zin hi hj hn
  refine va_astq (r := (RX1, TX1, 11)) h.1 h.2.1 h.2.2.2.2.2.2.2.2.2.1 hw.1 hw.2.1 hw.2.2 k 3 q 1 ((zws_get cs ad S mu hN).trans (by rw [zent_t hk])) rfl ((zws_get cs ad S mu hqN).trans (by rw [zent_o hq])) rfl hv hd (fun H1 locs1 hP hD hS => ?_)
  rw [hc] at hP hD
  have hz : (zws cs ad S mu).set k (ad k, .inl (cs.2.2.2, n, .inr (.inr (.inr (.inr (va_up (fun j => zo ad (S.2.2 k j)) j (some (ad q)))))))) = zws cs ad (S.1, S.2.1, zur S.2.2 k j (q + 1)) mu := zws_set rfl (by
    rw [zent_t (S := (S.1, S.2.1, zur S.2.2 k j (q + 1))) (n := n) hk]
    refine congrArg (fun f : Nat → Option Nat => (Sum.inl (cs.2.2.2, n, Sum.inr (Sum.inr (Sum.inr (Sum.inr f)))) : va_E)) (funext fun i => ?_)
    by_cases hij : i = j
    · simp [zur, va_up, hij, zo]
    · simp [zur, va_up, hij]) (fun q hq => by simp [zent, zur, hq])
  rw [hz] at hP hD
  exact kk l p e s m args below meth c D cs ad0 N0 A h ad H1 locs1 ls ho ⟨hP, hD, hS⟩ hl
/-- a whole row is replaced -/
def zrow (mu : zU) (k : Nat) (f : Nat → Int32) : zU := fun q => if q = k then f else mu q
theorem zrow_s (mu : zU) (k : Nat) (f : Nat → Int32) : zrow mu k f k = f := by simp [zrow]
theorem zrow_n {mu : zU} {k q : Nat} {f : Nat → Int32} (h : q ≠ k) : zrow mu k f q = mu q := by simp [zrow, h]
theorem zg_copy {ix k0 k1 n0 n1 a b n : Nat} {sp dp len : Int32} (hd : decode cc pc = .ok (.invokestatic ix, 3)) (hm : Cond.methodLink own ix arraycopyName ∈ zwd) (hk0 : S.2.1 k0 = (1, n0)) (hN0 : k0 < S.1) (hk1 : S.2.1 k1 = (1, n1)) (hN1 : k1 < S.1) (ha : sp = nI a) (hb : dp = nI b) (hn : len = nI n) (h0 : a + n ≤ n0) (h1 : b + n ≤ n1) (hs0 : n0 < 2 ^ 31) (hs1 : n1 < 2 ^ 31) (hr : 1 ≤ R.frames ∧ st.length + 18 ≤ R.locals)
    (kk : zG own nm cc nL ret R mc ms Ph (pc + 3) L st S (zrow mu k1 (va_cpy (mu k0) (mu k1) a b n)) cells slots) : zG own nm cc nL ret R mc ms Ph pc L (.inl len :: .inl dp :: .inr (k1 + 1) :: .inl sp :: .inr (k0 + 1) :: st) S mu cells slots := by
  subst ha; subst hb; subst hn
  intro l p e s m args below meth c D cs ad0 N0 A h ad H locs ls ho hw hl
  have ea : (nI a).toNatClampNeg = a := nI_clamp (by omega)
  have eb : (nI b).toNatClampNeg = b := nI_clamp (by omega)
  have en : (nI n).toNatClampNeg = n := nI_clamp (by omega)
  refine va_copyi (ty := .int) h.1 h.2.1 (by rw [h.2.2.2.1]; exact hl.2.1.symm) h.2.2.2.2.1 (h.2.2.2.2.2.1 _ hm) (h.2.2.2.2.2.1 _ kv_arraycopy) (h.2.2.2.2.2.1 _ kt_arraycopy) (h.2.2.2.2.2.1 _ kiJ10) h.2.2.2.2.2.2.2.2.2.1 hw.1 hw.2.1 hw.2.2 k0 k1 0 0 ((zws_get cs ad S mu hN0).trans (by rw [zent_i hk0])) ((zws_get cs ad S mu hN1).trans (by rw [zent_i hk1])) rfl rfl rfl (nI_pos (by omega)) (nI_pos (by omega)) (nI_pos (by omega)) (by rw [ea, en]; exact h0) (by rw [eb, en]; exact h1) (fun _ _ => rfl) hr.1 (by rw [zr_sum]; exact Nat.le_trans (Nat.le_of_eq rfl) hr.2) hd (fun H1 locs1 hP hD hS => ?_)
  rw [ea, eb, en] at hP hD
  have hz : (zws cs ad S mu).set k1 (ad k1, .inl (cs.1, n1, .inl (va_cpy (mu k0) (mu k1) a b n))) = zws cs ad S (zrow mu k1 (va_cpy (mu k0) (mu k1) a b n)) := zws_set rfl (by rw [zent_i hk1, zrow_s]) (fun q hq => zent_q (zrow_n hq))
  rw [hz] at hP hD
  exact kk l p e s m args below meth c D cs ad0 N0 A h ad H1 locs1 ls ho ⟨hP, hD, hS⟩ hl
/-- the ends -/
theorem zg_iret {x : Int32} (hd : decode cc pc = .ok (.ireturn, 1)) (hr : ret = some .int) (hq : Ph (some (.inl x)) S mu) : zG own nm cc nL ret R cells slots Ph pc L [.inl x] S mu cells slots := by
  intro l p e s m args below meth c D cs ad0 N0 A h ad H locs ls ho hw hl
  exact W.iret (v := x) h.1 h.2.1 (h.2.2.1.trans hr) (fun t ht hW => ⟨some (.inl x), S, mu, ad, rfl, hq, ho, by rw [ht]; exact hw.1, hw.2.1, hw.2.2.F ht⟩) hw.2.2.2.2 hd h.2.2.2.2.2.2.1
theorem zg_zret {x : Int32} (hd : decode cc pc = .ok (.ireturn, 1)) (hr : ret = some .boolean) (hx : x = 0 ∨ x = 1) (hq : Ph (some (.inl x)) S mu) : zG own nm cc nL ret R cells slots Ph pc L [.inl x] S mu cells slots := by
  intro l p e s m args below meth c D cs ad0 N0 A h ad H locs ls ho hw hl
  exact W.zret (v := x) h.1 h.2.1 (h.2.2.1.trans hr) (by rcases hx with rfl | rfl <;> rfl) (fun t ht hW => ⟨some (.inl x), S, mu, ad, rfl, hq, ho, by rw [ht]; exact hw.1, hw.2.1, hw.2.2.F ht⟩) hw.2.2.2.2 hd h.2.2.2.2.2.2.1
theorem zg_vret (hd : decode cc pc = .ok (.return_, 1)) (hr : ret = none) (hq : Ph none S mu) : zG own nm cc nL ret R cells slots Ph pc L [] S mu cells slots := by
  intro l p e s m args below meth c D cs ad0 N0 A h ad H locs ls ho hw hl
  exact W.vret h.1 h.2.1 (h.2.2.1.trans hr) (fun t ht hW => ⟨none, S, mu, ad, rfl, hq, ho, by rw [ht]; exact hw.1, hw.2.1, hw.2.2.F ht⟩) hw.2.2.2.2 hd h.2.2.2.2.2.2.1
end ZH
