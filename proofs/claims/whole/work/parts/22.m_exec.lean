/-! THE REFERENCE: execute -/
theorem tb_exec : ∀ i : Nat, i < 94 → i ∉ [0, 2, 3, 4, 9, 10, 12, 13, 14, 25, 27, 29, 31, 58, 59, 60, 61, 62, 63, 70, 79, 81, 83, 85, 86, 90, 91, 92, 93] → (#[418, 672, 575, 455, 390, 672, 672, 672, 672, 390, 390, 672, 390, 599, 390, 672, 672, 672, 672, 672, 672, 672, 672, 672, 672, 439, 672, 484, 672, 464, 672, 662, 672, 672, 672, 672, 672, 672, 672, 672, 672, 672, 672, 672, 672, 672, 672, 672, 672, 672, 672, 672, 672, 672, 672, 672, 672, 672, 548, 447, 557, 494, 504, 390, 672, 672, 672, 672, 672, 672, 583, 672, 672, 672, 672, 672, 672, 672, 672, 591, 672, 566, 672, 638, 672, 474, 619, 672, 672, 672, 646, 526, 654, 611] : Array Int)[i]? = some 672 := by decide +kernel
set_option maxRecDepth 20000 in
theorem lm_ex43 {S : zS} {m : Nat} (hS : MS S m) (mu : zU) {v : Nat → Int32} {ol : List Nat} {pp i : Nat} (hV : VI v ol) (hi : ol[i]? = some pp) : zG RX3 "execute" cX3_execute 5 none (zroom 4 0 0) 0 0 (zPv S (fun mu2 => mu2 = zrow mu (m + 1) (qexec v pp (nI 43)))) 412 [some (.inr (m + 1)), some (.inl (nI pp)), some (.inl (nI 43)), none, none] [] S (zrow mu (m + 1) v) 0 0 := by
  obtain ⟨⟨hN, k0, k1, -⟩, r0, -⟩ := id hS
  have hN0 : m < S.1 := by omega
  have hN1 : m + 1 < S.1 := by omega
  have hpp := (hV.2.1 i pp hi).2
  have hl4 := hV.1.2.2
  obtain ⟨x, y, dr, ss, sl, ns, s0, s1, s2, hP⟩ := hV.2.2.2.2.1 pp hpp
  obtain ⟨t0, t1, t2, hQ, -⟩ := hP.pop1
  obtain ⟨u0, u1, u2, hU, -⟩ := hQ.pop1
  refine zg_aload_n (i := 0) dX3_execute_412 rfl rfl ?_
  refine zg_iload_n (i := 1) dX3_execute_413 rfl rfl ?_
  refine zg_callVi (cm_pop hS mu (by omega) hP) dX3_execute_414 cvX3_pop mlX3_87 rfl (by assumption) (by assumption) rfl (Nat.le_of_ble_eq_true rfl) ⟨by decide, by decide⟩ ⟨Nat.le_refl _, Nat.le_refl _⟩ (fun r mu2 h2 => ?_)
  obtain ⟨rfl, rfl⟩ := h2
  refine zg_istore_n (i := 3) (L2 := [_, _, _, _, _]) dX3_execute_417 rfl (by decide) rfl ?_
  refine zg_aload_n (i := 0) dX3_execute_418 rfl rfl ?_
  refine zg_iload_n (i := 1) dX3_execute_419 rfl rfl ?_
  refine zg_callVi (cm_pop hS mu (by omega) hQ) dX3_execute_420 cvX3_pop mlX3_87 rfl (by assumption) (by assumption) rfl (Nat.le_of_ble_eq_true rfl) ⟨by decide, by decide⟩ ⟨Nat.le_refl _, Nat.le_refl _⟩ (fun r mu2 h2 => ?_)
  obtain ⟨rfl, rfl⟩ := h2
  refine zg_istore (L2 := [_, _, _, _, _]) dX3_execute_423 (by decide) rfl ?_
  refine zg_aload_n (i := 0) dX3_execute_425 rfl rfl ?_
  refine zg_iload_n (i := 1) dX3_execute_426 rfl rfl ?_
  refine zg_iload_n (i := 2) dX3_execute_427 rfl rfl ?_
  refine zg_iload dX3_execute_428 rfl ?_
  refine zg_iload_n (i := 3) dX3_execute_430 rfl rfl ?_
  refine zg_callSi (cm_operate S _ (nI 43) _ _ (by decide)) dX3_execute_431 ctX3_operate mlX3_107 rfl rfl (Nat.le_of_ble_eq_true rfl) ⟨by decide, by decide⟩ ⟨Nat.le_refl _, Nat.le_refl _⟩ (fun r mu2 h2 => ?_)
  obtain ⟨rfl, rfl⟩ := h2
  refine zg_callVv (cm_push hS mu (by omega) hU _) dX3_execute_434 cvX3_push mlX3_97 rfl (by assumption) (by assumption) rfl (Nat.le_of_ble_eq_true rfl) ⟨by decide, by decide⟩ ⟨Nat.le_refl _, Nat.le_refl _⟩ (fun mu2 h2 => ?_)
  subst h2
  refine zg_goto (tgt := 694) dX3_execute_437 (by decide) ?_
  exact zg_vret dX3_execute_694 rfl ⟨rfl, rfl, by rw [qx_43, qbin]⟩
set_option maxRecDepth 20000 in
theorem lm_ex45 {S : zS} {m : Nat} (hS : MS S m) (mu : zU) {v : Nat → Int32} {ol : List Nat} {pp i : Nat} (hV : VI v ol) (hi : ol[i]? = some pp) : zG RX3 "execute" cX3_execute 5 none (zroom 4 0 0) 0 0 (zPv S (fun mu2 => mu2 = zrow mu (m + 1) (qexec v pp (nI 45)))) 412 [some (.inr (m + 1)), some (.inl (nI pp)), some (.inl (nI 45)), none, none] [] S (zrow mu (m + 1) v) 0 0 := by
  obtain ⟨⟨hN, k0, k1, -⟩, r0, -⟩ := id hS
  have hN0 : m < S.1 := by omega
  have hN1 : m + 1 < S.1 := by omega
  have hpp := (hV.2.1 i pp hi).2
  have hl4 := hV.1.2.2
  obtain ⟨x, y, dr, ss, sl, ns, s0, s1, s2, hP⟩ := hV.2.2.2.2.1 pp hpp
  obtain ⟨t0, t1, t2, hQ, -⟩ := hP.pop1
  obtain ⟨u0, u1, u2, hU, -⟩ := hQ.pop1
  refine zg_aload_n (i := 0) dX3_execute_412 rfl rfl ?_
  refine zg_iload_n (i := 1) dX3_execute_413 rfl rfl ?_
  refine zg_callVi (cm_pop hS mu (by omega) hP) dX3_execute_414 cvX3_pop mlX3_87 rfl (by assumption) (by assumption) rfl (Nat.le_of_ble_eq_true rfl) ⟨by decide, by decide⟩ ⟨Nat.le_refl _, Nat.le_refl _⟩ (fun r mu2 h2 => ?_)
  obtain ⟨rfl, rfl⟩ := h2
  refine zg_istore_n (i := 3) (L2 := [_, _, _, _, _]) dX3_execute_417 rfl (by decide) rfl ?_
  refine zg_aload_n (i := 0) dX3_execute_418 rfl rfl ?_
  refine zg_iload_n (i := 1) dX3_execute_419 rfl rfl ?_
  refine zg_callVi (cm_pop hS mu (by omega) hQ) dX3_execute_420 cvX3_pop mlX3_87 rfl (by assumption) (by assumption) rfl (Nat.le_of_ble_eq_true rfl) ⟨by decide, by decide⟩ ⟨Nat.le_refl _, Nat.le_refl _⟩ (fun r mu2 h2 => ?_)
  obtain ⟨rfl, rfl⟩ := h2
  refine zg_istore (L2 := [_, _, _, _, _]) dX3_execute_423 (by decide) rfl ?_
  refine zg_aload_n (i := 0) dX3_execute_425 rfl rfl ?_
  refine zg_iload_n (i := 1) dX3_execute_426 rfl rfl ?_
  refine zg_iload_n (i := 2) dX3_execute_427 rfl rfl ?_
  refine zg_iload dX3_execute_428 rfl ?_
  refine zg_iload_n (i := 3) dX3_execute_430 rfl rfl ?_
  refine zg_callSi (cm_operate S _ (nI 45) _ _ (by decide)) dX3_execute_431 ctX3_operate mlX3_107 rfl rfl (Nat.le_of_ble_eq_true rfl) ⟨by decide, by decide⟩ ⟨Nat.le_refl _, Nat.le_refl _⟩ (fun r mu2 h2 => ?_)
  obtain ⟨rfl, rfl⟩ := h2
  refine zg_callVv (cm_push hS mu (by omega) hU _) dX3_execute_434 cvX3_push mlX3_97 rfl (by assumption) (by assumption) rfl (Nat.le_of_ble_eq_true rfl) ⟨by decide, by decide⟩ ⟨Nat.le_refl _, Nat.le_refl _⟩ (fun mu2 h2 => ?_)
  subst h2
  refine zg_goto (tgt := 694) dX3_execute_437 (by decide) ?_
  exact zg_vret dX3_execute_694 rfl ⟨rfl, rfl, by rw [qx_45, qbin]⟩
set_option maxRecDepth 20000 in
theorem lm_ex42 {S : zS} {m : Nat} (hS : MS S m) (mu : zU) {v : Nat → Int32} {ol : List Nat} {pp i : Nat} (hV : VI v ol) (hi : ol[i]? = some pp) : zG RX3 "execute" cX3_execute 5 none (zroom 4 0 0) 0 0 (zPv S (fun mu2 => mu2 = zrow mu (m + 1) (qexec v pp (nI 42)))) 412 [some (.inr (m + 1)), some (.inl (nI pp)), some (.inl (nI 42)), none, none] [] S (zrow mu (m + 1) v) 0 0 := by
  obtain ⟨⟨hN, k0, k1, -⟩, r0, -⟩ := id hS
  have hN0 : m < S.1 := by omega
  have hN1 : m + 1 < S.1 := by omega
  have hpp := (hV.2.1 i pp hi).2
  have hl4 := hV.1.2.2
  obtain ⟨x, y, dr, ss, sl, ns, s0, s1, s2, hP⟩ := hV.2.2.2.2.1 pp hpp
  obtain ⟨t0, t1, t2, hQ, -⟩ := hP.pop1
  obtain ⟨u0, u1, u2, hU, -⟩ := hQ.pop1
  refine zg_aload_n (i := 0) dX3_execute_412 rfl rfl ?_
  refine zg_iload_n (i := 1) dX3_execute_413 rfl rfl ?_
  refine zg_callVi (cm_pop hS mu (by omega) hP) dX3_execute_414 cvX3_pop mlX3_87 rfl (by assumption) (by assumption) rfl (Nat.le_of_ble_eq_true rfl) ⟨by decide, by decide⟩ ⟨Nat.le_refl _, Nat.le_refl _⟩ (fun r mu2 h2 => ?_)
  obtain ⟨rfl, rfl⟩ := h2
  refine zg_istore_n (i := 3) (L2 := [_, _, _, _, _]) dX3_execute_417 rfl (by decide) rfl ?_
  refine zg_aload_n (i := 0) dX3_execute_418 rfl rfl ?_
  refine zg_iload_n (i := 1) dX3_execute_419 rfl rfl ?_
  refine zg_callVi (cm_pop hS mu (by omega) hQ) dX3_execute_420 cvX3_pop mlX3_87 rfl (by assumption) (by assumption) rfl (Nat.le_of_ble_eq_true rfl) ⟨by decide, by decide⟩ ⟨Nat.le_refl _, Nat.le_refl _⟩ (fun r mu2 h2 => ?_)
  obtain ⟨rfl, rfl⟩ := h2
  refine zg_istore (L2 := [_, _, _, _, _]) dX3_execute_423 (by decide) rfl ?_
  refine zg_aload_n (i := 0) dX3_execute_425 rfl rfl ?_
  refine zg_iload_n (i := 1) dX3_execute_426 rfl rfl ?_
  refine zg_iload_n (i := 2) dX3_execute_427 rfl rfl ?_
  refine zg_iload dX3_execute_428 rfl ?_
  refine zg_iload_n (i := 3) dX3_execute_430 rfl rfl ?_
  refine zg_callSi (cm_operate S _ (nI 42) _ _ (by decide)) dX3_execute_431 ctX3_operate mlX3_107 rfl rfl (Nat.le_of_ble_eq_true rfl) ⟨by decide, by decide⟩ ⟨Nat.le_refl _, Nat.le_refl _⟩ (fun r mu2 h2 => ?_)
  obtain ⟨rfl, rfl⟩ := h2
  refine zg_callVv (cm_push hS mu (by omega) hU _) dX3_execute_434 cvX3_push mlX3_97 rfl (by assumption) (by assumption) rfl (Nat.le_of_ble_eq_true rfl) ⟨by decide, by decide⟩ ⟨Nat.le_refl _, Nat.le_refl _⟩ (fun mu2 h2 => ?_)
  subst h2
  refine zg_goto (tgt := 694) dX3_execute_437 (by decide) ?_
  exact zg_vret dX3_execute_694 rfl ⟨rfl, rfl, by rw [qx_42, qbin]⟩
set_option maxRecDepth 20000 in
theorem lm_ex47 {S : zS} {m : Nat} (hS : MS S m) (mu : zU) {v : Nat → Int32} {ol : List Nat} {pp i : Nat} (hV : VI v ol) (hi : ol[i]? = some pp) : zG RX3 "execute" cX3_execute 5 none (zroom 4 0 0) 0 0 (zPv S (fun mu2 => mu2 = zrow mu (m + 1) (qexec v pp (nI 47)))) 412 [some (.inr (m + 1)), some (.inl (nI pp)), some (.inl (nI 47)), none, none] [] S (zrow mu (m + 1) v) 0 0 := by
  obtain ⟨⟨hN, k0, k1, -⟩, r0, -⟩ := id hS
  have hN0 : m < S.1 := by omega
  have hN1 : m + 1 < S.1 := by omega
  have hpp := (hV.2.1 i pp hi).2
  have hl4 := hV.1.2.2
  obtain ⟨x, y, dr, ss, sl, ns, s0, s1, s2, hP⟩ := hV.2.2.2.2.1 pp hpp
  obtain ⟨t0, t1, t2, hQ, -⟩ := hP.pop1
  obtain ⟨u0, u1, u2, hU, -⟩ := hQ.pop1
  refine zg_aload_n (i := 0) dX3_execute_412 rfl rfl ?_
  refine zg_iload_n (i := 1) dX3_execute_413 rfl rfl ?_
  refine zg_callVi (cm_pop hS mu (by omega) hP) dX3_execute_414 cvX3_pop mlX3_87 rfl (by assumption) (by assumption) rfl (Nat.le_of_ble_eq_true rfl) ⟨by decide, by decide⟩ ⟨Nat.le_refl _, Nat.le_refl _⟩ (fun r mu2 h2 => ?_)
  obtain ⟨rfl, rfl⟩ := h2
  refine zg_istore_n (i := 3) (L2 := [_, _, _, _, _]) dX3_execute_417 rfl (by decide) rfl ?_
  refine zg_aload_n (i := 0) dX3_execute_418 rfl rfl ?_
  refine zg_iload_n (i := 1) dX3_execute_419 rfl rfl ?_
  refine zg_callVi (cm_pop hS mu (by omega) hQ) dX3_execute_420 cvX3_pop mlX3_87 rfl (by assumption) (by assumption) rfl (Nat.le_of_ble_eq_true rfl) ⟨by decide, by decide⟩ ⟨Nat.le_refl _, Nat.le_refl _⟩ (fun r mu2 h2 => ?_)
  obtain ⟨rfl, rfl⟩ := h2
  refine zg_istore (L2 := [_, _, _, _, _]) dX3_execute_423 (by decide) rfl ?_
  refine zg_aload_n (i := 0) dX3_execute_425 rfl rfl ?_
  refine zg_iload_n (i := 1) dX3_execute_426 rfl rfl ?_
  refine zg_iload_n (i := 2) dX3_execute_427 rfl rfl ?_
  refine zg_iload dX3_execute_428 rfl ?_
  refine zg_iload_n (i := 3) dX3_execute_430 rfl rfl ?_
  refine zg_callSi (cm_operate S _ (nI 47) _ _ (by decide)) dX3_execute_431 ctX3_operate mlX3_107 rfl rfl (Nat.le_of_ble_eq_true rfl) ⟨by decide, by decide⟩ ⟨Nat.le_refl _, Nat.le_refl _⟩ (fun r mu2 h2 => ?_)
  obtain ⟨rfl, rfl⟩ := h2
  refine zg_callVv (cm_push hS mu (by omega) hU _) dX3_execute_434 cvX3_push mlX3_97 rfl (by assumption) (by assumption) rfl (Nat.le_of_ble_eq_true rfl) ⟨by decide, by decide⟩ ⟨Nat.le_refl _, Nat.le_refl _⟩ (fun mu2 h2 => ?_)
  subst h2
  refine zg_goto (tgt := 694) dX3_execute_437 (by decide) ?_
  exact zg_vret dX3_execute_694 rfl ⟨rfl, rfl, by rw [qx_47, qbin]⟩
set_option maxRecDepth 20000 in
theorem lm_ex37 {S : zS} {m : Nat} (hS : MS S m) (mu : zU) {v : Nat → Int32} {ol : List Nat} {pp i : Nat} (hV : VI v ol) (hi : ol[i]? = some pp) : zG RX3 "execute" cX3_execute 5 none (zroom 4 0 0) 0 0 (zPv S (fun mu2 => mu2 = zrow mu (m + 1) (qexec v pp (nI 37)))) 412 [some (.inr (m + 1)), some (.inl (nI pp)), some (.inl (nI 37)), none, none] [] S (zrow mu (m + 1) v) 0 0 := by
  obtain ⟨⟨hN, k0, k1, -⟩, r0, -⟩ := id hS
  have hN0 : m < S.1 := by omega
  have hN1 : m + 1 < S.1 := by omega
  have hpp := (hV.2.1 i pp hi).2
  have hl4 := hV.1.2.2
  obtain ⟨x, y, dr, ss, sl, ns, s0, s1, s2, hP⟩ := hV.2.2.2.2.1 pp hpp
  obtain ⟨t0, t1, t2, hQ, -⟩ := hP.pop1
  obtain ⟨u0, u1, u2, hU, -⟩ := hQ.pop1
  refine zg_aload_n (i := 0) dX3_execute_412 rfl rfl ?_
  refine zg_iload_n (i := 1) dX3_execute_413 rfl rfl ?_
  refine zg_callVi (cm_pop hS mu (by omega) hP) dX3_execute_414 cvX3_pop mlX3_87 rfl (by assumption) (by assumption) rfl (Nat.le_of_ble_eq_true rfl) ⟨by decide, by decide⟩ ⟨Nat.le_refl _, Nat.le_refl _⟩ (fun r mu2 h2 => ?_)
  obtain ⟨rfl, rfl⟩ := h2
  refine zg_istore_n (i := 3) (L2 := [_, _, _, _, _]) dX3_execute_417 rfl (by decide) rfl ?_
  refine zg_aload_n (i := 0) dX3_execute_418 rfl rfl ?_
  refine zg_iload_n (i := 1) dX3_execute_419 rfl rfl ?_
  refine zg_callVi (cm_pop hS mu (by omega) hQ) dX3_execute_420 cvX3_pop mlX3_87 rfl (by assumption) (by assumption) rfl (Nat.le_of_ble_eq_true rfl) ⟨by decide, by decide⟩ ⟨Nat.le_refl _, Nat.le_refl _⟩ (fun r mu2 h2 => ?_)
  obtain ⟨rfl, rfl⟩ := h2
  refine zg_istore (L2 := [_, _, _, _, _]) dX3_execute_423 (by decide) rfl ?_
  refine zg_aload_n (i := 0) dX3_execute_425 rfl rfl ?_
  refine zg_iload_n (i := 1) dX3_execute_426 rfl rfl ?_
  refine zg_iload_n (i := 2) dX3_execute_427 rfl rfl ?_
  refine zg_iload dX3_execute_428 rfl ?_
  refine zg_iload_n (i := 3) dX3_execute_430 rfl rfl ?_
  refine zg_callSi (cm_operate S _ (nI 37) _ _ (by decide)) dX3_execute_431 ctX3_operate mlX3_107 rfl rfl (Nat.le_of_ble_eq_true rfl) ⟨by decide, by decide⟩ ⟨Nat.le_refl _, Nat.le_refl _⟩ (fun r mu2 h2 => ?_)
  obtain ⟨rfl, rfl⟩ := h2
  refine zg_callVv (cm_push hS mu (by omega) hU _) dX3_execute_434 cvX3_push mlX3_97 rfl (by assumption) (by assumption) rfl (Nat.le_of_ble_eq_true rfl) ⟨by decide, by decide⟩ ⟨Nat.le_refl _, Nat.le_refl _⟩ (fun mu2 h2 => ?_)
  subst h2
  refine zg_goto (tgt := 694) dX3_execute_437 (by decide) ?_
  exact zg_vret dX3_execute_694 rfl ⟨rfl, rfl, by rw [qx_37, qbin]⟩
set_option maxRecDepth 20000 in
theorem lm_ex96 {S : zS} {m : Nat} (hS : MS S m) (mu : zU) {v : Nat → Int32} {ol : List Nat} {pp i : Nat} (hV : VI v ol) (hi : ol[i]? = some pp) : zG RX3 "execute" cX3_execute 5 none (zroom 4 0 0) 0 0 (zPv S (fun mu2 => mu2 = zrow mu (m + 1) (qexec v pp (nI 96)))) 412 [some (.inr (m + 1)), some (.inl (nI pp)), some (.inl (nI 96)), none, none] [] S (zrow mu (m + 1) v) 0 0 := by
  obtain ⟨⟨hN, k0, k1, -⟩, r0, -⟩ := id hS
  have hN0 : m < S.1 := by omega
  have hN1 : m + 1 < S.1 := by omega
  have hpp := (hV.2.1 i pp hi).2
  have hl4 := hV.1.2.2
  obtain ⟨x, y, dr, ss, sl, ns, s0, s1, s2, hP⟩ := hV.2.2.2.2.1 pp hpp
  obtain ⟨t0, t1, t2, hQ, -⟩ := hP.pop1
  obtain ⟨u0, u1, u2, hU, -⟩ := hQ.pop1
  refine zg_aload_n (i := 0) dX3_execute_412 rfl rfl ?_
  refine zg_iload_n (i := 1) dX3_execute_413 rfl rfl ?_
  refine zg_callVi (cm_pop hS mu (by omega) hP) dX3_execute_414 cvX3_pop mlX3_87 rfl (by assumption) (by assumption) rfl (Nat.le_of_ble_eq_true rfl) ⟨by decide, by decide⟩ ⟨Nat.le_refl _, Nat.le_refl _⟩ (fun r mu2 h2 => ?_)
  obtain ⟨rfl, rfl⟩ := h2
  refine zg_istore_n (i := 3) (L2 := [_, _, _, _, _]) dX3_execute_417 rfl (by decide) rfl ?_
  refine zg_aload_n (i := 0) dX3_execute_418 rfl rfl ?_
  refine zg_iload_n (i := 1) dX3_execute_419 rfl rfl ?_
  refine zg_callVi (cm_pop hS mu (by omega) hQ) dX3_execute_420 cvX3_pop mlX3_87 rfl (by assumption) (by assumption) rfl (Nat.le_of_ble_eq_true rfl) ⟨by decide, by decide⟩ ⟨Nat.le_refl _, Nat.le_refl _⟩ (fun r mu2 h2 => ?_)
  obtain ⟨rfl, rfl⟩ := h2
  refine zg_istore (L2 := [_, _, _, _, _]) dX3_execute_423 (by decide) rfl ?_
  refine zg_aload_n (i := 0) dX3_execute_425 rfl rfl ?_
  refine zg_iload_n (i := 1) dX3_execute_426 rfl rfl ?_
  refine zg_iload_n (i := 2) dX3_execute_427 rfl rfl ?_
  refine zg_iload dX3_execute_428 rfl ?_
  refine zg_iload_n (i := 3) dX3_execute_430 rfl rfl ?_
  refine zg_callSi (cm_operate S _ (nI 96) _ _ (by decide)) dX3_execute_431 ctX3_operate mlX3_107 rfl rfl (Nat.le_of_ble_eq_true rfl) ⟨by decide, by decide⟩ ⟨Nat.le_refl _, Nat.le_refl _⟩ (fun r mu2 h2 => ?_)
  obtain ⟨rfl, rfl⟩ := h2
  refine zg_callVv (cm_push hS mu (by omega) hU _) dX3_execute_434 cvX3_push mlX3_97 rfl (by assumption) (by assumption) rfl (Nat.le_of_ble_eq_true rfl) ⟨by decide, by decide⟩ ⟨Nat.le_refl _, Nat.le_refl _⟩ (fun mu2 h2 => ?_)
  subst h2
  refine zg_goto (tgt := 694) dX3_execute_437 (by decide) ?_
  exact zg_vret dX3_execute_694 rfl ⟨rfl, rfl, by rw [qx_96, qbin]⟩
set_option maxRecDepth 20000 in
theorem lm_ex33 {S : zS} {m : Nat} (hS : MS S m) (mu : zU) {v : Nat → Int32} {ol : List Nat} {pp i : Nat} (hV : VI v ol) (hi : ol[i]? = some pp) : zG RX3 "execute" cX3_execute 5 none (zroom 4 0 0) 0 0 (zPv S (fun mu2 => mu2 = zrow mu (m + 1) (qexec v pp (nI 33)))) 440 [some (.inr (m + 1)), some (.inl (nI pp)), some (.inl (nI 33)), none, none] [] S (zrow mu (m + 1) v) 0 0 := by
  obtain ⟨⟨hN, k0, k1, -⟩, r0, -⟩ := id hS
  have hN0 : m < S.1 := by omega
  have hN1 : m + 1 < S.1 := by omega
  have hpp := (hV.2.1 i pp hi).2
  have hl4 := hV.1.2.2
  obtain ⟨x, y, dr, ss, sl, ns, s0, s1, s2, hP⟩ := hV.2.2.2.2.1 pp hpp
  obtain ⟨t0, t1, t2, hQ, -⟩ := hP.pop1
  refine zg_aload_n (i := 0) dX3_execute_440 rfl rfl ?_
  refine zg_iload_n (i := 1) dX3_execute_441 rfl rfl ?_
  refine zg_aload_n (i := 0) dX3_execute_442 rfl rfl ?_
  refine zg_iload_n (i := 1) dX3_execute_443 rfl rfl ?_
  refine zg_callVi (cm_pop hS mu (by omega) hP) dX3_execute_444 cvX3_pop mlX3_87 rfl (by assumption) (by assumption) rfl (Nat.le_of_ble_eq_true rfl) ⟨by decide, by decide⟩ ⟨Nat.le_refl _, Nat.le_refl _⟩ (fun r mu2 h2 => ?_)
  obtain ⟨rfl, rfl⟩ := h2
  refine zg_if_ne (tgt := 454) dX3_execute_447 (by decide) (fun cz => ?_) (fun cz => ?_)
  · refine zg_iconst (v := nI 0) dX3_execute_454 (by decide) ?_
    refine zg_callVv (cm_push hS mu (by omega) hQ _) dX3_execute_455 cvX3_push mlX3_97 rfl (by assumption) (by assumption) rfl (Nat.le_of_ble_eq_true rfl) ⟨by decide, by decide⟩ ⟨Nat.le_refl _, Nat.le_refl _⟩ (fun mu2 h2 => ?_)
    subst h2
    refine zg_goto (tgt := 694) dX3_execute_458 (by decide) ?_
    exact zg_vret dX3_execute_694 rfl ⟨rfl, rfl, by rw [qx_33, if_neg cz]⟩
  · refine zg_iconst (v := nI 1) dX3_execute_450 (by decide) ?_
    refine zg_goto (tgt := 455) dX3_execute_451 (by decide) ?_
    refine zg_callVv (cm_push hS mu (by omega) hQ _) dX3_execute_455 cvX3_push mlX3_97 rfl (by assumption) (by assumption) rfl (Nat.le_of_ble_eq_true rfl) ⟨by decide, by decide⟩ ⟨Nat.le_refl _, Nat.le_refl _⟩ (fun mu2 h2 => ?_)
    subst h2
    refine zg_goto (tgt := 694) dX3_execute_458 (by decide) ?_
    exact zg_vret dX3_execute_694 rfl ⟨rfl, rfl, by rw [qx_33, if_pos cz]⟩
set_option maxRecDepth 20000 in
theorem lm_ex58 {S : zS} {m : Nat} (hS : MS S m) (mu : zU) {v : Nat → Int32} {ol : List Nat} {pp i : Nat} (hV : VI v ol) (hi : ol[i]? = some pp) : zG RX3 "execute" cX3_execute 5 none (zroom 4 0 0) 0 0 (zPv S (fun mu2 => mu2 = zrow mu (m + 1) (qexec v pp (nI 58)))) 461 [some (.inr (m + 1)), some (.inl (nI pp)), some (.inl (nI 58)), none, none] [] S (zrow mu (m + 1) v) 0 0 := by
  obtain ⟨⟨hN, k0, k1, -⟩, r0, -⟩ := id hS
  have hN0 : m < S.1 := by omega
  have hN1 : m + 1 < S.1 := by omega
  have hpp := (hV.2.1 i pp hi).2
  have hl4 := hV.1.2.2
  obtain ⟨x, y, dr, ss, sl, ns, s0, s1, s2, hP⟩ := hV.2.2.2.2.1 pp hpp
  obtain ⟨t0, t1, t2, hQ, -⟩ := hP.pop1
  refine zg_aload_n (i := 0) dX3_execute_461 rfl rfl ?_
  refine zg_iload_n (i := 1) dX3_execute_462 rfl rfl ?_
  refine zg_callVv (cm_duplicate hS mu (by omega) hP) dX3_execute_463 cvX3_duplicate mlX3_111 rfl (by assumption) (by assumption) rfl (Nat.le_of_ble_eq_true rfl) ⟨by decide, by decide⟩ ⟨Nat.le_refl _, Nat.le_refl _⟩ (fun mu2 h2 => ?_)
  subst h2
  refine zg_goto (tgt := 694) dX3_execute_466 (by decide) ?_
  exact zg_vret dX3_execute_694 rfl ⟨rfl, rfl, by rw [qx_58]⟩
set_option maxRecDepth 20000 in
theorem lm_ex92 {S : zS} {m : Nat} (hS : MS S m) (mu : zU) {v : Nat → Int32} {ol : List Nat} {pp i : Nat} (hV : VI v ol) (hi : ol[i]? = some pp) : zG RX3 "execute" cX3_execute 5 none (zroom 4 0 0) 0 0 (zPv S (fun mu2 => mu2 = zrow mu (m + 1) (qexec v pp (nI 92)))) 469 [some (.inr (m + 1)), some (.inl (nI pp)), some (.inl (nI 92)), none, none] [] S (zrow mu (m + 1) v) 0 0 := by
  obtain ⟨⟨hN, k0, k1, -⟩, r0, -⟩ := id hS
  have hN0 : m < S.1 := by omega
  have hN1 : m + 1 < S.1 := by omega
  have hpp := (hV.2.1 i pp hi).2
  have hl4 := hV.1.2.2
  obtain ⟨x, y, dr, ss, sl, ns, s0, s1, s2, hP⟩ := hV.2.2.2.2.1 pp hpp
  obtain ⟨t0, t1, t2, hQ, -⟩ := hP.pop1
  refine zg_aload_n (i := 0) dX3_execute_469 rfl rfl ?_
  refine zg_iload_n (i := 1) dX3_execute_470 rfl rfl ?_
  refine zg_callVv (cm_swapTop hS mu (by omega) hP) dX3_execute_471 cvX3_swapTop mlX3_114 rfl (by assumption) (by assumption) rfl (Nat.le_of_ble_eq_true rfl) ⟨by decide, by decide⟩ ⟨Nat.le_refl _, Nat.le_refl _⟩ (fun mu2 h2 => ?_)
  subst h2
  refine zg_goto (tgt := 694) dX3_execute_474 (by decide) ?_
  exact zg_vret dX3_execute_694 rfl ⟨rfl, rfl, by rw [qx_92]⟩
set_option maxRecDepth 20000 in
theorem lm_ex36 {S : zS} {m : Nat} (hS : MS S m) (mu : zU) {v : Nat → Int32} {ol : List Nat} {pp i : Nat} (hV : VI v ol) (hi : ol[i]? = some pp) : zG RX3 "execute" cX3_execute 5 none (zroom 4 0 0) 0 0 (zPv S (fun mu2 => mu2 = zrow mu (m + 1) (qexec v pp (nI 36)))) 477 [some (.inr (m + 1)), some (.inl (nI pp)), some (.inl (nI 36)), none, none] [] S (zrow mu (m + 1) v) 0 0 := by
  obtain ⟨⟨hN, k0, k1, -⟩, r0, -⟩ := id hS
  have hN0 : m < S.1 := by omega
  have hN1 : m + 1 < S.1 := by omega
  have hpp := (hV.2.1 i pp hi).2
  have hl4 := hV.1.2.2
  obtain ⟨x, y, dr, ss, sl, ns, s0, s1, s2, hP⟩ := hV.2.2.2.2.1 pp hpp
  obtain ⟨t0, t1, t2, hQ, -⟩ := hP.pop1
  refine zg_aload_n (i := 0) dX3_execute_477 rfl rfl ?_
  refine zg_iload_n (i := 1) dX3_execute_478 rfl rfl ?_
  refine zg_callVi (cm_pop hS mu (by omega) hP) dX3_execute_479 cvX3_pop mlX3_87 rfl (by assumption) (by assumption) rfl (Nat.le_of_ble_eq_true rfl) ⟨by decide, by decide⟩ ⟨Nat.le_refl _, Nat.le_refl _⟩ (fun r mu2 h2 => ?_)
  obtain ⟨rfl, rfl⟩ := h2
  refine zg_pop dX3_execute_482 ?_
  refine zg_goto (tgt := 694) dX3_execute_483 (by decide) ?_
  exact zg_vret dX3_execute_694 rfl ⟨rfl, rfl, by rw [qx_36]⟩
set_option maxRecDepth 20000 in
theorem lm_ex62 {S : zS} {m : Nat} (hS : MS S m) (mu : zU) {v : Nat → Int32} {ol : List Nat} {pp i : Nat} (hV : VI v ol) (hi : ol[i]? = some pp) : zG RX3 "execute" cX3_execute 5 none (zroom 4 0 0) 0 0 (zPv S (fun mu2 => mu2 = zrow mu (m + 1) (qexec v pp (nI 62)))) 486 [some (.inr (m + 1)), some (.inl (nI pp)), some (.inl (nI 62)), none, none] [] S (zrow mu (m + 1) v) 0 0 := by
  obtain ⟨⟨hN, k0, k1, -⟩, r0, -⟩ := id hS
  have hN0 : m < S.1 := by omega
  have hN1 : m + 1 < S.1 := by omega
  have hpp := (hV.2.1 i pp hi).2
  have hl4 := hV.1.2.2
  obtain ⟨x, y, dr, ss, sl, ns, s0, s1, s2, hP⟩ := hV.2.2.2.2.1 pp hpp
  obtain ⟨t0, t1, t2, hQ, -⟩ := hP.pop1
  refine zg_aload_n (i := 0) dX3_execute_486 rfl rfl ?_
  refine zg_iload_n (i := 1) dX3_execute_487 rfl rfl ?_
  refine zg_iconst (v := nI 2) dX3_execute_488 (by decide) ?_
  refine zg_iconst (v := nI 0) dX3_execute_489 (by decide) ?_
  refine zg_callVv (cm_put hS mu v (p := pp) (w := 2) (by omega) _) dX3_execute_490 cvX3_put mlX3_80 rfl (by assumption) (by assumption) rfl (Nat.le_of_ble_eq_true rfl) ⟨by decide, by decide⟩ ⟨Nat.le_refl _, Nat.le_refl _⟩ (fun mu2 h2 => ?_)
  subst h2
  refine zg_goto (tgt := 694) dX3_execute_493 (by decide) ?_
  exact zg_vret dX3_execute_694 rfl ⟨rfl, rfl, by rw [qx_62]⟩
set_option maxRecDepth 20000 in
theorem lm_ex118 {S : zS} {m : Nat} (hS : MS S m) (mu : zU) {v : Nat → Int32} {ol : List Nat} {pp i : Nat} (hV : VI v ol) (hi : ol[i]? = some pp) : zG RX3 "execute" cX3_execute 5 none (zroom 4 0 0) 0 0 (zPv S (fun mu2 => mu2 = zrow mu (m + 1) (qexec v pp (nI 118)))) 496 [some (.inr (m + 1)), some (.inl (nI pp)), some (.inl (nI 118)), none, none] [] S (zrow mu (m + 1) v) 0 0 := by
  obtain ⟨⟨hN, k0, k1, -⟩, r0, -⟩ := id hS
  have hN0 : m < S.1 := by omega
  have hN1 : m + 1 < S.1 := by omega
  have hpp := (hV.2.1 i pp hi).2
  have hl4 := hV.1.2.2
  obtain ⟨x, y, dr, ss, sl, ns, s0, s1, s2, hP⟩ := hV.2.2.2.2.1 pp hpp
  obtain ⟨t0, t1, t2, hQ, -⟩ := hP.pop1
  refine zg_aload_n (i := 0) dX3_execute_496 rfl rfl ?_
  refine zg_iload_n (i := 1) dX3_execute_497 rfl rfl ?_
  refine zg_iconst (v := nI 2) dX3_execute_498 (by decide) ?_
  refine zg_iconst (v := nI 1) dX3_execute_499 (by decide) ?_
  refine zg_callVv (cm_put hS mu v (p := pp) (w := 2) (by omega) _) dX3_execute_500 cvX3_put mlX3_80 rfl (by assumption) (by assumption) rfl (Nat.le_of_ble_eq_true rfl) ⟨by decide, by decide⟩ ⟨Nat.le_refl _, Nat.le_refl _⟩ (fun mu2 h2 => ?_)
  subst h2
  refine zg_goto (tgt := 694) dX3_execute_503 (by decide) ?_
  exact zg_vret dX3_execute_694 rfl ⟨rfl, rfl, by rw [qx_118]⟩
set_option maxRecDepth 20000 in
theorem lm_ex60 {S : zS} {m : Nat} (hS : MS S m) (mu : zU) {v : Nat → Int32} {ol : List Nat} {pp i : Nat} (hV : VI v ol) (hi : ol[i]? = some pp) : zG RX3 "execute" cX3_execute 5 none (zroom 4 0 0) 0 0 (zPv S (fun mu2 => mu2 = zrow mu (m + 1) (qexec v pp (nI 60)))) 506 [some (.inr (m + 1)), some (.inl (nI pp)), some (.inl (nI 60)), none, none] [] S (zrow mu (m + 1) v) 0 0 := by
  obtain ⟨⟨hN, k0, k1, -⟩, r0, -⟩ := id hS
  have hN0 : m < S.1 := by omega
  have hN1 : m + 1 < S.1 := by omega
  have hpp := (hV.2.1 i pp hi).2
  have hl4 := hV.1.2.2
  obtain ⟨x, y, dr, ss, sl, ns, s0, s1, s2, hP⟩ := hV.2.2.2.2.1 pp hpp
  obtain ⟨t0, t1, t2, hQ, -⟩ := hP.pop1
  refine zg_aload_n (i := 0) dX3_execute_506 rfl rfl ?_
  refine zg_iload_n (i := 1) dX3_execute_507 rfl rfl ?_
  refine zg_iconst (v := nI 2) dX3_execute_508 (by decide) ?_
  refine zg_iconst (v := nI 2) dX3_execute_509 (by decide) ?_
  refine zg_callVv (cm_put hS mu v (p := pp) (w := 2) (by omega) _) dX3_execute_510 cvX3_put mlX3_80 rfl (by assumption) (by assumption) rfl (Nat.le_of_ble_eq_true rfl) ⟨by decide, by decide⟩ ⟨Nat.le_refl _, Nat.le_refl _⟩ (fun mu2 h2 => ?_)
  subst h2
  refine zg_goto (tgt := 694) dX3_execute_513 (by decide) ?_
  exact zg_vret dX3_execute_694 rfl ⟨rfl, rfl, by rw [qx_60]⟩
set_option maxRecDepth 20000 in
theorem lm_ex94 {S : zS} {m : Nat} (hS : MS S m) (mu : zU) {v : Nat → Int32} {ol : List Nat} {pp i : Nat} (hV : VI v ol) (hi : ol[i]? = some pp) : zG RX3 "execute" cX3_execute 5 none (zroom 4 0 0) 0 0 (zPv S (fun mu2 => mu2 = zrow mu (m + 1) (qexec v pp (nI 94)))) 516 [some (.inr (m + 1)), some (.inl (nI pp)), some (.inl (nI 94)), none, none] [] S (zrow mu (m + 1) v) 0 0 := by
  obtain ⟨⟨hN, k0, k1, -⟩, r0, -⟩ := id hS
  have hN0 : m < S.1 := by omega
  have hN1 : m + 1 < S.1 := by omega
  have hpp := (hV.2.1 i pp hi).2
  have hl4 := hV.1.2.2
  obtain ⟨x, y, dr, ss, sl, ns, s0, s1, s2, hP⟩ := hV.2.2.2.2.1 pp hpp
  obtain ⟨t0, t1, t2, hQ, -⟩ := hP.pop1
  refine zg_aload_n (i := 0) dX3_execute_516 rfl rfl ?_
  refine zg_iload_n (i := 1) dX3_execute_517 rfl rfl ?_
  refine zg_iconst (v := nI 2) dX3_execute_518 (by decide) ?_
  refine zg_iconst (v := nI 3) dX3_execute_519 (by decide) ?_
  refine zg_callVv (cm_put hS mu v (p := pp) (w := 2) (by omega) _) dX3_execute_520 cvX3_put mlX3_80 rfl (by assumption) (by assumption) rfl (Nat.le_of_ble_eq_true rfl) ⟨by decide, by decide⟩ ⟨Nat.le_refl _, Nat.le_refl _⟩ (fun mu2 h2 => ?_)
  subst h2
  refine zg_goto (tgt := 694) dX3_execute_523 (by decide) ?_
  exact zg_vret dX3_execute_694 rfl ⟨rfl, rfl, by rw [qx_94]⟩
set_option maxRecDepth 20000 in
theorem lm_ex95 {S : zS} {m : Nat} (hS : MS S m) (mu : zU) {v : Nat → Int32} {ol : List Nat} {pp i : Nat} (hV : VI v ol) (hi : ol[i]? = some pp) : zG RX3 "execute" cX3_execute 5 none (zroom 4 0 0) 0 0 (zPv S (fun mu2 => mu2 = zrow mu (m + 1) (qexec v pp (nI 95)))) 526 [some (.inr (m + 1)), some (.inl (nI pp)), some (.inl (nI 95)), none, none] [] S (zrow mu (m + 1) v) 0 0 := by
  obtain ⟨⟨hN, k0, k1, -⟩, r0, -⟩ := id hS
  have hN0 : m < S.1 := by omega
  have hN1 : m + 1 < S.1 := by omega
  have hpp := (hV.2.1 i pp hi).2
  have hl4 := hV.1.2.2
  obtain ⟨x, y, dr, ss, sl, ns, s0, s1, s2, hP⟩ := hV.2.2.2.2.1 pp hpp
  obtain ⟨t0, t1, t2, hQ, -⟩ := hP.pop1
  refine zg_aload_n (i := 0) dX3_execute_526 rfl rfl ?_
  refine zg_iload_n (i := 1) dX3_execute_527 rfl rfl ?_
  refine zg_iconst (v := nI 2) dX3_execute_528 (by decide) ?_
  refine zg_aload_n (i := 0) dX3_execute_529 rfl rfl ?_
  refine zg_iload_n (i := 1) dX3_execute_530 rfl rfl ?_
  refine zg_callVi (cm_pop hS mu (by omega) hP) dX3_execute_531 cvX3_pop mlX3_87 rfl (by assumption) (by assumption) rfl (Nat.le_of_ble_eq_true rfl) ⟨by decide, by decide⟩ ⟨Nat.le_refl _, Nat.le_refl _⟩ (fun r mu2 h2 => ?_)
  obtain ⟨rfl, rfl⟩ := h2
  refine zg_if_ne (tgt := 541) dX3_execute_534 (by decide) (fun cz => ?_) (fun cz => ?_)
  · refine zg_iconst (v := nI 2) dX3_execute_541 (by decide) ?_
    refine zg_callVv (cm_put hS mu _ (p := pp) (w := 2) (by omega) _) dX3_execute_542 cvX3_put mlX3_80 rfl (by assumption) (by assumption) rfl (Nat.le_of_ble_eq_true rfl) ⟨by decide, by decide⟩ ⟨Nat.le_refl _, Nat.le_refl _⟩ (fun mu2 h2 => ?_)
    subst h2
    refine zg_goto (tgt := 694) dX3_execute_545 (by decide) ?_
    exact zg_vret dX3_execute_694 rfl ⟨rfl, rfl, by rw [qx_95, if_neg cz]⟩
  · refine zg_iconst (v := nI 0) dX3_execute_537 (by decide) ?_
    refine zg_goto (tgt := 542) dX3_execute_538 (by decide) ?_
    refine zg_callVv (cm_put hS mu _ (p := pp) (w := 2) (by omega) _) dX3_execute_542 cvX3_put mlX3_80 rfl (by assumption) (by assumption) rfl (Nat.le_of_ble_eq_true rfl) ⟨by decide, by decide⟩ ⟨Nat.le_refl _, Nat.le_refl _⟩ (fun mu2 h2 => ?_)
    subst h2
    refine zg_goto (tgt := 694) dX3_execute_545 (by decide) ?_
    exact zg_vret dX3_execute_694 rfl ⟨rfl, rfl, by rw [qx_95, if_pos cz]⟩
set_option maxRecDepth 20000 in
theorem lm_ex124 {S : zS} {m : Nat} (hS : MS S m) (mu : zU) {v : Nat → Int32} {ol : List Nat} {pp i : Nat} (hV : VI v ol) (hi : ol[i]? = some pp) : zG RX3 "execute" cX3_execute 5 none (zroom 4 0 0) 0 0 (zPv S (fun mu2 => mu2 = zrow mu (m + 1) (qexec v pp (nI 124)))) 548 [some (.inr (m + 1)), some (.inl (nI pp)), some (.inl (nI 124)), none, none] [] S (zrow mu (m + 1) v) 0 0 := by
  obtain ⟨⟨hN, k0, k1, -⟩, r0, -⟩ := id hS
  have hN0 : m < S.1 := by omega
  have hN1 : m + 1 < S.1 := by omega
  have hpp := (hV.2.1 i pp hi).2
  have hl4 := hV.1.2.2
  obtain ⟨x, y, dr, ss, sl, ns, s0, s1, s2, hP⟩ := hV.2.2.2.2.1 pp hpp
  obtain ⟨t0, t1, t2, hQ, -⟩ := hP.pop1
  refine zg_aload_n (i := 0) dX3_execute_548 rfl rfl ?_
  refine zg_iload_n (i := 1) dX3_execute_549 rfl rfl ?_
  refine zg_iconst (v := nI 2) dX3_execute_550 (by decide) ?_
  refine zg_aload_n (i := 0) dX3_execute_551 rfl rfl ?_
  refine zg_iload_n (i := 1) dX3_execute_552 rfl rfl ?_
  refine zg_callVi (cm_pop hS mu (by omega) hP) dX3_execute_553 cvX3_pop mlX3_87 rfl (by assumption) (by assumption) rfl (Nat.le_of_ble_eq_true rfl) ⟨by decide, by decide⟩ ⟨Nat.le_refl _, Nat.le_refl _⟩ (fun r mu2 h2 => ?_)
  obtain ⟨rfl, rfl⟩ := h2
  refine zg_if_ne (tgt := 563) dX3_execute_556 (by decide) (fun cz => ?_) (fun cz => ?_)
  · refine zg_iconst (v := nI 3) dX3_execute_563 (by decide) ?_
    refine zg_callVv (cm_put hS mu _ (p := pp) (w := 2) (by omega) _) dX3_execute_564 cvX3_put mlX3_80 rfl (by assumption) (by assumption) rfl (Nat.le_of_ble_eq_true rfl) ⟨by decide, by decide⟩ ⟨Nat.le_refl _, Nat.le_refl _⟩ (fun mu2 h2 => ?_)
    subst h2
    refine zg_goto (tgt := 694) dX3_execute_567 (by decide) ?_
    exact zg_vret dX3_execute_694 rfl ⟨rfl, rfl, by rw [qx_124, if_neg cz]⟩
  · refine zg_iconst (v := nI 1) dX3_execute_559 (by decide) ?_
    refine zg_goto (tgt := 564) dX3_execute_560 (by decide) ?_
    refine zg_callVv (cm_put hS mu _ (p := pp) (w := 2) (by omega) _) dX3_execute_564 cvX3_put mlX3_80 rfl (by assumption) (by assumption) rfl (Nat.le_of_ble_eq_true rfl) ⟨by decide, by decide⟩ ⟨Nat.le_refl _, Nat.le_refl _⟩ (fun mu2 h2 => ?_)
    subst h2
    refine zg_goto (tgt := 694) dX3_execute_567 (by decide) ?_
    exact zg_vret dX3_execute_694 rfl ⟨rfl, rfl, by rw [qx_124, if_pos cz]⟩
set_option maxRecDepth 20000 in
theorem lm_ex91 {S : zS} {m : Nat} (hS : MS S m) (mu : zU) {v : Nat → Int32} {ol : List Nat} {pp i : Nat} (hV : VI v ol) (hi : ol[i]? = some pp) : zG RX3 "execute" cX3_execute 5 none (zroom 4 0 0) 0 0 (zPv S (fun mu2 => mu2 = zrow mu (m + 1) (qexec v pp (nI 91)))) 570 [some (.inr (m + 1)), some (.inl (nI pp)), some (.inl (nI 91)), none, none] [] S (zrow mu (m + 1) v) 0 0 := by
  obtain ⟨⟨hN, k0, k1, -⟩, r0, -⟩ := id hS
  have hN0 : m < S.1 := by omega
  have hN1 : m + 1 < S.1 := by omega
  have hpp := (hV.2.1 i pp hi).2
  have hl4 := hV.1.2.2
  obtain ⟨x, y, dr, ss, sl, ns, s0, s1, s2, hP⟩ := hV.2.2.2.2.1 pp hpp
  obtain ⟨t0, t1, t2, hQ, -⟩ := hP.pop1
  refine zg_aload_n (i := 0) dX3_execute_570 rfl rfl ?_
  refine zg_iload_n (i := 1) dX3_execute_571 rfl rfl ?_
  refine zg_iconst (v := nI 3) dX3_execute_572 (by decide) ?_
  refine zg_callVv (cm_turn hS mu (by omega) hP (n := 3) (by omega)) dX3_execute_573 cvX3_turn mlX3_93 rfl (by assumption) (by assumption) rfl (Nat.le_of_ble_eq_true rfl) ⟨by decide, by decide⟩ ⟨Nat.le_refl _, Nat.le_refl _⟩ (fun mu2 h2 => ?_)
  subst h2
  refine zg_goto (tgt := 694) dX3_execute_576 (by decide) ?_
  exact zg_vret dX3_execute_694 rfl ⟨rfl, rfl, by rw [qx_91]⟩
set_option maxRecDepth 20000 in
theorem lm_ex93 {S : zS} {m : Nat} (hS : MS S m) (mu : zU) {v : Nat → Int32} {ol : List Nat} {pp i : Nat} (hV : VI v ol) (hi : ol[i]? = some pp) : zG RX3 "execute" cX3_execute 5 none (zroom 4 0 0) 0 0 (zPv S (fun mu2 => mu2 = zrow mu (m + 1) (qexec v pp (nI 93)))) 579 [some (.inr (m + 1)), some (.inl (nI pp)), some (.inl (nI 93)), none, none] [] S (zrow mu (m + 1) v) 0 0 := by
  obtain ⟨⟨hN, k0, k1, -⟩, r0, -⟩ := id hS
  have hN0 : m < S.1 := by omega
  have hN1 : m + 1 < S.1 := by omega
  have hpp := (hV.2.1 i pp hi).2
  have hl4 := hV.1.2.2
  obtain ⟨x, y, dr, ss, sl, ns, s0, s1, s2, hP⟩ := hV.2.2.2.2.1 pp hpp
  obtain ⟨t0, t1, t2, hQ, -⟩ := hP.pop1
  refine zg_aload_n (i := 0) dX3_execute_579 rfl rfl ?_
  refine zg_iload_n (i := 1) dX3_execute_580 rfl rfl ?_
  refine zg_iconst (v := nI 1) dX3_execute_581 (by decide) ?_
  refine zg_callVv (cm_turn hS mu (by omega) hP (n := 1) (by omega)) dX3_execute_582 cvX3_turn mlX3_93 rfl (by assumption) (by assumption) rfl (Nat.le_of_ble_eq_true rfl) ⟨by decide, by decide⟩ ⟨Nat.le_refl _, Nat.le_refl _⟩ (fun mu2 h2 => ?_)
  subst h2
  refine zg_goto (tgt := 694) dX3_execute_585 (by decide) ?_
  exact zg_vret dX3_execute_694 rfl ⟨rfl, rfl, by rw [qx_93]⟩
set_option maxRecDepth 20000 in
theorem lm_ex114 {S : zS} {m : Nat} (hS : MS S m) (mu : zU) {v : Nat → Int32} {ol : List Nat} {pp i : Nat} (hV : VI v ol) (hi : ol[i]? = some pp) : zG RX3 "execute" cX3_execute 5 none (zroom 4 0 0) 0 0 (zPv S (fun mu2 => mu2 = zrow mu (m + 1) (qexec v pp (nI 114)))) 588 [some (.inr (m + 1)), some (.inl (nI pp)), some (.inl (nI 114)), none, none] [] S (zrow mu (m + 1) v) 0 0 := by
  obtain ⟨⟨hN, k0, k1, -⟩, r0, -⟩ := id hS
  have hN0 : m < S.1 := by omega
  have hN1 : m + 1 < S.1 := by omega
  have hpp := (hV.2.1 i pp hi).2
  have hl4 := hV.1.2.2
  obtain ⟨x, y, dr, ss, sl, ns, s0, s1, s2, hP⟩ := hV.2.2.2.2.1 pp hpp
  obtain ⟨t0, t1, t2, hQ, -⟩ := hP.pop1
  refine zg_aload_n (i := 0) dX3_execute_588 rfl rfl ?_
  refine zg_iload_n (i := 1) dX3_execute_589 rfl rfl ?_
  refine zg_iconst (v := nI 2) dX3_execute_590 (by decide) ?_
  refine zg_callVv (cm_turn hS mu (by omega) hP (n := 2) (by omega)) dX3_execute_591 cvX3_turn mlX3_93 rfl (by assumption) (by assumption) rfl (Nat.le_of_ble_eq_true rfl) ⟨by decide, by decide⟩ ⟨Nat.le_refl _, Nat.le_refl _⟩ (fun mu2 h2 => ?_)
  subst h2
  refine zg_goto (tgt := 694) dX3_execute_594 (by decide) ?_
  exact zg_vret dX3_execute_694 rfl ⟨rfl, rfl, by rw [qx_114]⟩
set_option maxRecDepth 20000 in
theorem lm_ex35 {S : zS} {m : Nat} (hS : MS S m) (mu : zU) {v : Nat → Int32} {ol : List Nat} {pp i : Nat} (hV : VI v ol) (hi : ol[i]? = some pp) : zG RX3 "execute" cX3_execute 5 none (zroom 4 0 0) 0 0 (zPv S (fun mu2 => mu2 = zrow mu (m + 1) (qexec v pp (nI 35)))) 597 [some (.inr (m + 1)), some (.inl (nI pp)), some (.inl (nI 35)), none, none] [] S (zrow mu (m + 1) v) 0 0 := by
  obtain ⟨⟨hN, k0, k1, -⟩, r0, -⟩ := id hS
  have hN0 : m < S.1 := by omega
  have hN1 : m + 1 < S.1 := by omega
  have hpp := (hV.2.1 i pp hi).2
  have hl4 := hV.1.2.2
  obtain ⟨x, y, dr, ss, sl, ns, s0, s1, s2, hP⟩ := hV.2.2.2.2.1 pp hpp
  obtain ⟨t0, t1, t2, hQ, -⟩ := hP.pop1
  refine zg_aload_n (i := 0) dX3_execute_597 rfl rfl ?_
  refine zg_iload_n (i := 1) dX3_execute_598 rfl rfl ?_
  refine zg_callVv (cm_move hS mu (by omega) hP) dX3_execute_599 cvX3_move mlX3_100 rfl (by assumption) (by assumption) rfl (Nat.le_of_ble_eq_true rfl) ⟨by decide, by decide⟩ ⟨Nat.le_refl _, Nat.le_refl _⟩ (fun mu2 h2 => ?_)
  subst h2
  refine zg_goto (tgt := 694) dX3_execute_602 (by decide) ?_
  exact zg_vret dX3_execute_694 rfl ⟨rfl, rfl, by rw [qx_35]⟩
set_option maxRecDepth 20000 in
theorem lm_ex103 {S : zS} {m : Nat} (hS : MS S m) (mu : zU) {v : Nat → Int32} {ol : List Nat} {pp i : Nat} (hV : VI v ol) (hi : ol[i]? = some pp) : zG RX3 "execute" cX3_execute 5 none (zroom 4 0 0) 0 0 (zPv S (fun mu2 => mu2 = zrow mu (m + 1) (qexec v pp (nI 103)))) 605 [some (.inr (m + 1)), some (.inl (nI pp)), some (.inl (nI 103)), none, none] [] S (zrow mu (m + 1) v) 0 0 := by
  obtain ⟨⟨hN, k0, k1, -⟩, r0, -⟩ := id hS
  have hN0 : m < S.1 := by omega
  have hN1 : m + 1 < S.1 := by omega
  have hpp := (hV.2.1 i pp hi).2
  have hl4 := hV.1.2.2
  obtain ⟨x, y, dr, ss, sl, ns, s0, s1, s2, hP⟩ := hV.2.2.2.2.1 pp hpp
  obtain ⟨t0, t1, t2, hQ, -⟩ := hP.pop1
  refine zg_aload_n (i := 0) dX3_execute_605 rfl rfl ?_
  refine zg_iload_n (i := 1) dX3_execute_606 rfl rfl ?_
  refine zg_callVv (cm_fetch hS mu (by omega) hP) dX3_execute_607 cvX3_fetch mlX3_117 rfl (by assumption) (by assumption) rfl (Nat.le_of_ble_eq_true rfl) ⟨by decide, by decide⟩ ⟨Nat.le_refl _, Nat.le_refl _⟩ (fun mu2 h2 => ?_)
  subst h2
  refine zg_goto (tgt := 694) dX3_execute_610 (by decide) ?_
  exact zg_vret dX3_execute_694 rfl ⟨rfl, rfl, by rw [qx_103]⟩
set_option maxRecDepth 20000 in
theorem lm_ex112 {S : zS} {m : Nat} (hS : MS S m) (mu : zU) {v : Nat → Int32} {ol : List Nat} {pp i : Nat} (hV : VI v ol) (hi : ol[i]? = some pp) : zG RX3 "execute" cX3_execute 5 none (zroom 4 0 0) 0 0 (zPv S (fun mu2 => mu2 = zrow mu (m + 1) (qexec v pp (nI 112)))) 613 [some (.inr (m + 1)), some (.inl (nI pp)), some (.inl (nI 112)), none, none] [] S (zrow mu (m + 1) v) 0 0 := by
  obtain ⟨⟨hN, k0, k1, -⟩, r0, -⟩ := id hS
  have hN0 : m < S.1 := by omega
  have hN1 : m + 1 < S.1 := by omega
  have hpp := (hV.2.1 i pp hi).2
  have hl4 := hV.1.2.2
  obtain ⟨x, y, dr, ss, sl, ns, s0, s1, s2, hP⟩ := hV.2.2.2.2.1 pp hpp
  obtain ⟨t0, t1, t2, hQ, -⟩ := hP.pop1
  refine zg_aload_n (i := 0) dX3_execute_613 rfl rfl ?_
  refine zg_iload_n (i := 1) dX3_execute_614 rfl rfl ?_
  refine zg_callVv (cm_store hS mu (by omega) hP) dX3_execute_615 cvX3_store mlX3_120 rfl (by assumption) (by assumption) rfl (Nat.le_of_ble_eq_true rfl) ⟨by decide, by decide⟩ ⟨Nat.le_refl _, Nat.le_refl _⟩ (fun mu2 h2 => ?_)
  subst h2
  refine zg_goto (tgt := 694) dX3_execute_618 (by decide) ?_
  exact zg_vret dX3_execute_694 rfl ⟨rfl, rfl, by rw [qx_112]⟩
set_option maxRecDepth 20000 in
theorem lm_ex46 {S : zS} {m : Nat} (hS : MS S m) (mu : zU) {v : Nat → Int32} {ol : List Nat} {pp i : Nat} (hV : VI v ol) (hi : ol[i]? = some pp) : zG RX3 "execute" cX3_execute 5 none (zroom 4 0 0) 0 0 (zPv S (fun mu2 => mu2 = zrow mu (m + 1) (qexec v pp (nI 46)))) 621 [some (.inr (m + 1)), some (.inl (nI pp)), some (.inl (nI 46)), none, none] [] S (zrow mu (m + 1) v) 0 0 := by
  obtain ⟨⟨hN, k0, k1, -⟩, r0, -⟩ := id hS
  have hN0 : m < S.1 := by omega
  have hN1 : m + 1 < S.1 := by omega
  have hpp := (hV.2.1 i pp hi).2
  have hl4 := hV.1.2.2
  obtain ⟨x, y, dr, ss, sl, ns, s0, s1, s2, hP⟩ := hV.2.2.2.2.1 pp hpp
  obtain ⟨t0, t1, t2, hQ, -⟩ := hP.pop1
  obtain ⟨k, kk1, kk2, -⟩ := (VI_ptr hV hpp (PO_pop ⟨_, _, _, _, _, _, _, _, _, hP⟩)).2.2.2.2.2.2.2
  refine zg_aload_n (i := 0) dX3_execute_621 rfl rfl ?_
  refine zg_aload_n (i := 0) dX3_execute_622 rfl rfl ?_
  refine zg_iload_n (i := 1) dX3_execute_623 rfl rfl ?_
  refine zg_callVi (cm_pop hS mu (by omega) hP) dX3_execute_624 cvX3_pop mlX3_87 rfl (by assumption) (by assumption) rfl (Nat.le_of_ble_eq_true rfl) ⟨by decide, by decide⟩ ⟨Nat.le_refl _, Nat.le_refl _⟩ (fun r mu2 h2 => ?_)
  obtain ⟨rfl, rfl⟩ := h2
  refine zg_callVv (cm_output hS mu kk1 kk2 _) dX3_execute_627 cvX3_output mlX3_123 rfl (by assumption) (by assumption) rfl (Nat.le_of_ble_eq_true rfl) ⟨by decide, by decide⟩ ⟨Nat.le_refl _, Nat.le_refl _⟩ (fun mu2 h2 => ?_)
  subst h2
  refine zg_goto (tgt := 694) dX3_execute_630 (by decide) ?_
  exact zg_vret dX3_execute_694 rfl ⟨rfl, rfl, by rw [qx_46]⟩
set_option maxRecDepth 20000 in
theorem lm_ex126 {S : zS} {m : Nat} (hS : MS S m) (mu : zU) {v : Nat → Int32} {ol : List Nat} {pp i : Nat} (hV : VI v ol) (hi : ol[i]? = some pp) : zG RX3 "execute" cX3_execute 5 none (zroom 4 0 0) 0 0 (zPv S (fun mu2 => mu2 = zrow mu (m + 1) (qexec v pp (nI 126)))) 633 [some (.inr (m + 1)), some (.inl (nI pp)), some (.inl (nI 126)), none, none] [] S (zrow mu (m + 1) v) 0 0 := by
  obtain ⟨⟨hN, k0, k1, -⟩, r0, -⟩ := id hS
  have hN0 : m < S.1 := by omega
  have hN1 : m + 1 < S.1 := by omega
  have hpp := (hV.2.1 i pp hi).2
  have hl4 := hV.1.2.2
  obtain ⟨x, y, dr, ss, sl, ns, s0, s1, s2, hP⟩ := hV.2.2.2.2.1 pp hpp
  obtain ⟨t0, t1, t2, hQ, -⟩ := hP.pop1
  obtain ⟨n, kk1, kk2, -⟩ := hV.2.2.2.2.2.2.1
  refine zg_aload_n (i := 0) dX3_execute_633 rfl rfl ?_
  refine zg_iload_n (i := 1) dX3_execute_634 rfl rfl ?_
  refine zg_callVv (cm_input hS mu (by omega) hP kk1 kk2) dX3_execute_635 cvX3_input mlX3_126 rfl (by assumption) (by assumption) rfl (Nat.le_of_ble_eq_true rfl) ⟨by decide, by decide⟩ ⟨Nat.le_refl _, Nat.le_refl _⟩ (fun mu2 h2 => ?_)
  subst h2
  refine zg_goto (tgt := 694) dX3_execute_638 (by decide) ?_
  exact zg_vret dX3_execute_694 rfl ⟨rfl, rfl, by rw [qx_126]⟩
set_option maxRecDepth 20000 in
theorem lm_ex119 {S : zS} {m : Nat} (hS : MS S m) (mu : zU) {v : Nat → Int32} {ol : List Nat} {pp i : Nat} (hV : VI v ol) (hi : ol[i]? = some pp) : zG RX3 "execute" cX3_execute 5 none (zroom 4 0 0) 0 0 (zPv S (fun mu2 => mu2 = zrow mu (m + 1) (qexec v pp (nI 119)))) 641 [some (.inr (m + 1)), some (.inl (nI pp)), some (.inl (nI 119)), none, none] [] S (zrow mu (m + 1) v) 0 0 := by
  obtain ⟨⟨hN, k0, k1, -⟩, r0, -⟩ := id hS
  have hN0 : m < S.1 := by omega
  have hN1 : m + 1 < S.1 := by omega
  have hpp := (hV.2.1 i pp hi).2
  have hl4 := hV.1.2.2
  obtain ⟨x, y, dr, ss, sl, ns, s0, s1, s2, hP⟩ := hV.2.2.2.2.1 pp hpp
  obtain ⟨t0, t1, t2, hQ, -⟩ := hP.pop1
  refine zg_aload_n (i := 0) dX3_execute_641 rfl rfl ?_
  refine zg_iload_n (i := 1) dX3_execute_642 rfl rfl ?_
  refine zg_iconst (v := nI 4) dX3_execute_643 (by decide) ?_
  refine zg_aload_n (i := 0) dX3_execute_644 rfl rfl ?_
  refine zg_iload_n (i := 1) dX3_execute_645 rfl rfl ?_
  refine zg_callVi (cm_pop hS mu (by omega) hP) dX3_execute_646 cvX3_pop mlX3_87 rfl (by assumption) (by assumption) rfl (Nat.le_of_ble_eq_true rfl) ⟨by decide, by decide⟩ ⟨Nat.le_refl _, Nat.le_refl _⟩ (fun r mu2 h2 => ?_)
  obtain ⟨rfl, rfl⟩ := h2
  refine zg_bipush (v := nI 9) dX3_execute_649 (by decide) ?_
  refine zg_callSi (cm_clamp S _ _ (n := 9) (by omega)) dX3_execute_651 ctX3_clamp mlX3_90 rfl rfl (Nat.le_of_ble_eq_true rfl) ⟨by decide, by decide⟩ ⟨Nat.le_refl _, Nat.le_refl _⟩ (fun r mu2 h2 => ?_)
  obtain ⟨rfl, rfl⟩ := h2
  refine zg_callVv (cm_put hS mu _ (p := pp) (w := 4) (by omega) _) dX3_execute_654 cvX3_put mlX3_80 rfl (by assumption) (by assumption) rfl (Nat.le_of_ble_eq_true rfl) ⟨by decide, by decide⟩ ⟨Nat.le_refl _, Nat.le_refl _⟩ (fun mu2 h2 => ?_)
  subst h2
  refine zg_goto (tgt := 694) dX3_execute_657 (by decide) ?_
  exact zg_vret dX3_execute_694 rfl ⟨rfl, rfl, by rw [qx_119]⟩
set_option maxRecDepth 20000 in
theorem lm_ex116 {S : zS} {m : Nat} (hS : MS S m) (mu : zU) {v : Nat → Int32} {ol : List Nat} {pp i : Nat} (hV : VI v ol) (hi : ol[i]? = some pp) : zG RX3 "execute" cX3_execute 5 none (zroom 4 0 0) 0 0 (zPv S (fun mu2 => mu2 = zrow mu (m + 1) (qexec v pp (nI 116)))) 660 [some (.inr (m + 1)), some (.inl (nI pp)), some (.inl (nI 116)), none, none] [] S (zrow mu (m + 1) v) 0 0 := by
  obtain ⟨⟨hN, k0, k1, -⟩, r0, -⟩ := id hS
  have hN0 : m < S.1 := by omega
  have hN1 : m + 1 < S.1 := by omega
  have hpp := (hV.2.1 i pp hi).2
  have hl4 := hV.1.2.2
  obtain ⟨x, y, dr, ss, sl, ns, s0, s1, s2, hP⟩ := hV.2.2.2.2.1 pp hpp
  obtain ⟨t0, t1, t2, hQ, -⟩ := hP.pop1
  refine zg_aload_n (i := 0) dX3_execute_660 rfl rfl ?_
  refine zg_iload_n (i := 1) dX3_execute_661 rfl rfl ?_
  refine zg_callVv (cm_split hS mu hV hi) dX3_execute_662 cvX3_split mlX3_129 rfl (by assumption) (by assumption) rfl (Nat.le_of_ble_eq_true rfl) ⟨by decide, by decide⟩ ⟨Nat.le_refl _, Nat.le_refl _⟩ (fun mu2 h2 => ?_)
  subst h2
  refine zg_goto (tgt := 694) dX3_execute_665 (by decide) ?_
  exact zg_vret dX3_execute_694 rfl ⟨rfl, rfl, by rw [qx_116]⟩
set_option maxRecDepth 20000 in
theorem lm_ex123 {S : zS} {m : Nat} (hS : MS S m) (mu : zU) {v : Nat → Int32} {ol : List Nat} {pp i : Nat} (hV : VI v ol) (hi : ol[i]? = some pp) : zG RX3 "execute" cX3_execute 5 none (zroom 4 0 0) 0 0 (zPv S (fun mu2 => mu2 = zrow mu (m + 1) (qexec v pp (nI 123)))) 668 [some (.inr (m + 1)), some (.inl (nI pp)), some (.inl (nI 123)), none, none] [] S (zrow mu (m + 1) v) 0 0 := by
  obtain ⟨⟨hN, k0, k1, -⟩, r0, -⟩ := id hS
  have hN0 : m < S.1 := by omega
  have hN1 : m + 1 < S.1 := by omega
  have hpp := (hV.2.1 i pp hi).2
  have hl4 := hV.1.2.2
  obtain ⟨x, y, dr, ss, sl, ns, s0, s1, s2, hP⟩ := hV.2.2.2.2.1 pp hpp
  obtain ⟨t0, t1, t2, hQ, -⟩ := hP.pop1
  refine zg_aload_n (i := 0) dX3_execute_668 rfl rfl ?_
  refine zg_iload_n (i := 1) dX3_execute_669 rfl rfl ?_
  refine zg_callVv (cm_openStack hS mu (by omega) hP) dX3_execute_670 cvX3_openStack mlX3_132 rfl (by assumption) (by assumption) rfl (Nat.le_of_ble_eq_true rfl) ⟨by decide, by decide⟩ ⟨Nat.le_refl _, Nat.le_refl _⟩ (fun mu2 h2 => ?_)
  subst h2
  refine zg_goto (tgt := 694) dX3_execute_673 (by decide) ?_
  exact zg_vret dX3_execute_694 rfl ⟨rfl, rfl, by rw [qx_123]⟩
set_option maxRecDepth 20000 in
theorem lm_ex125 {S : zS} {m : Nat} (hS : MS S m) (mu : zU) {v : Nat → Int32} {ol : List Nat} {pp i : Nat} (hV : VI v ol) (hi : ol[i]? = some pp) : zG RX3 "execute" cX3_execute 5 none (zroom 4 0 0) 0 0 (zPv S (fun mu2 => mu2 = zrow mu (m + 1) (qexec v pp (nI 125)))) 676 [some (.inr (m + 1)), some (.inl (nI pp)), some (.inl (nI 125)), none, none] [] S (zrow mu (m + 1) v) 0 0 := by
  obtain ⟨⟨hN, k0, k1, -⟩, r0, -⟩ := id hS
  have hN0 : m < S.1 := by omega
  have hN1 : m + 1 < S.1 := by omega
  have hpp := (hV.2.1 i pp hi).2
  have hl4 := hV.1.2.2
  obtain ⟨x, y, dr, ss, sl, ns, s0, s1, s2, hP⟩ := hV.2.2.2.2.1 pp hpp
  obtain ⟨t0, t1, t2, hQ, -⟩ := hP.pop1
  refine zg_aload_n (i := 0) dX3_execute_676 rfl rfl ?_
  refine zg_iload_n (i := 1) dX3_execute_677 rfl rfl ?_
  refine zg_callVv (cm_closeStack hS mu (by omega) hP) dX3_execute_678 cvX3_closeStack mlX3_135 rfl (by assumption) (by assumption) rfl (Nat.le_of_ble_eq_true rfl) ⟨by decide, by decide⟩ ⟨Nat.le_refl _, Nat.le_refl _⟩ (fun mu2 h2 => ?_)
  subst h2
  refine zg_goto (tgt := 694) dX3_execute_681 (by decide) ?_
  exact zg_vret dX3_execute_694 rfl ⟨rfl, rfl, by rw [qx_125]⟩
set_option maxRecDepth 20000 in
theorem lm_ex64 {S : zS} {m : Nat} (hS : MS S m) (mu : zU) {v : Nat → Int32} {ol : List Nat} {pp i : Nat} (hV : VI v ol) (hi : ol[i]? = some pp) : zG RX3 "execute" cX3_execute 5 none (zroom 4 0 0) 0 0 (zPv S (fun mu2 => mu2 = zrow mu (m + 1) (qexec v pp (nI 64)))) 684 [some (.inr (m + 1)), some (.inl (nI pp)), some (.inl (nI 64)), none, none] [] S (zrow mu (m + 1) v) 0 0 := by
  obtain ⟨⟨hN, k0, k1, -⟩, r0, -⟩ := id hS
  have hN0 : m < S.1 := by omega
  have hN1 : m + 1 < S.1 := by omega
  have hpp := (hV.2.1 i pp hi).2
  have hl4 := hV.1.2.2
  obtain ⟨x, y, dr, ss, sl, ns, s0, s1, s2, hP⟩ := hV.2.2.2.2.1 pp hpp
  obtain ⟨t0, t1, t2, hQ, -⟩ := hP.pop1
  refine zg_aload_n (i := 0) dX3_execute_684 rfl rfl ?_
  refine zg_iload_n (i := 1) dX3_execute_685 rfl rfl ?_
  refine zg_iconst (v := nI 3) dX3_execute_686 (by decide) ?_
  refine zg_iconst (v := nI 1) dX3_execute_687 (by decide) ?_
  refine zg_callVv (cm_put hS mu v (p := pp) (w := 3) (by omega) _) dX3_execute_688 cvX3_put mlX3_80 rfl (by assumption) (by assumption) rfl (Nat.le_of_ble_eq_true rfl) ⟨by decide, by decide⟩ ⟨Nat.le_refl _, Nat.le_refl _⟩ (fun mu2 h2 => ?_)
  subst h2
  refine zg_goto (tgt := 694) dX3_execute_691 (by decide) ?_
  exact zg_vret dX3_execute_694 rfl ⟨rfl, rfl, by rw [qx_64]⟩
set_option maxRecDepth 20000 in
theorem cm_execute {S : zS} {m : Nat} (hS : MS S m) (mu : zU) {v : Nat → Int32} {ol : List Nat} {pp i : Nat} (hV : VI v ol) (hi : ol[i]? = some pp) (c : Int32) : zM yX3_execute cX3_execute 5 none 4 0 0 [.inr (m + 1), .inl (nI pp), .inl c] S (zrow mu (m + 1) v) (zPv S (fun mu2 => mu2 = zrow mu (m + 1) (qexec v pp c))) := by
  obtain ⟨⟨hN, k0, k1, -⟩, r0, -⟩ := id hS
  have hN0 : m < S.1 := by omega
  have hN1 : m + 1 < S.1 := by omega
  have hpp := (hV.2.1 i pp hi).2
  have hl4 := hV.1.2.2
  obtain ⟨x, y, dr, ss, sl, ns, s0, s1, s2, hP⟩ := hV.2.2.2.2.1 pp hpp
  obtain ⟨t0, t1, t2, hQ, -⟩ := hP.pop1
  refine zM.ofG (by decide +kernel) (Nat.le_of_ble_eq_true rfl) ?_
  refine zg_iload_n (i := 2) dX3_execute_0 rfl rfl ?_
  refine zg_bipush (v := nI 48) dX3_execute_1 (by decide) ?_
  refine zg_bipush (v := nI 57) dX3_execute_3 (by decide) ?_
  refine zg_callSi (cm_in S _ c (nI 48) (nI 57)) dX3_execute_5 ctX3_in mlX3_44 rfl rfl (Nat.le_of_ble_eq_true rfl) ⟨by decide, by decide⟩ ⟨Nat.le_refl _, Nat.le_refl _⟩ (fun r mu2 h2 => ?_)
  obtain ⟨rfl, rfl⟩ := h2
  by_cases hd : nI 48 ≤ c ∧ c ≤ nI 57
  · rw [if_pos hd]
    first | with_reducible refine zg_ifN_eq (tgt := 21) dX3_execute_8 (by decide) (by omega) (fun cz => ?_) (fun cz => ?_) | refine zg_if_eq (tgt := 21) dX3_execute_8 (by decide) (fun cz => ?_) (fun cz => ?_)
    · exact absurd cz (by decide)
    · refine zg_aload_n (i := 0) dX3_execute_11 rfl rfl ?_
      refine zg_iload_n (i := 1) dX3_execute_12 rfl rfl ?_
      refine zg_iload_n (i := 2) dX3_execute_13 rfl rfl ?_
      refine zg_bipush (v := nI 48) dX3_execute_14 (by decide) ?_
      first | with_reducible refine zg_isubN dX3_execute_16 (by omega) ?_ | refine zg_isub dX3_execute_16 ?_
      refine zg_callVv (cm_push hS mu (by omega) hP _) dX3_execute_17 cvX3_push mlX3_97 rfl (by assumption) (by assumption) rfl (Nat.le_of_ble_eq_true rfl) ⟨by decide, by decide⟩ ⟨Nat.le_refl _, Nat.le_refl _⟩ (fun mu2 h2 => ?_)
      subst h2
      refine zg_vret dX3_execute_20 rfl ⟨rfl, rfl, ?_⟩
      show zrow _ _ _ = zrow _ _ _
      rw [qx_perf v pp ⟨fun e => absurd (e ▸ hd) (by decide), fun e => absurd (e ▸ hd) (by decide), fun e => absurd (e ▸ hd) (by decide), fun e => absurd (e ▸ hd) (by decide), fun e => absurd (e ▸ hd) (by decide)⟩, qp_dig v _ hd]
  rw [if_neg hd]
  first | with_reducible refine zg_ifN_eq (tgt := 21) dX3_execute_8 (by decide) (by omega) (fun cz => ?_) (fun cz => ?_) | refine zg_if_eq (tgt := 21) dX3_execute_8 (by decide) (fun cz => ?_) (fun cz => ?_)
  · refine zg_iload_n (i := 2) dX3_execute_21 rfl rfl ?_
    by_cases c103 : c = nI 103
    · subst c103
      exact zg_tableIn (off := 583) (tgt := 605) dX3_execute_22 (by decide) (by decide) rfl (by decide) (lm_ex103 hS mu hV hi)
    by_cases c112 : c = nI 112
    · subst c112
      exact zg_tableIn (off := 591) (tgt := 613) dX3_execute_22 (by decide) (by decide) rfl (by decide) (lm_ex112 hS mu hV hi)
    by_cases c46 : c = nI 46
    · subst c46
      exact zg_tableIn (off := 599) (tgt := 621) dX3_execute_22 (by decide) (by decide) rfl (by decide) (lm_ex46 hS mu hV hi)
    by_cases c126 : c = nI 126
    · subst c126
      exact zg_tableIn (off := 611) (tgt := 633) dX3_execute_22 (by decide) (by decide) rfl (by decide) (lm_ex126 hS mu hV hi)
    by_cases c116 : c = nI 116
    · subst c116
      exact zg_tableIn (off := 638) (tgt := 660) dX3_execute_22 (by decide) (by decide) rfl (by decide) (lm_ex116 hS mu hV hi)
    by_cases c43 : c = nI 43
    · subst c43
      exact zg_tableIn (off := 390) (tgt := 412) dX3_execute_22 (by decide) (by decide) rfl (by decide) (lm_ex43 hS mu hV hi)
    by_cases c45 : c = nI 45
    · subst c45
      exact zg_tableIn (off := 390) (tgt := 412) dX3_execute_22 (by decide) (by decide) rfl (by decide) (lm_ex45 hS mu hV hi)
    by_cases c42 : c = nI 42
    · subst c42
      exact zg_tableIn (off := 390) (tgt := 412) dX3_execute_22 (by decide) (by decide) rfl (by decide) (lm_ex42 hS mu hV hi)
    by_cases c47 : c = nI 47
    · subst c47
      exact zg_tableIn (off := 390) (tgt := 412) dX3_execute_22 (by decide) (by decide) rfl (by decide) (lm_ex47 hS mu hV hi)
    by_cases c37 : c = nI 37
    · subst c37
      exact zg_tableIn (off := 390) (tgt := 412) dX3_execute_22 (by decide) (by decide) rfl (by decide) (lm_ex37 hS mu hV hi)
    by_cases c96 : c = nI 96
    · subst c96
      exact zg_tableIn (off := 390) (tgt := 412) dX3_execute_22 (by decide) (by decide) rfl (by decide) (lm_ex96 hS mu hV hi)
    by_cases c33 : c = nI 33
    · subst c33
      exact zg_tableIn (off := 418) (tgt := 440) dX3_execute_22 (by decide) (by decide) rfl (by decide) (lm_ex33 hS mu hV hi)
    by_cases c58 : c = nI 58
    · subst c58
      exact zg_tableIn (off := 439) (tgt := 461) dX3_execute_22 (by decide) (by decide) rfl (by decide) (lm_ex58 hS mu hV hi)
    by_cases c92 : c = nI 92
    · subst c92
      exact zg_tableIn (off := 447) (tgt := 469) dX3_execute_22 (by decide) (by decide) rfl (by decide) (lm_ex92 hS mu hV hi)
    by_cases c36 : c = nI 36
    · subst c36
      exact zg_tableIn (off := 455) (tgt := 477) dX3_execute_22 (by decide) (by decide) rfl (by decide) (lm_ex36 hS mu hV hi)
    by_cases c123 : c = nI 123
    · subst c123
      exact zg_tableIn (off := 646) (tgt := 668) dX3_execute_22 (by decide) (by decide) rfl (by decide) (lm_ex123 hS mu hV hi)
    by_cases c125 : c = nI 125
    · subst c125
      exact zg_tableIn (off := 654) (tgt := 676) dX3_execute_22 (by decide) (by decide) rfl (by decide) (lm_ex125 hS mu hV hi)
    by_cases c119 : c = nI 119
    · subst c119
      exact zg_tableIn (off := 619) (tgt := 641) dX3_execute_22 (by decide) (by decide) rfl (by decide) (lm_ex119 hS mu hV hi)
    by_cases c64 : c = nI 64
    · subst c64
      exact zg_tableIn (off := 662) (tgt := 684) dX3_execute_22 (by decide) (by decide) rfl (by decide) (lm_ex64 hS mu hV hi)
    by_cases c62 : c = nI 62
    · subst c62
      exact zg_tableIn (off := 464) (tgt := 486) dX3_execute_22 (by decide) (by decide) rfl (by decide) (lm_ex62 hS mu hV hi)
    by_cases c118 : c = nI 118
    · subst c118
      exact zg_tableIn (off := 474) (tgt := 496) dX3_execute_22 (by decide) (by decide) rfl (by decide) (lm_ex118 hS mu hV hi)
    by_cases c60 : c = nI 60
    · subst c60
      exact zg_tableIn (off := 484) (tgt := 506) dX3_execute_22 (by decide) (by decide) rfl (by decide) (lm_ex60 hS mu hV hi)
    by_cases c94 : c = nI 94
    · subst c94
      exact zg_tableIn (off := 494) (tgt := 516) dX3_execute_22 (by decide) (by decide) rfl (by decide) (lm_ex94 hS mu hV hi)
    by_cases c95 : c = nI 95
    · subst c95
      exact zg_tableIn (off := 504) (tgt := 526) dX3_execute_22 (by decide) (by decide) rfl (by decide) (lm_ex95 hS mu hV hi)
    by_cases c124 : c = nI 124
    · subst c124
      exact zg_tableIn (off := 526) (tgt := 548) dX3_execute_22 (by decide) (by decide) rfl (by decide) (lm_ex124 hS mu hV hi)
    by_cases c91 : c = nI 91
    · subst c91
      exact zg_tableIn (off := 548) (tgt := 570) dX3_execute_22 (by decide) (by decide) rfl (by decide) (lm_ex91 hS mu hV hi)
    by_cases c93 : c = nI 93
    · subst c93
      exact zg_tableIn (off := 557) (tgt := 579) dX3_execute_22 (by decide) (by decide) rfl (by decide) (lm_ex93 hS mu hV hi)
    by_cases c114 : c = nI 114
    · subst c114
      exact zg_tableIn (off := 566) (tgt := 588) dX3_execute_22 (by decide) (by decide) rfl (by decide) (lm_ex114 hS mu hV hi)
    by_cases c35 : c = nI 35
    · subst c35
      exact zg_tableIn (off := 575) (tgt := 597) dX3_execute_22 (by decide) (by decide) rfl (by decide) (lm_ex35 hS mu hV hi)
    have hq : qexec v pp c = v := by rw [qx_perf v pp ⟨c103, c112, c46, c126, c116⟩, qp_steer v _ hd (by rintro (h1 | h1 | h1 | h1 | h1 | h1) <;> contradiction) ⟨c33, c58, c92, c36, c123, c125, c119, c64⟩, qs_none v _ ⟨c62, c118, c60, c94, c95, c124, c91, c93, c114, c35⟩]
    have hend : zG RX3 "execute" cX3_execute 5 none (zroom 4 0 0) 0 0 (zPv S (fun mu2 => mu2 = zrow mu (m + 1) (qexec v pp c))) 694 [some (.inr (m + 1)), some (.inl (nI pp)), some (.inl c), none, none] [] S (zrow mu (m + 1) v) 0 0 := zg_vret dX3_execute_694 rfl ⟨rfl, rfl, by rw [hq]⟩
    by_cases hr : c.toInt < 33 ∨ 126 < c.toInt
    · exact zg_tableOut (tgt := 694) dX3_execute_22 hr (by decide) hend
    · obtain ⟨j, hj31, hj⟩ := nI_of (x := c) (fun hz => by
        have := Int32.lt_iff_toInt_lt.mp hz
        have e0 : (0 : Int32).toInt = 0 := rfl
        omega)
      have hjI : c.toInt = j := by rw [hj]; exact nI_toInt hj31
      refine zg_tableIn (off := 672) (tgt := 694) dX3_execute_22 (by omega) (by omega) ?_ (by decide) hend
      rw [hjI, show ((j : Int) - 33).toNat = j - 33 by omega]
      refine tb_exec (j - 33) (by omega) (fun hm => ?_)
      simp only [List.mem_cons, List.not_mem_nil, or_false] at hm
      rcases hm with hm | hm | hm | hm | hm | hm | hm | hm | hm | hm | hm | hm | hm | hm | hm | hm | hm | hm | hm | hm | hm | hm | hm | hm | hm | hm | hm | hm | hm
      · exact c33 (by rw [hj, show j = 33 by omega])
      · exact c35 (by rw [hj, show j = 35 by omega])
      · exact c36 (by rw [hj, show j = 36 by omega])
      · exact c37 (by rw [hj, show j = 37 by omega])
      · exact c42 (by rw [hj, show j = 42 by omega])
      · exact c43 (by rw [hj, show j = 43 by omega])
      · exact c45 (by rw [hj, show j = 45 by omega])
      · exact c46 (by rw [hj, show j = 46 by omega])
      · exact c47 (by rw [hj, show j = 47 by omega])
      · exact c58 (by rw [hj, show j = 58 by omega])
      · exact c60 (by rw [hj, show j = 60 by omega])
      · exact c62 (by rw [hj, show j = 62 by omega])
      · exact c64 (by rw [hj, show j = 64 by omega])
      · exact c91 (by rw [hj, show j = 91 by omega])
      · exact c92 (by rw [hj, show j = 92 by omega])
      · exact c93 (by rw [hj, show j = 93 by omega])
      · exact c94 (by rw [hj, show j = 94 by omega])
      · exact c95 (by rw [hj, show j = 95 by omega])
      · exact c96 (by rw [hj, show j = 96 by omega])
      · exact c103 (by rw [hj, show j = 103 by omega])
      · exact c112 (by rw [hj, show j = 112 by omega])
      · exact c114 (by rw [hj, show j = 114 by omega])
      · exact c116 (by rw [hj, show j = 116 by omega])
      · exact c118 (by rw [hj, show j = 118 by omega])
      · exact c119 (by rw [hj, show j = 119 by omega])
      · exact c123 (by rw [hj, show j = 123 by omega])
      · exact c124 (by rw [hj, show j = 124 by omega])
      · exact c125 (by rw [hj, show j = 125 by omega])
      · exact c126 (by rw [hj, show j = 126 by omega])
  · exact absurd rfl cz
