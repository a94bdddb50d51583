/-! THE REFERENCE: remember, saveBefore, undo, begin, rewind, feed, poke -/
def MR (mu : zU) (m : Nat) (v : Nat → Int32) (tl : Nat) (tx bp : Nat → Int32) (uc : Nat) (us : Nat → Nat → Int32) (kp : Nat → Int32) (sn : Nat → Nat → Int32) : Prop :=
  (∀ j, j < 289 → mu (m + 1) j = v j) ∧ (mu m 10 = nI tl ∧ tl ≤ 90 ∧ ∀ j, j < tl → mu (m + 9) j = tx j) ∧ (∀ j, j < 72 → mu (m + 8) j = bp j) ∧ (mu m 5 = nI uc ∧ uc ≤ 6 ∧ ∀ i j, i < uc → j < 289 → mu (m + 5) (289 * i + j) = us i j) ∧ ∀ q, q < 2 → mu (m + 7) q = kp q ∧ (kp q = nI 1 → ∀ j, j < 289 → mu (m + 6) (289 * q + j) = sn q j)
def ucN (uc : Nat) : Nat := if uc = 6 then 6 else uc + 1
def usN (uc : Nat) (us : Nat → Nat → Int32) (v : Nat → Int32) : Nat → Nat → Int32 := fun i => if uc = 6 then (if i = 5 then v else us (i + 1)) else if i = uc then v else us i
set_option maxRecDepth 20000 in
theorem cm_remember {S : zS} {m : Nat} (hS : MS S m) (mu : zU) : zM yX3_remember cX3_remember 2 none 0 0 0 [.inr (m + 1)] S mu (zPv S (fun mu2 => mu2 = zrow mu (m + 2) (cpi (mu (m + 2)) (mu (m + 1)) 0 289))) := by
  refine zM.ofG (by decide +kernel) (Nat.le_of_ble_eq_true rfl) ?_
  refine zg_iconst (v := nI 0) dX3_remember_0 (by decide) ?_
  refine zg_istore_n (i := 1) (L2 := [_, _]) dX3_remember_1 rfl (by decide) rfl ?_
  refine zg_mu (mu2 := zrow mu (m + 2) (cpi (mu (m + 2)) (mu (m + 1)) 0 0)) (by rw [cpi_0, zrow_self]) ?_
  refine lm_remember hS mu (mu (m + 2)) _ ?_ 289 0 rfl
  exact zg_vret dX3_remember_27 rfl ⟨rfl, rfl, rfl⟩
set_option maxRecDepth 20000 in
theorem cm_setAside {S : zS} {m : Nat} (hS : MS S m) (mu : zU) : zM yX3_setAside cX3_setAside 2 none 0 0 0 [.inr (m + 1)] S mu (zPv S (fun mu2 => mu2 = zrow mu (m + 3) (cpi (mu (m + 3)) (mu (m + 1)) 0 289))) := by
  refine zM.ofG (by decide +kernel) (Nat.le_of_ble_eq_true rfl) ?_
  refine zg_iconst (v := nI 0) dX3_setAside_0 (by decide) ?_
  refine zg_istore_n (i := 1) (L2 := [_, _]) dX3_setAside_1 rfl (by decide) rfl ?_
  refine zg_mu (mu2 := zrow mu (m + 3) (cpi (mu (m + 3)) (mu (m + 1)) 0 0)) (by rw [cpi_0, zrow_self]) ?_
  refine lm_setAside hS mu (mu (m + 3)) _ ?_ 289 0 rfl
  exact zg_vret dX3_setAside_27 rfl ⟨rfl, rfl, rfl⟩
set_option maxRecDepth 20000 in
theorem cm_takeBack {S : zS} {m : Nat} (hS : MS S m) (mu : zU) : zM yX3_takeBack cX3_takeBack 2 none 0 0 0 [.inr (m + 1)] S mu (zPv S (fun mu2 => mu2 = zrow mu (m + 1) (cpi (mu (m + 1)) (mu (m + 3)) 0 289))) := by
  refine zM.ofG (by decide +kernel) (Nat.le_of_ble_eq_true rfl) ?_
  refine zg_iconst (v := nI 0) dX3_takeBack_0 (by decide) ?_
  refine zg_istore_n (i := 1) (L2 := [_, _]) dX3_takeBack_1 rfl (by decide) rfl ?_
  refine zg_mu (mu2 := zrow mu (m + 1) (cpi (mu (m + 1)) (mu (m + 3)) 0 0)) (by rw [cpi_0, zrow_self]) ?_
  refine lm_takeBack hS mu (mu (m + 1)) _ ?_ 289 0 rfl
  exact zg_vret dX3_takeBack_27 rfl ⟨rfl, rfl, rfl⟩
def SB (mu mu2 : zU) (m uc : Nat) : Prop := (∀ q, q ≠ m → q ≠ m + 5 → mu2 q = mu q) ∧ (∀ j, j ≠ 5 → mu2 m j = mu m j) ∧ mu2 m 5 = nI (ucN uc) ∧ ∀ i j, i < ucN uc → j < 289 → mu2 (m + 5) (289 * i + j) = (if uc = 6 then (if i = 5 then mu (m + 2) j else mu (m + 5) (289 * (i + 1) + j)) else if i = uc then mu (m + 2) j else mu (m + 5) (289 * i + j))
set_option maxRecDepth 20000 in
theorem lm_sb50 {S : zS} {m : Nat} (hS : MS S m) (mu : zU) {uc : Nat} {l1 : Option zV} (huc : uc < 6) (h5 : mu m 5 = nI uc) (Ph : Option zV → zS → zU → Prop) (hx : Ph none S (zup (zrow mu (m + 5) (cpi (mu (m + 5)) (mu (m + 2)) (289 * uc) 289)) m 5 (nI (uc + 1)))) :
    zG RX3 "saveBefore" cX3_saveBefore 2 none (zroom 0 0 0) 0 0 Ph 50 [some (.inr (m + 1)), l1] [] S (mu) 0 0 := by
  have hN0 : m < S.1 := hS.lt (i := 0) (by decide)
  have k0 := hS.1.2.1
  refine zg_iconst (v := nI 0) dX3_saveBefore_50 (by decide) ?_
  refine zg_istore_n (i := 1) (L2 := [_, _]) dX3_saveBefore_51 rfl (by decide) rfl ?_
  refine zg_mu (mu2 := zrow mu (m + 5) (cpi (mu (m + 5)) (mu (m + 2)) (289 * uc) 0)) (by rw [cpi_0, zrow_self]) ?_
  refine lm_sb52 hS mu (mu (m + 5)) huc h5 _ ?_ 289 0 rfl
  refine zg_aload_n (i := 0) dX3_saveBefore_86 rfl rfl ?_
  refine zg_dup dX3_saveBefore_87 ?_
  first | with_reducible refine zg_getIR dX3_saveBefore_88 flX3_48 (by decide) (by assumption) (by assumption) (by omega) ?_ | refine zg_getI dX3_saveBefore_88 flX3_48 (by decide) (by assumption) (by assumption) ?_
  refine zg_val (y := nI uc) (by first | exact h5 | (rw [zrow_n (by omega)]; exact h5)) ?_
  refine zg_iconst (v := nI 1) dX3_saveBefore_91 (by decide) ?_
  first | with_reducible refine zg_iaddN dX3_saveBefore_92 ?_ | refine zg_iadd dX3_saveBefore_92 ?_
  refine zg_putI dX3_saveBefore_93 flX3_48 (by decide) (by assumption) (by assumption) ?_
  exact zg_vret dX3_saveBefore_96 rfl hx
set_option maxRecDepth 20000 in
theorem cm_saveBefore {S : zS} {m : Nat} (hS : MS S m) (mu : zU) {uc : Nat} (huc : uc ≤ 6) (h5 : mu m 5 = nI uc) : zM yX3_saveBefore cX3_saveBefore 2 none 0 0 0 [.inr (m + 1)] S mu (zPv S (fun mu2 => SB mu mu2 m uc)) := by
  have hN0 : m < S.1 := hS.lt (i := 0) (by decide)
  have k0 := hS.1.2.1
  refine zM.ofG (by decide +kernel) (Nat.le_of_ble_eq_true rfl) ?_
  refine zg_aload_n (i := 0) dX3_saveBefore_0 rfl rfl ?_
  first | with_reducible refine zg_getIR dX3_saveBefore_1 flX3_48 (by decide) (by assumption) (by assumption) (by omega) ?_ | refine zg_getI dX3_saveBefore_1 flX3_48 (by decide) (by assumption) (by assumption) ?_
  refine zg_val h5 ?_
  refine zg_bipush (v := nI 6) dX3_saveBefore_4 (by decide) ?_
  first | with_reducible refine zg_icmpN_ne (tgt := 50) dX3_saveBefore_6 (by decide) (by omega) (by omega) (fun c => ?_) (fun c => ?_) | refine zg_icmp_ne (tgt := 50) dX3_saveBefore_6 (by decide) (fun c => ?_) (fun c => ?_)
  · refine lm_sb50 hS mu (by omega) h5 _ ⟨rfl, rfl, fun q h1 h2 => ?_, fun j hj => ?_, ?_, fun i j hi hj => ?_⟩
    · rw [zup_n (by omega), zrow_n (by omega)]
    · rw [zup_s, upd_n (by omega), zrow_n (by omega)]
    · rw [zup_s, upd_s, ucN, if_neg c]
    · rw [ucN, if_neg c] at hi
      rw [zup_n (by omega), zrow_s, if_neg c]
      by_cases hiu : i = uc
      · rw [if_pos hiu, hiu, cpi_in (by omega) (by omega)]
        congr 1
        omega
      · rw [if_neg hiu, cpi_out]
        have : 289 * i + 289 ≤ 289 * uc := by omega
        omega
  · subst c
    refine zg_iconst (v := nI 0) dX3_saveBefore_9 (by decide) ?_
    refine zg_istore_n (i := 1) (L2 := [_, _]) dX3_saveBefore_10 rfl (by decide) rfl ?_
    refine zg_mu (mu2 := zrow mu (m + 5) (cpi (mu (m + 5)) (fun j => mu (m + 5) (289 + j)) 0 0)) (by rw [cpi_0, zrow_self]) ?_
    refine lm_sb11 hS mu (mu (m + 5)) _ ?_ 1445 0 rfl
    refine zg_aload_n (i := 0) dX3_saveBefore_40 rfl rfl ?_
    refine zg_dup dX3_saveBefore_41 ?_
    first | with_reducible refine zg_getIR dX3_saveBefore_42 flX3_48 (by decide) (by assumption) (by assumption) (by omega) ?_ | refine zg_getI dX3_saveBefore_42 flX3_48 (by decide) (by assumption) (by assumption) ?_
    refine zg_val (y := nI 6) (by first | exact h5 | (rw [zrow_n (by omega)]; exact h5)) ?_
    refine zg_iconst (v := nI 1) dX3_saveBefore_45 (by decide) ?_
    first | with_reducible refine zg_isubN dX3_saveBefore_46 (by omega) ?_ | refine zg_isub dX3_saveBefore_46 ?_
    refine zg_putI dX3_saveBefore_47 flX3_48 (by decide) (by assumption) (by assumption) ?_
    refine lm_sb50 hS _ (uc := 5) (by omega) (by rw [zup_s, upd_s]) _ ⟨rfl, rfl, fun q h1 h2 => ?_, fun j hj => ?_, ?_, fun i j hi hj => ?_⟩
    · rw [zup_n (by omega), zrow_n (by omega), zup_n (by omega), zrow_n (by omega)]
    · rw [zup_s, upd_n (by omega), zrow_n (by omega), zup_s, upd_n (by omega), zrow_n (by omega)]
    · rw [zup_s, upd_s]; rfl
    · rw [ucN, if_pos rfl] at hi
      rw [zup_n (by omega), zrow_s, if_pos rfl, zup_n (by omega), zup_n (by omega), zrow_s, zrow_n (by omega)]
      by_cases hiu : i = 5
      · rw [if_pos hiu, hiu, cpi_in (by omega) (by omega)]
        congr 1
        omega
      · rw [if_neg hiu, cpi_out (by omega), cpi_in (by omega) (by omega)]
        congr 1
        omega
/-- behind remember, a change of now, and saveBefore -/
theorem MR_save {mu A mu2 : zU} {m uc tl : Nat} {v w tx bp kp : Nat → Int32} {us sn : Nat → Nat → Int32} (h : MR mu m v tl tx bp uc us kp sn) (hA : ∀ q, q ≠ m + 1 → q ≠ m + 2 → q ≠ m + 10 → A q = mu q) (hb : ∀ j, j < 289 → A (m + 2) j = v j) (hw : ∀ j, j < 289 → A (m + 1) j = w j) (hsb : SB A mu2 m uc) : MR mu2 m w tl tx bp (ucN uc) (usN uc us v) kp sn := by
  obtain ⟨-, ⟨t1, t2, t3⟩, b1, ⟨u1, u2, u3⟩, s1⟩ := h
  obtain ⟨c1, c2, c3, c4⟩ := hsb
  refine ⟨fun j hj => ?_, ⟨?_, t2, fun j hj => ?_⟩, fun j hj => ?_, ⟨c3, ?_, fun i j hi hj => ?_⟩, fun q hq => ⟨?_, fun e j hj => ?_⟩⟩
  · rw [c1 _ (by omega) (by omega)]; exact hw j hj
  · rw [c2 _ (by omega), hA _ (by omega) (by omega) (by omega)]; exact t1
  · rw [c1 _ (by omega) (by omega), hA _ (by omega) (by omega) (by omega)]; exact t3 j hj
  · rw [c1 _ (by omega) (by omega), hA _ (by omega) (by omega) (by omega)]; exact b1 j hj
  · rw [ucN]; split <;> omega
  · rw [c4 i j hi hj, hA (m + 5) (by omega) (by omega) (by omega), usN]
    by_cases h6 : uc = 6
    · rw [if_pos h6, if_pos h6]
      rw [ucN, if_pos h6] at hi
      by_cases h5 : i = 5
      · rw [if_pos h5, if_pos h5]; exact hb j hj
      · rw [if_neg h5, if_neg h5]; exact u3 (i + 1) j (by omega) hj
    · rw [if_neg h6, if_neg h6]
      rw [ucN, if_neg h6] at hi
      by_cases h5 : i = uc
      · rw [if_pos h5, if_pos h5]; exact hb j hj
      · rw [if_neg h5, if_neg h5]; exact u3 i j (by omega) hj
  · rw [c1 _ (by omega) (by omega), hA _ (by omega) (by omega) (by omega)]; exact (s1 q hq).1
  · rw [c1 _ (by omega) (by omega), hA _ (by omega) (by omega) (by omega)]; exact (s1 q hq).2 e j hj
def zfrm (mu mu2 : zU) (m : Nat) : Prop := ∀ q, (q < m ∨ m + 11 ≤ q) → mu2 q = mu q
theorem SB_fr {mu A mu2 : zU} {m uc : Nat} (hA : ∀ q, (q < m ∨ m + 11 ≤ q) → A q = mu q) (h : SB A mu2 m uc) : zfrm mu mu2 m := fun q hq => by rw [h.1 q (by omega) (by omega), hA q hq]
def qbegin (v : Nat → Int32) : Nat → Int32 := fun j => if 72 ≤ j ∧ j < 144 then v (j - 72) else if j = 145 ∨ j = 155 then nI 1 else if (144 ≤ j ∧ j < 250) ∨ (267 ≤ j ∧ j < 289) then nI 0 else v j
set_option maxRecDepth 20000 in
theorem cm_begin {S : zS} {m : Nat} (hS : MS S m) (mu : zU) (v : Nat → Int32) : zM yX3_begin cX3_begin 2 none 0 0 0 [.inr (m + 1)] S (zrow mu (m + 1) v) (zPv S (fun mu2 => mu2 = zrow mu (m + 1) (qbegin v))) := by
  have hN0 : m < S.1 := hS.lt (i := 0) (by decide)
  have hN1 : m + 1 < S.1 := hS.lt (by decide)
  obtain ⟨⟨-, k0, k1, -⟩, r0, -⟩ := id hS
  refine zM.ofG (by decide +kernel) (Nat.le_of_ble_eq_true rfl) ?_
  refine zg_iconst (v := nI 0) dX3_begin_0 (by decide) ?_
  refine zg_istore_n (i := 1) (L2 := [_, _]) dX3_begin_1 rfl (by decide) rfl ?_
  refine zg_mu (mu2 := zrow mu (m + 1) (cpi v v 72 0)) (by rw [cpi_0]) ?_
  refine lm_begin2 hS mu v _ ?_ 72 0 rfl
  refine zg_sipush (v := nI 144) dX3_begin_29 (by decide) ?_
  refine zg_istore_n (i := 1) (L2 := [_, _]) dX3_begin_32 rfl (by decide) rfl ?_
  refine zg_mu (mu2 := zrow mu (m + 1) (cpi (cpi v v 72 72) (fun _ => nI 0) 144 0)) (by rw [cpi_0 (cpi v v 72 72)]) ?_
  refine lm_begin33 hS mu (cpi v v 72 72) _ ?_ 106 0 rfl
  refine zg_sipush (v := nI 267) dX3_begin_53 (by decide) ?_
  refine zg_istore_n (i := 1) (L2 := [_, _]) dX3_begin_56 rfl (by decide) rfl ?_
  refine zg_mu (mu2 := zrow mu (m + 1) (cpi (cpi (cpi v v 72 72) (fun _ => nI 0) 144 106) (fun _ => nI 0) 267 0)) (by rw [cpi_0 (cpi (cpi v v 72 72) (fun _ => nI 0) 144 106)]) ?_
  refine lm_begin57 hS mu (cpi (cpi v v 72 72) (fun _ => nI 0) 144 106) _ ?_ 22 0 rfl
  refine zg_aload_n (i := 0) dX3_begin_77 rfl rfl ?_
  refine zg_getR dX3_begin_78 flX3_7 (by decide) (by assumption) (by assumption) (by assumption) ?_
  refine zg_sipush (v := nI 145) dX3_begin_81 (by decide) ?_
  refine zg_iconst (v := nI 1) dX3_begin_84 (by decide) ?_
  first | with_reducible refine zg_iastR dX3_begin_85 (by assumption) (by assumption) rfl (by omega) (by decide) ?_ | refine zg_iast dX3_begin_85 (by assumption) (by assumption) rfl (by omega) (by decide) ?_
  refine zg_aload_n (i := 0) dX3_begin_86 rfl rfl ?_
  refine zg_getR dX3_begin_87 flX3_7 (by decide) (by assumption) (by assumption) (by assumption) ?_
  refine zg_sipush (v := nI 155) dX3_begin_90 (by decide) ?_
  refine zg_iconst (v := nI 1) dX3_begin_93 (by decide) ?_
  first | with_reducible refine zg_iastR dX3_begin_94 (by assumption) (by assumption) rfl (by omega) (by decide) ?_ | refine zg_iast dX3_begin_94 (by assumption) (by assumption) rfl (by omega) (by decide) ?_
  refine zg_vret dX3_begin_95 rfl ⟨rfl, rfl, ?_⟩
  show zrow _ _ _ = zrow _ _ _
  congr 1
  funext j
  unfold upd cpi qbegin
  by_cases h1 : j = 155
  · rw [if_pos h1, if_neg (by omega), if_pos (by omega)]
  · rw [if_neg h1]
    by_cases h2 : j = 145
    · rw [if_pos h2, if_neg (by omega), if_pos (by omega)]
    · rw [if_neg h2]
      by_cases h3 : 267 ≤ j ∧ j < 289
      · rw [if_pos (by omega), if_neg (by omega), if_neg (by omega), if_pos (by omega)]
      · rw [if_neg (by omega)]
        by_cases h4 : 144 ≤ j ∧ j < 250
        · rw [if_pos (by omega), if_neg (by omega), if_neg (by omega), if_pos (by omega)]
        · rw [if_neg (by omega)]
          by_cases h5 : 72 ≤ j ∧ j < 144
          · rw [if_pos (by omega), if_pos h5]
          · rw [if_neg (by omega), if_neg h5, if_neg (by omega), if_neg (by omega)]
