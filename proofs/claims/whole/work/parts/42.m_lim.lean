/-! THE REFERENCE: tick, run, ticksToHalt, cycles, save, restore -/
theorem lim_ix {x : Int32} (hc : nI 1 ≤ x ∧ x ≤ nI 200) : ∃ lim, 1 ≤ lim ∧ lim ≤ 200 ∧ x = nI lim := by
  have h1 : (1 : Int) ≤ x.toInt := by have := Int32.le_iff_toInt_le.mp hc.1; rwa [nI_toInt (by omega)] at this
  have h2 : x.toInt ≤ 200 := by have := Int32.le_iff_toInt_le.mp hc.2; rwa [nI_toInt (by omega)] at this
  have hx0 : 0 ≤ x ∧ x < nI 201 := by
    rw [← in_le x 200 (by omega), Int32.le_iff_toInt_le, Int32.le_iff_toInt_le, nI_toInt (by omega), nI_toInt (by omega)]
    omega
  obtain ⟨j, hj, hj2⟩ := atN_ix (by omega) hx0
  refine ⟨j, ?_, by omega, hj2⟩
  rw [hj2, nI_toInt (by omega)] at h1
  omega
theorem qbk_congr {v bp bq : Nat → Int32} {ol : List Nat} (hV : VI v ol) (hb : ∀ j, j < 72 → bp j = bq j) : ∀ n, n ≤ ol.length → qbk v bp n = qbk v bq n
  | 0, _ => rfl
  | n + 1, h => by
    obtain ⟨px, py, dr, ss, sl, ns, s0, s1, s2, e0, e1, -, -, -, -, -, -, -, ⟨b1, b2, -⟩, -⟩ := hV.2.2.2.2.1 n (by omega)
    have z0 : zn v (150 + 25 * n) = px := zn_of e0 (by omega)
    have z1 : zn v (151 + 25 * n) = py := by rw [show 151 + 25 * n = 150 + 25 * n + 1 by omega]; exact zn_of e1 (by omega)
    rw [qbk, qbk, qbk_congr hV hb n (by omega), z0, z1, hb _ (by omega)]
theorem qatb_congr {v bp bq : Nat → Int32} {ol : List Nat} (hV : VI v ol) (hb : ∀ j, j < 72 → bp j = bq j) : qatb v bp = qatb v bq := by
  rw [qatb, qatb, zn_of hV.1.1 (by have := hV.1.2.2; omega)]
  exact qbk_congr hV hb _ (Nat.le_refl _)
theorem AD_congr {v bp bq : Nat → Int32} {ol : List Nat} {lim n : Nat} {br : Bool} (hV : VI v ol) (hb : ∀ j, j < 72 → bp j = bq j) (h : AD v bp lim br n) : AD v bq lim br n := by
  have he : ∀ k, qatb (qit v k) bp = qatb (qit v k) bq := fun k => by
    obtain ⟨ol2, h2⟩ := VI_it hV k
    exact qatb_congr h2 hb
  obtain ⟨a1, a2, a3⟩ := h
  refine ⟨a1, ?_, fun k a b => ?_⟩
  · rw [← he]; exact a2
  · rw [← he]; exact a3 k a b
def PF (v bp : Nat → Int32) (x : Int32) (br : Bool) (r : Int32) (st : Prop) (av : Nat → Prop) : Prop := (¬ (nI 1 ≤ x ∧ x ≤ nI 200) ∧ r = -1 ∧ st) ∨ ((nI 1 ≤ x ∧ x ≤ nI 200) ∧ qhalt v = true ∧ r = -2 ∧ st) ∨ ((nI 1 ≤ x ∧ x ≤ nI 200) ∧ qhalt v = false ∧ ∃ n, AD v bp x.toNatClampNeg br n ∧ r = nI n ∧ av n)
theorem PF_bp {v bp bq : Nat → Int32} {ol : List Nat} {x r : Int32} {br : Bool} {st : Prop} {av : Nat → Prop} (hV : VI v ol) (hb : ∀ j, j < 72 → bp j = bq j) (h : PF v bp x br r st av) : PF v bq x br r st av := by
  rcases h with h | h | ⟨h1, h2, n, h3, h4⟩
  · exact Or.inl h
  · exact Or.inr (Or.inl h)
  · exact Or.inr (Or.inr ⟨h1, h2, n, AD_congr hV hb h3, h4⟩)
set_option maxRecDepth 20000 in
theorem cm_tick {S : zS} {m : Nat} (hS : MS S m) {mu : zU} {tl uc : Nat} {v tx bp kp : Nat → Int32} {us sn : Nat → Nat → Int32} (hM : MR mu m v tl tx bp uc us kp sn) (hv : mu (m + 1) = v) {ol : List Nat} (hV : VI v ol) (x : Int32) : zM yX3_tick cX3_tick 2 (some .int) 8 0 0 [.inr (m + 1), .inl x] S mu (zPi S (fun r mu2 => PF v bp x false r (mu2 = mu) (fun n => MR mu2 m (qit v n) tl tx bp (ucN uc) (usN uc us v) kp sn) ∧ zfrm mu mu2 m)) := by
  have hN0 : m < S.1 := hS.lt (i := 0) (by decide)
  have k0 := hS.1.2.1
  have hp := cm_perform hS hM hv hV false x
  rw [if_neg (by decide)] at hp
  refine zM.ofG (by decide +kernel) (Nat.le_of_ble_eq_true rfl) ?_
  refine zg_aload_n (i := 0) dX3_tick_0 rfl rfl ?_
  refine zg_iload_n (i := 1) dX3_tick_1 rfl rfl ?_
  refine zg_iconst (v := nI 0) dX3_tick_2 (by decide) ?_
  refine zg_callVi (hp) dX3_tick_3 cvX3_perform mlX3_154 rfl (by assumption) (by assumption) rfl (Nat.le_of_ble_eq_true rfl) ⟨by decide, by decide⟩ ⟨Nat.le_refl _, Nat.le_refl _⟩ (fun r mu2 h2 => ?_)
  exact zg_iret dX3_tick_6 rfl ⟨_, rfl, rfl, ⟨PF_bp hV hM.2.2.1 h2.1, h2.2⟩⟩
set_option maxRecDepth 20000 in
theorem cm_run {S : zS} {m : Nat} (hS : MS S m) {mu : zU} {tl uc : Nat} {v tx bp kp : Nat → Int32} {us sn : Nat → Nat → Int32} (hM : MR mu m v tl tx bp uc us kp sn) (hv : mu (m + 1) = v) {ol : List Nat} (hV : VI v ol) (x : Int32) : zM yX3_run cX3_run 2 (some .int) 8 0 0 [.inr (m + 1), .inl x] S mu (zPi S (fun r mu2 => PF v bp x true r (mu2 = mu) (fun n => MR mu2 m (qit v n) tl tx bp (ucN uc) (usN uc us v) kp sn) ∧ zfrm mu mu2 m)) := by
  have hN0 : m < S.1 := hS.lt (i := 0) (by decide)
  have k0 := hS.1.2.1
  have hp := cm_perform hS hM hv hV true x
  rw [if_pos rfl] at hp
  refine zM.ofG (by decide +kernel) (Nat.le_of_ble_eq_true rfl) ?_
  refine zg_aload_n (i := 0) dX3_run_0 rfl rfl ?_
  refine zg_iload_n (i := 1) dX3_run_1 rfl rfl ?_
  refine zg_iconst (v := nI 1) dX3_run_2 (by decide) ?_
  refine zg_callVi (hp) dX3_run_3 cvX3_perform mlX3_154 rfl (by assumption) (by assumption) rfl (Nat.le_of_ble_eq_true rfl) ⟨by decide, by decide⟩ ⟨Nat.le_refl _, Nat.le_refl _⟩ (fun r mu2 h2 => ?_)
  exact zg_iret dX3_run_6 rfl ⟨_, rfl, rfl, ⟨PF_bp hV hM.2.2.1 h2.1, h2.2⟩⟩
/-- a limit, or -1 -/
def LM (x r : Int32) (F : Nat → Prop) : Prop := (¬ (nI 1 ≤ x ∧ x ≤ nI 200) ∧ r = -1) ∨ ((nI 1 ≤ x ∧ x ≤ nI 200) ∧ F x.toNatClampNeg)
set_option maxRecDepth 20000 in
theorem cm_ticksToHalt {S : zS} {m : Nat} (hS : MS S m) {mu : zU} {tl uc : Nat} {v tx bp kp : Nat → Int32} {us sn : Nat → Nat → Int32} (hM : MR mu m v tl tx bp uc us kp sn) (hv : mu (m + 1) = v) {ol : List Nat} (hV : VI v ol) (x : Int32) : zM yX3_ticksToHalt cX3_ticksToHalt 2 (some .int) 8 0 0 [.inr (m + 1), .inl x] S mu (zPi S (fun r mu2 => LM x r (fun lim => HL v lim r) ∧ MR mu2 m v tl tx bp uc us kp sn ∧ zfrm mu mu2 m)) := by
  have hN0 : m < S.1 := hS.lt (i := 0) (by decide)
  have k0 := hS.1.2.1
  refine zM.ofG (by decide +kernel) (Nat.le_of_ble_eq_true rfl) ?_
  refine zg_iload_n (i := 1) dX3_ticksToHalt_0 rfl rfl ?_
  refine zg_iconst (v := nI 1) dX3_ticksToHalt_1 (by decide) ?_
  refine zg_sipush (v := nI 200) dX3_ticksToHalt_2 (by decide) ?_
  refine zg_callSi (cm_in S mu x (nI 1) (nI 200)) dX3_ticksToHalt_5 ctX3_in mlX3_44 rfl rfl (Nat.le_of_ble_eq_true rfl) ⟨by decide, by decide⟩ ⟨Nat.le_refl _, Nat.le_refl _⟩ (fun r mu2 h2 => ?_)
  obtain ⟨rfl, rfl⟩ := h2
  by_cases hc : nI 1 ≤ x ∧ x ≤ nI 200
  · rw [if_pos hc]
    obtain ⟨lim, hl1, hl2, rfl⟩ := lim_ix hc
    first | with_reducible refine zg_ifN_eq (tgt := 19) dX3_ticksToHalt_8 (by decide) (by omega) (fun c1 => ?_) (fun c1 => ?_) | refine zg_if_eq (tgt := 19) dX3_ticksToHalt_8 (by decide) (fun c1 => ?_) (fun c1 => ?_)
    · exact absurd c1 (by decide)
    · refine zg_aload_n (i := 0) dX3_ticksToHalt_11 rfl rfl ?_
      refine zg_iload_n (i := 1) dX3_ticksToHalt_12 rfl rfl ?_
      refine zg_callVi (cm_halts hS mu2 (by rw [hv]; exact hV) hl2) dX3_ticksToHalt_13 cvX3_halts mlX3_167 rfl (by assumption) (by assumption) rfl (Nat.le_of_ble_eq_true rfl) ⟨by decide, by decide⟩ ⟨Nat.le_refl _, Nat.le_refl _⟩ (fun r mu3 h3 => ?_)
      obtain ⟨h4, h5, h6⟩ := h3
      rw [hv] at h4 h5
      refine zg_goto (tgt := 20) dX3_ticksToHalt_16 (by decide) ?_
      refine zg_iret dX3_ticksToHalt_20 rfl ⟨_, rfl, rfl, Or.inr ⟨hc, by rw [nI_clamp (by omega)]; exact h4⟩, MR_keep hM (fun q _ b _ d e => h6 q e b d) h5, fun q hq => h6 q (by omega) (by omega) (by omega)⟩
  · rw [if_neg hc]
    first | with_reducible refine zg_ifN_eq (tgt := 19) dX3_ticksToHalt_8 (by decide) (by omega) (fun c1 => ?_) (fun c1 => ?_) | refine zg_if_eq (tgt := 19) dX3_ticksToHalt_8 (by decide) (fun c1 => ?_) (fun c1 => ?_)
    · refine zg_iconst (v := -1) dX3_ticksToHalt_19 (by decide) ?_
      exact zg_iret dX3_ticksToHalt_20 rfl ⟨_, rfl, rfl, ⟨Or.inl ⟨hc, rfl⟩, hM, fun _ _ => rfl⟩⟩
    · exact absurd rfl c1
theorem MR_cyc {mu : zU} {m tl uc : Nat} {v tx bp kp : Nat → Int32} {us sn : Nat → Nat → Int32} (h : MR mu m v tl tx bp uc us kp sn) {mu2 : zU} (hj : ∀ j, j < 289 → mu2 (m + 1) j = v j) (hq : ∀ q, q ≠ m → q ≠ m + 1 → q ≠ m + 3 → q ≠ m + 4 → q ≠ m + 10 → mu2 q = mu q) (hm : ∀ j, j ≠ 12 → j ≠ 13 → mu2 m j = mu m j) : MR mu2 m v tl tx bp uc us kp sn := by
  obtain ⟨v1, ⟨t1, t2, t3⟩, b1, ⟨u1, u2, u3⟩, s1⟩ := h
  refine ⟨hj, ⟨?_, t2, fun j hj => ?_⟩, fun j hj => ?_, ⟨?_, u2, fun i j hi hj => ?_⟩, fun q hq2 => ⟨?_, fun e j hj => ?_⟩⟩
  · rw [hm _ (by omega) (by omega)]; exact t1
  · rw [hq _ (by omega) (by omega) (by omega) (by omega) (by omega)]; exact t3 j hj
  · rw [hq _ (by omega) (by omega) (by omega) (by omega) (by omega)]; exact b1 j hj
  · rw [hm _ (by omega) (by omega)]; exact u1
  · rw [hq _ (by omega) (by omega) (by omega) (by omega) (by omega)]; exact u3 i j hi hj
  · rw [hq _ (by omega) (by omega) (by omega) (by omega) (by omega)]; exact (s1 q hq2).1
  · rw [hq _ (by omega) (by omega) (by omega) (by omega) (by omega)]; exact (s1 q hq2).2 e j hj
set_option maxRecDepth 20000 in
theorem cm_cycleStart {S : zS} {m : Nat} (hS : MS S m) {mu : zU} {tl uc : Nat} {v tx bp kp : Nat → Int32} {us sn : Nat → Nat → Int32} (hM : MR mu m v tl tx bp uc us kp sn) (hv : mu (m + 1) = v) {ol : List Nat} (hV : VI v ol) (x : Int32) : zM yX3_cycleStart cX3_cycleStart 2 (some .int) 9 0 0 [.inr (m + 1), .inl x] S mu (zPi S (fun r mu2 => LM x r (fun lim => ∃ c, FC v lim r c) ∧ MR mu2 m v tl tx bp uc us kp sn ∧ zfrm mu mu2 m)) := by
  have hN0 : m < S.1 := hS.lt (i := 0) (by decide)
  have k0 := hS.1.2.1
  refine zM.ofG (by decide +kernel) (Nat.le_of_ble_eq_true rfl) ?_
  refine zg_iload_n (i := 1) dX3_cycleStart_0 rfl rfl ?_
  refine zg_iconst (v := nI 1) dX3_cycleStart_1 (by decide) ?_
  refine zg_sipush (v := nI 200) dX3_cycleStart_2 (by decide) ?_
  refine zg_callSi (cm_in S mu x (nI 1) (nI 200)) dX3_cycleStart_5 ctX3_in mlX3_44 rfl rfl (Nat.le_of_ble_eq_true rfl) ⟨by decide, by decide⟩ ⟨Nat.le_refl _, Nat.le_refl _⟩ (fun r mu2 h2 => ?_)
  obtain ⟨rfl, rfl⟩ := h2
  by_cases hc : nI 1 ≤ x ∧ x ≤ nI 200
  · rw [if_pos hc]
    obtain ⟨lim, hl1, hl2, rfl⟩ := lim_ix hc
    first | with_reducible refine zg_ifN_ne (tgt := 13) dX3_cycleStart_8 (by decide) (by omega) (fun c1 => ?_) (fun c1 => ?_) | refine zg_if_ne (tgt := 13) dX3_cycleStart_8 (by decide) (fun c1 => ?_) (fun c1 => ?_)
    · refine zg_aload_n (i := 0) dX3_cycleStart_13 rfl rfl ?_
      refine zg_iload_n (i := 1) dX3_cycleStart_14 rfl rfl ?_
      refine zg_callVv (cm_findCycle hS mu2 (by rw [hv]; exact hV) hl2) dX3_cycleStart_15 cvX3_findCycle mlX3_179 rfl (by assumption) (by assumption) rfl (Nat.le_of_ble_eq_true rfl) ⟨by decide, by decide⟩ ⟨Nat.le_refl _, Nat.le_refl _⟩ (fun mu3 h3 => ?_)
      obtain ⟨h4, h5, h6, h7⟩ := h3
      rw [hv] at h4 h5
      refine zg_aload_n (i := 0) dX3_cycleStart_18 rfl rfl ?_
      first | with_reducible refine zg_getIR dX3_cycleStart_19 flX3_170 (by decide) (by assumption) (by assumption) (by omega) ?_ | refine zg_getI dX3_cycleStart_19 flX3_170 (by decide) (by assumption) (by assumption) ?_
      refine zg_iret dX3_cycleStart_22 rfl ⟨_, rfl, rfl, Or.inr ⟨hc, _, by rw [nI_clamp (by omega)]; exact h4⟩, MR_cyc hM h5 h6 h7, fun q hq => h6 q (by omega) (by omega) (by omega) (by omega) (by omega)⟩
    · exact absurd c1 (by decide)
  · rw [if_neg hc]
    first | with_reducible refine zg_ifN_ne (tgt := 13) dX3_cycleStart_8 (by decide) (by omega) (fun c1 => ?_) (fun c1 => ?_) | refine zg_if_ne (tgt := 13) dX3_cycleStart_8 (by decide) (fun c1 => ?_) (fun c1 => ?_)
    · exact absurd rfl c1
    · refine zg_iconst (v := -1) dX3_cycleStart_11 (by decide) ?_
      exact zg_iret dX3_cycleStart_12 rfl ⟨_, rfl, rfl, ⟨Or.inl ⟨hc, rfl⟩, hM, fun _ _ => rfl⟩⟩
set_option maxRecDepth 20000 in
theorem cm_cycleLength {S : zS} {m : Nat} (hS : MS S m) {mu : zU} {tl uc : Nat} {v tx bp kp : Nat → Int32} {us sn : Nat → Nat → Int32} (hM : MR mu m v tl tx bp uc us kp sn) (hv : mu (m + 1) = v) {ol : List Nat} (hV : VI v ol) (x : Int32) : zM yX3_cycleLength cX3_cycleLength 2 (some .int) 9 0 0 [.inr (m + 1), .inl x] S mu (zPi S (fun r mu2 => LM x r (fun lim => ∃ a, FC v lim a r) ∧ MR mu2 m v tl tx bp uc us kp sn ∧ zfrm mu mu2 m)) := by
  have hN0 : m < S.1 := hS.lt (i := 0) (by decide)
  have k0 := hS.1.2.1
  refine zM.ofG (by decide +kernel) (Nat.le_of_ble_eq_true rfl) ?_
  refine zg_iload_n (i := 1) dX3_cycleLength_0 rfl rfl ?_
  refine zg_iconst (v := nI 1) dX3_cycleLength_1 (by decide) ?_
  refine zg_sipush (v := nI 200) dX3_cycleLength_2 (by decide) ?_
  refine zg_callSi (cm_in S mu x (nI 1) (nI 200)) dX3_cycleLength_5 ctX3_in mlX3_44 rfl rfl (Nat.le_of_ble_eq_true rfl) ⟨by decide, by decide⟩ ⟨Nat.le_refl _, Nat.le_refl _⟩ (fun r mu2 h2 => ?_)
  obtain ⟨rfl, rfl⟩ := h2
  by_cases hc : nI 1 ≤ x ∧ x ≤ nI 200
  · rw [if_pos hc]
    obtain ⟨lim, hl1, hl2, rfl⟩ := lim_ix hc
    first | with_reducible refine zg_ifN_ne (tgt := 13) dX3_cycleLength_8 (by decide) (by omega) (fun c1 => ?_) (fun c1 => ?_) | refine zg_if_ne (tgt := 13) dX3_cycleLength_8 (by decide) (fun c1 => ?_) (fun c1 => ?_)
    · refine zg_aload_n (i := 0) dX3_cycleLength_13 rfl rfl ?_
      refine zg_iload_n (i := 1) dX3_cycleLength_14 rfl rfl ?_
      refine zg_callVv (cm_findCycle hS mu2 (by rw [hv]; exact hV) hl2) dX3_cycleLength_15 cvX3_findCycle mlX3_179 rfl (by assumption) (by assumption) rfl (Nat.le_of_ble_eq_true rfl) ⟨by decide, by decide⟩ ⟨Nat.le_refl _, Nat.le_refl _⟩ (fun mu3 h3 => ?_)
      obtain ⟨h4, h5, h6, h7⟩ := h3
      rw [hv] at h4 h5
      refine zg_aload_n (i := 0) dX3_cycleLength_18 rfl rfl ?_
      first | with_reducible refine zg_getIR dX3_cycleLength_19 flX3_173 (by decide) (by assumption) (by assumption) (by omega) ?_ | refine zg_getI dX3_cycleLength_19 flX3_173 (by decide) (by assumption) (by assumption) ?_
      refine zg_iret dX3_cycleLength_22 rfl ⟨_, rfl, rfl, Or.inr ⟨hc, _, by rw [nI_clamp (by omega)]; exact h4⟩, MR_cyc hM h5 h6 h7, fun q hq => h6 q (by omega) (by omega) (by omega) (by omega) (by omega)⟩
    · exact absurd c1 (by decide)
  · rw [if_neg hc]
    first | with_reducible refine zg_ifN_ne (tgt := 13) dX3_cycleLength_8 (by decide) (by omega) (fun c1 => ?_) (fun c1 => ?_) | refine zg_if_ne (tgt := 13) dX3_cycleLength_8 (by decide) (fun c1 => ?_) (fun c1 => ?_)
    · exact absurd rfl c1
    · refine zg_iconst (v := -1) dX3_cycleLength_11 (by decide) ?_
      exact zg_iret dX3_cycleLength_12 rfl ⟨_, rfl, rfl, ⟨Or.inl ⟨hc, rfl⟩, hM, fun _ _ => rfl⟩⟩
def snN (s : Nat) (v : Nat → Int32) (sn : Nat → Nat → Int32) : Nat → Nat → Int32 := fun i => if i = s then v else sn i
set_option maxRecDepth 20000 in
theorem cm_save {S : zS} {m : Nat} (hS : MS S m) {mu : zU} {tl uc : Nat} {v tx bp kp : Nat → Int32} {us sn : Nat → Nat → Int32} (hM : MR mu m v tl tx bp uc us kp sn) (x : Int32) : zM yX3_save cX3_save 3 (some .int) 1 0 0 [.inr (m + 1), .inl x] S mu (zPi S (fun r mu2 => ((¬ (0 ≤ x ∧ x < nI 2) ∧ r = -1 ∧ mu2 = mu) ∨ (∃ s, s < 2 ∧ x = nI s ∧ r = v 144 ∧ MR mu2 m v tl tx bp uc us (upd kp s (nI 1)) (snN s v sn))) ∧ zfrm mu mu2 m)) := by
  have hN0 : m < S.1 := hS.lt (i := 0) (by decide)
  have hN1 : m + 1 < S.1 := hS.lt (by decide)
  have hN7 : m + 7 < S.1 := hS.lt (by decide)
  obtain ⟨⟨-, k0, k1, -, -, -, -, -, k7, -⟩, r0, -, -, -, -, -, r7, -⟩ := id hS
  obtain ⟨v1, ⟨t1, t2, t3⟩, b1, ⟨u1, u2, u3⟩, s1⟩ := id hM
  refine zM.ofG (by decide +kernel) (Nat.le_of_ble_eq_true rfl) ?_
  refine zg_iload_n (i := 1) dX3_save_0 rfl rfl ?_
  refine zg_iconst (v := nI 0) dX3_save_1 (by decide) ?_
  refine zg_iconst (v := nI 1) dX3_save_2 (by decide) ?_
  refine zg_callSi (cm_in S mu x (nI 0) (nI 1)) dX3_save_3 ctX3_in mlX3_44 rfl rfl (Nat.le_of_ble_eq_true rfl) ⟨by decide, by decide⟩ ⟨Nat.le_refl _, Nat.le_refl _⟩ (fun r mu2 h2 => ?_)
  obtain ⟨rfl, rfl⟩ := h2
  simp only [in_le x 1 (by omega)]
  by_cases hc : 0 ≤ x ∧ x < nI (1 + 1)
  · rw [if_pos hc]
    obtain ⟨s, hs, rfl⟩ := atN_ix (by omega) hc
    first | with_reducible refine zg_ifN_ne (tgt := 11) dX3_save_6 (by decide) (by omega) (fun c1 => ?_) (fun c1 => ?_) | refine zg_if_ne (tgt := 11) dX3_save_6 (by decide) (fun c1 => ?_) (fun c1 => ?_)
    · refine zg_iconst (v := nI 0) dX3_save_11 (by decide) ?_
      refine zg_istore_n (i := 2) (L2 := [_, _, _]) dX3_save_12 rfl (by decide) rfl ?_
      refine zg_mu (mu2 := zrow mu2 (m + 6) (cpi (mu2 (m + 6)) (mu2 (m + 1)) (289 * s) 0)) (by rw [cpi_0, zrow_self]) ?_
      refine lm_save hS mu2 (mu2 (m + 6)) hs _ ?_ 289 0 rfl
      refine zg_aload_n (i := 0) dX3_save_44 rfl rfl ?_
      refine zg_getR dX3_save_45 flX3_28 (by decide) (by assumption) (by assumption) (by assumption) ?_
      refine zg_iload_n (i := 1) dX3_save_48 rfl rfl ?_
      refine zg_iconst (v := nI 1) dX3_save_49 (by decide) ?_
      refine zg_zast dX3_save_50 (by assumption) (by assumption) rfl (by omega) (by decide) (by first | assumption | (left; rfl) | (right; rfl)) ?_
      refine zg_aload_n (i := 0) dX3_save_51 rfl rfl ?_
      refine zg_getR dX3_save_52 flX3_7 (by decide) (by assumption) (by assumption) (by assumption) ?_
      refine zg_sipush (v := nI 144) dX3_save_55 (by decide) ?_
      first | with_reducible refine zg_ialdR dX3_save_58 (by assumption) (by assumption) rfl (by omega) (by decide) ?_ | refine zg_iald dX3_save_58 (by assumption) (by assumption) rfl (by omega) (by decide) ?_
      refine zg_val (y := v 144) (by first | exact v1 144 (by omega) | (rw [zup_n (by omega), zrow_n (by omega)]; exact v1 144 (by omega))) ?_
      refine zg_iret dX3_save_59 rfl ⟨_, rfl, rfl, Or.inr ⟨s, by omega, rfl, rfl, fun j hj => ?_, ⟨?_, t2, fun j hj => ?_⟩, fun j hj => ?_, ⟨?_, u2, fun i j hi hj => ?_⟩, fun q hq => ⟨?_, fun e j hj => ?_⟩⟩, fun q hq => ?_⟩
      · rw [zup_n (by omega), zrow_n (by omega)]; exact v1 j hj
      · rw [zup_n (by omega), zrow_n (by omega)]; exact t1
      · rw [zup_n (by omega), zrow_n (by omega)]; exact t3 j hj
      · rw [zup_n (by omega), zrow_n (by omega)]; exact b1 j hj
      · rw [zup_n (by omega), zrow_n (by omega)]; exact u1
      · rw [zup_n (by omega), zrow_n (by omega)]; exact u3 i j hi hj
      · rw [zup_s]
        by_cases hqs : q = s
        · rw [hqs, upd_s, upd_s]
        · rw [upd_n hqs, upd_n hqs, zrow_n (by omega)]; exact (s1 q hq).1
      · rw [zup_n (by omega), zrow_s, snN]
        by_cases hqs : q = s
        · rw [hqs, cpi_in (by omega) (by omega), if_pos rfl, show 289 * s + j - 289 * s = j by omega]; exact v1 j hj
        · rw [upd_n hqs] at e
          rw [cpi_out (by omega), if_neg hqs]; exact (s1 q hq).2 e j hj
      · rw [zup_n (by omega), zrow_n (by omega)]
    · exact absurd c1 (by decide)
  · rw [if_neg hc]
    first | with_reducible refine zg_ifN_ne (tgt := 11) dX3_save_6 (by decide) (by omega) (fun c1 => ?_) (fun c1 => ?_) | refine zg_if_ne (tgt := 11) dX3_save_6 (by decide) (fun c1 => ?_) (fun c1 => ?_)
    · exact absurd rfl c1
    · refine zg_iconst (v := -1) dX3_save_9 (by decide) ?_
      exact zg_iret dX3_save_10 rfl ⟨_, rfl, rfl, ⟨Or.inl ⟨hc, rfl, rfl⟩, fun _ _ => rfl⟩⟩
set_option maxRecDepth 20000 in
theorem cm_restore {S : zS} {m : Nat} (hS : MS S m) {mu : zU} {tl uc : Nat} {v tx bp kp : Nat → Int32} {us sn : Nat → Nat → Int32} (hM : MR mu m v tl tx bp uc us kp sn) (hkp : ∀ q, q < 2 → kp q = nI 0 ∨ kp q = nI 1) (x : Int32) : zM yX3_restore cX3_restore 3 (some .int) 1 0 0 [.inr (m + 1), .inl x] S mu (zPi S (fun r mu2 => ((¬ (0 ≤ x ∧ x < nI 2) ∧ r = -1 ∧ mu2 = mu) ∨ (∃ s, s < 2 ∧ x = nI s ∧ ((kp s = nI 0 ∧ r = -2 ∧ mu2 = mu) ∨ (kp s = nI 1 ∧ r = sn s 144 ∧ MR mu2 m (sn s) tl tx bp 0 us kp sn)))) ∧ zfrm mu mu2 m)) := by
  have hN0 : m < S.1 := hS.lt (i := 0) (by decide)
  have hN1 : m + 1 < S.1 := hS.lt (by decide)
  have hN7 : m + 7 < S.1 := hS.lt (by decide)
  obtain ⟨⟨-, k0, k1, -, -, -, -, -, k7, -⟩, r0, -, -, -, -, -, r7, -⟩ := id hS
  obtain ⟨v1, ⟨t1, t2, t3⟩, b1, ⟨u1, u2, u3⟩, s1⟩ := id hM
  refine zM.ofG (by decide +kernel) (Nat.le_of_ble_eq_true rfl) ?_
  refine zg_iload_n (i := 1) dX3_restore_0 rfl rfl ?_
  refine zg_iconst (v := nI 0) dX3_restore_1 (by decide) ?_
  refine zg_iconst (v := nI 1) dX3_restore_2 (by decide) ?_
  refine zg_callSi (cm_in S mu x (nI 0) (nI 1)) dX3_restore_3 ctX3_in mlX3_44 rfl rfl (Nat.le_of_ble_eq_true rfl) ⟨by decide, by decide⟩ ⟨Nat.le_refl _, Nat.le_refl _⟩ (fun r mu2 h2 => ?_)
  obtain ⟨rfl, rfl⟩ := h2
  simp only [in_le x 1 (by omega)]
  by_cases hc : 0 ≤ x ∧ x < nI (1 + 1)
  · rw [if_pos hc]
    obtain ⟨s, hs, rfl⟩ := atN_ix (by omega) hc
    first | with_reducible refine zg_ifN_ne (tgt := 11) dX3_restore_6 (by decide) (by omega) (fun c1 => ?_) (fun c1 => ?_) | refine zg_if_ne (tgt := 11) dX3_restore_6 (by decide) (fun c1 => ?_) (fun c1 => ?_)
    · refine zg_aload_n (i := 0) dX3_restore_11 rfl rfl ?_
      refine zg_getR dX3_restore_12 flX3_28 (by decide) (by assumption) (by assumption) (by assumption) ?_
      refine zg_iload_n (i := 1) dX3_restore_15 rfl rfl ?_
      refine zg_zald dX3_restore_16 (by assumption) (by assumption) rfl (by omega) (by decide) ?_
      rcases hkp s (by omega) with h5 | h5
      · refine zg_val (y := nI 0) (by rw [(s1 s (by omega)).1]; exact h5) ?_
        first | with_reducible refine zg_ifN_ne (tgt := 23) dX3_restore_17 (by decide) (by omega) (fun c2 => ?_) (fun c2 => ?_) | refine zg_if_ne (tgt := 23) dX3_restore_17 (by decide) (fun c2 => ?_) (fun c2 => ?_)
        · exact absurd rfl c2
        · refine zg_bipush (v := -2) dX3_restore_20 (by decide) ?_
          exact zg_iret dX3_restore_22 rfl ⟨_, rfl, rfl, ⟨Or.inr ⟨s, by omega, rfl, Or.inl ⟨h5, rfl, rfl⟩⟩, fun _ _ => rfl⟩⟩
      · refine zg_val (y := nI 1) (by rw [(s1 s (by omega)).1]; exact h5) ?_
        first | with_reducible refine zg_ifN_ne (tgt := 23) dX3_restore_17 (by decide) (by omega) (fun c2 => ?_) (fun c2 => ?_) | refine zg_if_ne (tgt := 23) dX3_restore_17 (by decide) (fun c2 => ?_) (fun c2 => ?_)
        · refine zg_iconst (v := nI 0) dX3_restore_23 (by decide) ?_
          refine zg_istore_n (i := 2) (L2 := [_, _, _]) dX3_restore_24 rfl (by decide) rfl ?_
          refine zg_mu (mu2 := zrow mu2 (m + 1) (cpi (mu2 (m + 1)) (fun j => mu2 (m + 6) (289 * s + j)) 0 0)) (by rw [cpi_0, zrow_self]) ?_
          refine lm_restore hS mu2 (mu2 (m + 1)) hs _ ?_ 289 0 rfl
          have hsn := (s1 s (by omega)).2 h5
          refine zg_aload_n (i := 0) dX3_restore_56 rfl rfl ?_
          refine zg_iconst (v := nI 0) dX3_restore_57 (by decide) ?_
          refine zg_putI dX3_restore_58 flX3_48 (by decide) (by assumption) (by assumption) ?_
          refine zg_aload_n (i := 0) dX3_restore_61 rfl rfl ?_
          refine zg_getR dX3_restore_62 flX3_7 (by decide) (by assumption) (by assumption) (by assumption) ?_
          refine zg_sipush (v := nI 144) dX3_restore_65 (by decide) ?_
          first | with_reducible refine zg_ialdR dX3_restore_68 (by assumption) (by assumption) rfl (by omega) (by decide) ?_ | refine zg_iald dX3_restore_68 (by assumption) (by assumption) rfl (by omega) (by decide) ?_
          refine zg_val (y := sn s 144) (by first | (rw [cpi_in (by omega) (by omega)]; exact hsn 144 (by omega)) | (rw [zup_n (by omega), zrow_s, cpi_in (by omega) (by omega)]; exact hsn 144 (by omega))) ?_
          refine zg_iret dX3_restore_69 rfl ⟨_, rfl, rfl, Or.inr ⟨s, by omega, rfl, Or.inr ⟨h5, rfl, fun j hj => ?_, ⟨?_, t2, fun j hj => ?_⟩, fun j hj => ?_, ⟨?_, by omega, fun i j hi hj => absurd hi (by omega)⟩, fun q hq => ⟨?_, fun e j hj => ?_⟩⟩⟩, fun q hq => ?_⟩
          · rw [zup_n (by omega), zrow_s, cpi_in (by omega) (by omega), Nat.sub_zero]; exact hsn j hj
          · rw [zup_s, upd_n (by omega), zrow_n (by omega)]; exact t1
          · rw [zup_n (by omega), zrow_n (by omega)]; exact t3 j hj
          · rw [zup_n (by omega), zrow_n (by omega)]; exact b1 j hj
          · rw [zup_s, upd_s]
          · rw [zup_n (by omega), zrow_n (by omega)]; exact (s1 q hq).1
          · rw [zup_n (by omega), zrow_n (by omega)]; exact (s1 q hq).2 e j hj
          · rw [zup_n (by omega), zrow_n (by omega)]
        · exact absurd c2 (by decide)
    · exact absurd c1 (by decide)
  · rw [if_neg hc]
    first | with_reducible refine zg_ifN_ne (tgt := 11) dX3_restore_6 (by decide) (by omega) (fun c1 => ?_) (fun c1 => ?_) | refine zg_if_ne (tgt := 11) dX3_restore_6 (by decide) (fun c1 => ?_) (fun c1 => ?_)
    · exact absurd rfl c1
    · refine zg_iconst (v := -1) dX3_restore_9 (by decide) ?_
      exact zg_iret dX3_restore_10 rfl ⟨_, rfl, rfl, ⟨Or.inl ⟨hc, rfl, rfl⟩, fun _ _ => rfl⟩⟩
