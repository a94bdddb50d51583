/-! THE CLASS: combine, steer, perform -/
set_option maxRecDepth 20000 in
theorem cx_combine (S : zS) (mu : zU) (c a b : Int32) (hc : c = nI 43 ∨ c = nI 45 ∨ c = nI 42 ∨ c = nI 47 ∨ c = nI 37 ∨ c = nI 96) : zM yX0_combine cX0_combine 3 (some .int) 0 0 0 [.inl c, .inl a, .inl b] S mu (zPi S (fun r mu2 => mu2 = mu ∧ r = qop c a b)) := by
  refine zM.ofG (by decide +kernel) (Nat.le_of_ble_eq_true rfl) ?_
  refine zg_iload_n (i := 0) dX0_combine_0 rfl rfl ?_
  rcases hc with rfl | rfl | rfl | rfl | rfl | rfl
  · refine zg_tableIn (off := 59) (tgt := 60) dX0_combine_1 (by decide) (by decide) rfl (by decide) ?_
    refine zg_iload_n (i := 1) dX0_combine_60 rfl rfl ?_
    refine zg_iload_n (i := 2) dX0_combine_61 rfl rfl ?_
    first | with_reducible refine zg_iaddN dX0_combine_62 ?_ | refine zg_iadd dX0_combine_62 ?_
    exact zg_iret dX0_combine_63 rfl ⟨_, rfl, rfl, ⟨rfl, by rw [qo_43]⟩⟩
  · refine zg_tableIn (off := 63) (tgt := 64) dX0_combine_1 (by decide) (by decide) rfl (by decide) ?_
    refine zg_iload_n (i := 1) dX0_combine_64 rfl rfl ?_
    refine zg_iload_n (i := 2) dX0_combine_65 rfl rfl ?_
    first | with_reducible refine zg_isubN dX0_combine_66 (by omega) ?_ | refine zg_isub dX0_combine_66 ?_
    exact zg_iret dX0_combine_67 rfl ⟨_, rfl, rfl, ⟨rfl, by rw [qo_45]⟩⟩
  · refine zg_tableIn (off := 67) (tgt := 68) dX0_combine_1 (by decide) (by decide) rfl (by decide) ?_
    refine zg_iload_n (i := 1) dX0_combine_68 rfl rfl ?_
    refine zg_iload_n (i := 2) dX0_combine_69 rfl rfl ?_
    first | with_reducible refine zg_imulN dX0_combine_70 ?_ | refine zg_imul dX0_combine_70 ?_
    exact zg_iret dX0_combine_71 rfl ⟨_, rfl, rfl, ⟨rfl, by rw [qo_42]⟩⟩
  · refine zg_tableIn (off := 71) (tgt := 72) dX0_combine_1 (by decide) (by decide) rfl (by decide) ?_
    refine zg_iload_n (i := 2) dX0_combine_72 rfl rfl ?_
    refine zg_if_ne (tgt := 80) dX0_combine_73 (by decide) (fun h => ?_) (fun h => ?_)
    · refine zg_iload_n (i := 1) dX0_combine_80 rfl rfl ?_
      refine zg_iload_n (i := 2) dX0_combine_81 rfl rfl ?_
      refine zg_idiv dX0_combine_82 (by assumption) ?_
      exact zg_iret dX0_combine_83 rfl ⟨_, rfl, rfl, ⟨rfl, by rw [qo_47, if_neg h]⟩⟩
    · refine zg_iconst (v := nI 0) dX0_combine_76 (by decide) ?_
      refine zg_goto (tgt := 83) dX0_combine_77 (by decide) ?_
      exact zg_iret dX0_combine_83 rfl ⟨_, rfl, rfl, ⟨rfl, by rw [qo_47, if_pos h]⟩⟩
  · refine zg_tableIn (off := 83) (tgt := 84) dX0_combine_1 (by decide) (by decide) rfl (by decide) ?_
    refine zg_iload_n (i := 2) dX0_combine_84 rfl rfl ?_
    refine zg_if_ne (tgt := 92) dX0_combine_85 (by decide) (fun h => ?_) (fun h => ?_)
    · refine zg_iload_n (i := 1) dX0_combine_92 rfl rfl ?_
      refine zg_iload_n (i := 2) dX0_combine_93 rfl rfl ?_
      first | with_reducible refine zg_iremN dX0_combine_94 (by omega) (by omega) (by omega) ?_ | refine zg_irem dX0_combine_94 (by assumption) ?_
      exact zg_iret dX0_combine_95 rfl ⟨_, rfl, rfl, ⟨rfl, by rw [qo_37, if_neg h]⟩⟩
    · refine zg_iconst (v := nI 0) dX0_combine_88 (by decide) ?_
      refine zg_goto (tgt := 95) dX0_combine_89 (by decide) ?_
      exact zg_iret dX0_combine_95 rfl ⟨_, rfl, rfl, ⟨rfl, by rw [qo_37, if_pos h]⟩⟩
  · refine zg_tableOut (tgt := 96) dX0_combine_1 (by decide) (by decide) ?_
    refine zg_iload_n (i := 1) dX0_combine_96 rfl rfl ?_
    refine zg_iload_n (i := 2) dX0_combine_97 rfl rfl ?_
    refine zg_icmp_le (tgt := 105) dX0_combine_98 (by decide) (fun h => ?_) (fun h => ?_)
    · refine zg_iconst (v := nI 0) dX0_combine_105 (by decide) ?_
      exact zg_iret dX0_combine_106 rfl ⟨_, rfl, rfl, ⟨rfl, by rw [qo_96, if_neg (Int32.not_lt.mpr h)]⟩⟩
    · refine zg_iconst (v := nI 1) dX0_combine_101 (by decide) ?_
      refine zg_goto (tgt := 106) dX0_combine_102 (by decide) ?_
      exact zg_iret dX0_combine_106 rfl ⟨_, rfl, rfl, ⟨rfl, by rw [qo_96, if_pos (Int32.not_le.mp h)]⟩⟩
set_option maxRecDepth 20000 in
theorem cj_min (S : zS) (mu : zU) (a b : Int32) : zM yJ9_min_7cf53 cJ9_min_7cf53 2 (some .int) 0 0 0 [.inl a, .inl b] S mu (zPi S (fun r mu2 => mu2 = mu ∧ r = if b < a then b else a)) := by
  refine zM.ofGJ (by decide +kernel) (Nat.le_of_ble_eq_true rfl) ?_
  refine zg_iload_n (i := 0) dJ9_min_7cf53_0 rfl rfl ?_
  refine zg_iload_n (i := 1) dJ9_min_7cf53_1 rfl rfl ?_
  refine zg_icmp_gt (tgt := 9) dJ9_min_7cf53_2 (by decide) (fun c => ?_) (fun c => ?_)
  · refine zg_iload_n (i := 1) dJ9_min_7cf53_9 rfl rfl ?_
    exact zg_iret dJ9_min_7cf53_10 rfl ⟨_, rfl, rfl, ⟨rfl, by rw [if_pos c]⟩⟩
  · refine zg_iload_n (i := 0) dJ9_min_7cf53_5 rfl rfl ?_
    refine zg_goto (tgt := 10) dJ9_min_7cf53_6 (by decide) ?_
    exact zg_iret dJ9_min_7cf53_10 rfl ⟨_, rfl, rfl, ⟨rfl, by rw [if_neg c]⟩⟩
set_option maxRecDepth 20000 in
theorem cj_max (S : zS) (mu : zU) (a b : Int32) : zM yJ9_max_7cf53 cJ9_max_7cf53 2 (some .int) 0 0 0 [.inl a, .inl b] S mu (zPi S (fun r mu2 => mu2 = mu ∧ r = if a < b then b else a)) := by
  refine zM.ofGJ (by decide +kernel) (Nat.le_of_ble_eq_true rfl) ?_
  refine zg_iload_n (i := 0) dJ9_max_7cf53_0 rfl rfl ?_
  refine zg_iload_n (i := 1) dJ9_max_7cf53_1 rfl rfl ?_
  refine zg_icmp_lt (tgt := 9) dJ9_max_7cf53_2 (by decide) (fun c => ?_) (fun c => ?_)
  · refine zg_iload_n (i := 1) dJ9_max_7cf53_9 rfl rfl ?_
    exact zg_iret dJ9_max_7cf53_10 rfl ⟨_, rfl, rfl, ⟨rfl, by rw [if_pos c]⟩⟩
  · refine zg_iload_n (i := 0) dJ9_max_7cf53_5 rfl rfl ?_
    refine zg_goto (tgt := 10) dJ9_max_7cf53_6 (by decide) ?_
    exact zg_iret dJ9_max_7cf53_10 rfl ⟨_, rfl, rfl, ⟨rfl, by rw [if_neg c]⟩⟩
theorem qclamp_mm (x : Int32) (n : Nat) (hn : n < 2 ^ 31) : (if nI 0 < (if x < nI n then x else nI n) then (if x < nI n then x else nI n) else nI 0) = nI (qclamp x n) := by
  rw [qclamp]
  by_cases h0 : x < 0
  · have h1 : x < nI n := by
      have := nI_pos' hn
      rw [Int32.lt_iff_toInt_lt] at h0 ⊢
      rw [Int32.le_iff_toInt_le] at this
      omega
    rw [if_pos h0, if_pos h1, if_neg]
    rw [n0]
    intro h2
    rw [Int32.lt_iff_toInt_lt] at h0 h2
    omega
  · rw [if_neg h0]
    obtain ⟨j, hj, rfl⟩ := nI_of h0
    simp only [nI_ltI hj hn, nI_ltI hn hj, nI_clamp hj]
    by_cases h1 : j < n
    · simp only [if_pos h1, if_neg (show ¬ n < j by omega), nI_ltI (show 0 < 2 ^ 31 by omega) hj]
      by_cases h2 : 0 < j
      · rw [if_pos h2]
      · rw [if_neg h2, show j = 0 by omega]
    · simp only [if_neg h1, nI_ltI (show 0 < 2 ^ 31 by omega) hn]
      by_cases h2 : 0 < n
      · rw [if_pos h2]
        by_cases h3 : n < j
        · rw [if_pos h3]
        · rw [if_neg h3, show n = j by omega]
      · rw [if_neg h2]
        by_cases h3 : n < j
        · rw [if_pos h3, show n = 0 by omega]
        · rw [if_neg h3, show j = 0 by omega]
theorem qpush_push {w : Nat → Int32} {o : Nat} (h : PX1 w o) (h0 : w (o + 3) = 0) (a b : Int32) : qpush (qpush w o a) o b = qpush2 w o a b := by
  obtain ⟨x, y, dr, ss, sl, ns, s0, s1, s2, hP⟩ := h
  rw [qpush2]
  by_cases hz : s0 + s1 + s2 = 16
  · have e := hP.pushF hz a
    rw [e, upd_s, if_neg (by decide)]
    have hP2 := hP.stat (d := 2) (by omega)
    rw [hP2.pushF hz b]
    exact upd_same (upd_s _ _ _)
  · rw [if_pos]
    rw [hP.pushE hz a, upd_n (by have := hP.ns; omega), upd_n (by omega)]
    exact h0
theorem qpop_3 {w : Nat → Int32} {o : Nat} (h : PX1 w o) : qpop w o (o + 3) = w (o + 3) := by
  obtain ⟨x, y, dr, ss, sl, ns, s0, s1, s2, hP⟩ := h
  obtain ⟨t0, t1, t2, hQ, -⟩ := hP.pop1
  exact hQ.2.2.2.1.trans hP.2.2.2.1.symm
set_option maxRecDepth 20000 in
theorem cx_steer {S : zS} {k : Nat} (hS : PS S k) {mu : zU} {v : Nat → Int32} {o : Nat} (hX : PX mu k v o) (c : Int32) : zM yX0_steer cX0_steer 2 none 1 0 0 [.inr (k + 1), .inl c] S mu (zPv S (fun mu2 => PX mu2 k (qsteer v o c) o ∧ zfr mu mu2 k 3)) := by
  obtain ⟨hN2, k0, k1, k2, r5, r7⟩ := id hS
  have hN0 : k < S.1 := by omega
  obtain ⟨x, y, dr, ss, sl, ns, s0, s1, s2, hP, hR⟩ := id hX
  obtain ⟨z5, a1, a2, a3⟩ := hP.ns
  have hdir : ∀ d : Nat, d < 4 → PX (zup mu k 2 (nI d)) k (upd v (o + 2) (nI d)) o ∧ zfr mu (zup mu k 2 (nI d)) k 3 := fun d hd => ⟨⟨_, _, _, _, _, _, _, _, _, hP.dir hd, PR_fld hR (by omega) (by omega) (by omega)⟩, zfr_up (by omega) (by omega)⟩
  have hdir2 : ∀ mu2 : zU, PX mu2 k (qpop v o) o → zfr mu mu2 k 3 → ∀ d : Nat, d < 4 → PX (zup mu2 k 2 (nI d)) k (upd (qpop v o) (o + 2) (nI d)) o ∧ zfr mu (zup mu2 k 2 (nI d)) k 3 := by
    intro mu2 hX2 hf2 d hd
    obtain ⟨x', y', dr', ss', sl', ns', t0, t1, t2, hQ, hT⟩ := hX2
    obtain ⟨-, -, b2, b3⟩ := hQ.ns
    exact ⟨⟨_, _, _, _, _, _, _, _, _, hQ.dir hd, PR_fld hT (by omega) (by omega) (by omega)⟩, hf2.trans (zfr_up (by omega) (by omega))⟩
  refine zM.ofG (by decide +kernel) (Nat.le_of_ble_eq_true rfl) ?_
  refine zg_iload_n (i := 1) dX0_steer_0 rfl rfl ?_
  by_cases c62 : c = nI 62
  · subst c62
    refine zg_lookup (off := 91) (tgt := 92) dX0_steer_1 (by decide) (by decide) (by decide) ?_
    refine zg_aload_n (i := 0) dX0_steer_92 rfl rfl ?_
    refine zg_iconst (v := nI 0) dX0_steer_93 (by decide) ?_
    refine zg_putI dX0_steer_94 flX0_28 (by decide) (by assumption) (by assumption) ?_
    refine zg_goto (tgt := 193) dX0_steer_97 (by decide) ?_
    exact zg_vret dX0_steer_193 rfl ⟨rfl, rfl, (by rw [qs_62]; exact hdir 0 (by omega))⟩
  by_cases c118 : c = nI 118
  · subst c118
    refine zg_lookup (off := 99) (tgt := 100) dX0_steer_1 (by decide) (by decide) (by decide) ?_
    refine zg_aload_n (i := 0) dX0_steer_100 rfl rfl ?_
    refine zg_iconst (v := nI 1) dX0_steer_101 (by decide) ?_
    refine zg_putI dX0_steer_102 flX0_28 (by decide) (by assumption) (by assumption) ?_
    refine zg_goto (tgt := 193) dX0_steer_105 (by decide) ?_
    exact zg_vret dX0_steer_193 rfl ⟨rfl, rfl, (by rw [qs_118]; exact hdir 1 (by omega))⟩
  by_cases c60 : c = nI 60
  · subst c60
    refine zg_lookup (off := 107) (tgt := 108) dX0_steer_1 (by decide) (by decide) (by decide) ?_
    refine zg_aload_n (i := 0) dX0_steer_108 rfl rfl ?_
    refine zg_iconst (v := nI 2) dX0_steer_109 (by decide) ?_
    refine zg_putI dX0_steer_110 flX0_28 (by decide) (by assumption) (by assumption) ?_
    refine zg_goto (tgt := 193) dX0_steer_113 (by decide) ?_
    exact zg_vret dX0_steer_193 rfl ⟨rfl, rfl, (by rw [qs_60]; exact hdir 2 (by omega))⟩
  by_cases c94 : c = nI 94
  · subst c94
    refine zg_lookup (off := 115) (tgt := 116) dX0_steer_1 (by decide) (by decide) (by decide) ?_
    refine zg_aload_n (i := 0) dX0_steer_116 rfl rfl ?_
    refine zg_iconst (v := nI 3) dX0_steer_117 (by decide) ?_
    refine zg_putI dX0_steer_118 flX0_28 (by decide) (by assumption) (by assumption) ?_
    refine zg_goto (tgt := 193) dX0_steer_121 (by decide) ?_
    exact zg_vret dX0_steer_193 rfl ⟨rfl, rfl, (by rw [qs_94]; exact hdir 3 (by omega))⟩
  by_cases c95 : c = nI 95
  · subst c95
    refine zg_lookup (off := 123) (tgt := 124) dX0_steer_1 (by decide) (by decide) (by decide) ?_
    refine zg_aload_n (i := 0) dX0_steer_124 rfl rfl ?_
    refine zg_aload_n (i := 0) dX0_steer_125 rfl rfl ?_
    refine zg_callVi (cx_pop hS hX) dX0_steer_126 cvX0_pop mlX0_50 rfl (by assumption) (by assumption) rfl (Nat.le_of_ble_eq_true rfl) ⟨by decide, by decide⟩ ⟨Nat.le_refl _, Nat.le_refl _⟩ (fun r mu2 h2 => ?_)
    obtain ⟨rfl, hX2, hf2⟩ := h2
    refine zg_if_ne (tgt := 136) dX0_steer_129 (by decide) (fun cz => ?_) (fun cz => ?_)
    · refine zg_iconst (v := nI 2) dX0_steer_136 (by decide) ?_
      refine zg_putI dX0_steer_137 flX0_28 (by decide) (by assumption) (by assumption) ?_
      refine zg_goto (tgt := 193) dX0_steer_140 (by decide) ?_
      exact zg_vret dX0_steer_193 rfl ⟨rfl, rfl, (by rw [qs_95, if_neg cz]; exact hdir2 mu2 hX2 hf2 2 (by omega))⟩
    · refine zg_iconst (v := nI 0) dX0_steer_132 (by decide) ?_
      refine zg_goto (tgt := 137) dX0_steer_133 (by decide) ?_
      refine zg_putI dX0_steer_137 flX0_28 (by decide) (by assumption) (by assumption) ?_
      refine zg_goto (tgt := 193) dX0_steer_140 (by decide) ?_
      exact zg_vret dX0_steer_193 rfl ⟨rfl, rfl, (by rw [qs_95, if_pos cz]; exact hdir2 mu2 hX2 hf2 0 (by omega))⟩
  by_cases c124 : c = nI 124
  · subst c124
    refine zg_lookup (off := 142) (tgt := 143) dX0_steer_1 (by decide) (by decide) (by decide) ?_
    refine zg_aload_n (i := 0) dX0_steer_143 rfl rfl ?_
    refine zg_aload_n (i := 0) dX0_steer_144 rfl rfl ?_
    refine zg_callVi (cx_pop hS hX) dX0_steer_145 cvX0_pop mlX0_50 rfl (by assumption) (by assumption) rfl (Nat.le_of_ble_eq_true rfl) ⟨by decide, by decide⟩ ⟨Nat.le_refl _, Nat.le_refl _⟩ (fun r mu2 h2 => ?_)
    obtain ⟨rfl, hX2, hf2⟩ := h2
    refine zg_if_ne (tgt := 155) dX0_steer_148 (by decide) (fun cz => ?_) (fun cz => ?_)
    · refine zg_iconst (v := nI 3) dX0_steer_155 (by decide) ?_
      refine zg_putI dX0_steer_156 flX0_28 (by decide) (by assumption) (by assumption) ?_
      refine zg_goto (tgt := 193) dX0_steer_159 (by decide) ?_
      exact zg_vret dX0_steer_193 rfl ⟨rfl, rfl, (by rw [qs_124, if_neg cz]; exact hdir2 mu2 hX2 hf2 3 (by omega))⟩
    · refine zg_iconst (v := nI 1) dX0_steer_151 (by decide) ?_
      refine zg_goto (tgt := 156) dX0_steer_152 (by decide) ?_
      refine zg_putI dX0_steer_156 flX0_28 (by decide) (by assumption) (by assumption) ?_
      refine zg_goto (tgt := 193) dX0_steer_159 (by decide) ?_
      exact zg_vret dX0_steer_193 rfl ⟨rfl, rfl, (by rw [qs_124, if_pos cz]; exact hdir2 mu2 hX2 hf2 1 (by omega))⟩
  by_cases c91 : c = nI 91
  · subst c91
    refine zg_lookup (off := 161) (tgt := 162) dX0_steer_1 (by decide) (by decide) (by decide) ?_
    refine zg_aload_n (i := 0) dX0_steer_162 rfl rfl ?_
    refine zg_iconst (v := nI 3) dX0_steer_163 (by decide) ?_
    refine zg_callVv (cx_turn hS hX (n := 3) (by omega)) dX0_steer_164 cvX0_turn mlX0_76 rfl (by assumption) (by assumption) rfl (Nat.le_of_ble_eq_true rfl) ⟨by decide, by decide⟩ ⟨Nat.le_refl _, Nat.le_refl _⟩ (fun mu2 h2 => ?_)
    refine zg_goto (tgt := 193) dX0_steer_167 (by decide) ?_
    exact zg_vret dX0_steer_193 rfl ⟨rfl, rfl, (by rw [qs_91]; exact h2)⟩
  by_cases c93 : c = nI 93
  · subst c93
    refine zg_lookup (off := 169) (tgt := 170) dX0_steer_1 (by decide) (by decide) (by decide) ?_
    refine zg_aload_n (i := 0) dX0_steer_170 rfl rfl ?_
    refine zg_iconst (v := nI 1) dX0_steer_171 (by decide) ?_
    refine zg_callVv (cx_turn hS hX (n := 1) (by omega)) dX0_steer_172 cvX0_turn mlX0_76 rfl (by assumption) (by assumption) rfl (Nat.le_of_ble_eq_true rfl) ⟨by decide, by decide⟩ ⟨Nat.le_refl _, Nat.le_refl _⟩ (fun mu2 h2 => ?_)
    refine zg_goto (tgt := 193) dX0_steer_175 (by decide) ?_
    exact zg_vret dX0_steer_193 rfl ⟨rfl, rfl, (by rw [qs_93]; exact h2)⟩
  by_cases c114 : c = nI 114
  · subst c114
    refine zg_lookup (off := 177) (tgt := 178) dX0_steer_1 (by decide) (by decide) (by decide) ?_
    refine zg_aload_n (i := 0) dX0_steer_178 rfl rfl ?_
    refine zg_iconst (v := nI 2) dX0_steer_179 (by decide) ?_
    refine zg_callVv (cx_turn hS hX (n := 2) (by omega)) dX0_steer_180 cvX0_turn mlX0_76 rfl (by assumption) (by assumption) rfl (Nat.le_of_ble_eq_true rfl) ⟨by decide, by decide⟩ ⟨Nat.le_refl _, Nat.le_refl _⟩ (fun mu2 h2 => ?_)
    refine zg_goto (tgt := 193) dX0_steer_183 (by decide) ?_
    exact zg_vret dX0_steer_193 rfl ⟨rfl, rfl, (by rw [qs_114]; exact h2)⟩
  by_cases c35 : c = nI 35
  · subst c35
    refine zg_lookup (off := 185) (tgt := 186) dX0_steer_1 (by decide) (by decide) (by decide) ?_
    refine zg_aload_n (i := 0) dX0_steer_186 rfl rfl ?_
    refine zg_callVv (cx_step hS hX) dX0_steer_187 cvX0_step mlX0_79 rfl (by assumption) (by assumption) rfl (Nat.le_of_ble_eq_true rfl) ⟨by decide, by decide⟩ ⟨Nat.le_refl _, Nat.le_refl _⟩ (fun mu2 h2 => ?_)
    refine zg_goto (tgt := 193) dX0_steer_190 (by decide) ?_
    exact zg_vret dX0_steer_193 rfl ⟨rfl, rfl, (by rw [qs_35]; exact h2)⟩
  refine zg_lookup (off := 192) (tgt := 193) dX0_steer_1 (by decide) (zoff_def _ _ _ (fun q hq => ?_)) (by decide) ?_
  · simp only [List.mem_cons, List.not_mem_nil, or_false] at hq
    rcases hq with rfl | rfl | rfl | rfl | rfl | rfl | rfl | rfl | rfl | rfl
    · exact ne_toInt (a := 35) (by omega) c35
    · exact ne_toInt (a := 60) (by omega) c60
    · exact ne_toInt (a := 62) (by omega) c62
    · exact ne_toInt (a := 91) (by omega) c91
    · exact ne_toInt (a := 93) (by omega) c93
    · exact ne_toInt (a := 94) (by omega) c94
    · exact ne_toInt (a := 95) (by omega) c95
    · exact ne_toInt (a := 114) (by omega) c114
    · exact ne_toInt (a := 118) (by omega) c118
    · exact ne_toInt (a := 124) (by omega) c124
  rw [qs_none v o ⟨c62, c118, c60, c94, c95, c124, c91, c93, c114, c35⟩]
  exact zg_vret dX0_steer_193 rfl ⟨rfl, rfl, ⟨hX, zfr.rf _ _ _⟩⟩
set_option maxRecDepth 20000 in
theorem cx_perform {S : zS} {k : Nat} (hS : PS S k) {mu : zU} {v : Nat → Int32} {o : Nat} (hX : PX mu k v o) (h0 : v (o + 3) = 0) (c : Int32) : zM yX0_perform cX0_perform 7 none 2 0 0 [.inr (k + 1), .inl c] S mu (zPv S (fun mu2 => PX mu2 k (qperf v o c) o ∧ zfr mu mu2 k 3)) := by
  obtain ⟨hN2, k0, k1, k2, r5, r7⟩ := id hS
  have hN0 : k < S.1 := by omega
  refine zM.ofG (by decide +kernel) (Nat.le_of_ble_eq_true rfl) ?_
  by_cases hd : nI 48 ≤ c ∧ c ≤ nI 57
  · refine zg_iload_n (i := 1) dX0_perform_0 rfl rfl ?_
    refine zg_bipush (v := nI 48) dX0_perform_1 (by decide) ?_
    refine zg_icmp_lt (tgt := 21) dX0_perform_3 (by decide) (fun c1 => ?_) (fun c1 => ?_)
    · exact absurd hd.1 (Int32.not_le.mpr c1)
    · refine zg_iload_n (i := 1) dX0_perform_6 rfl rfl ?_
      refine zg_bipush (v := nI 57) dX0_perform_7 (by decide) ?_
      refine zg_icmp_gt (tgt := 21) dX0_perform_9 (by decide) (fun c2 => ?_) (fun c2 => ?_)
      · exact absurd hd.2 (Int32.not_le.mpr c2)
      · refine zg_aload_n (i := 0) dX0_perform_12 rfl rfl ?_
        refine zg_iload_n (i := 1) dX0_perform_13 rfl rfl ?_
        refine zg_bipush (v := nI 48) dX0_perform_14 (by decide) ?_
        first | with_reducible refine zg_isubN dX0_perform_16 (by omega) ?_ | refine zg_isub dX0_perform_16 ?_
        refine zg_callVv (cx_push hS hX _) dX0_perform_17 cvX0_push mlX0_46 rfl (by assumption) (by assumption) rfl (Nat.le_of_ble_eq_true rfl) ⟨by decide, by decide⟩ ⟨Nat.le_refl _, Nat.le_refl _⟩ (fun mu2 h2 => ?_)
        exact zg_vret dX0_perform_20 rfl ⟨rfl, rfl, (by rw [qp_dig v o hd]; exact h2)⟩
  have hswitch : zG RX0 "perform" cX0_perform 7 none (zroom 2 0 0) 0 0 (zPv S (fun mu2 => PX mu2 k (qperf v o c) o ∧ zfr mu mu2 k 3)) 21 [some (.inr (k + 1)), some (.inl c), none, none, none, none, none] [] S (mu) 0 0 := by
    refine zg_iload_n (i := 1) dX0_perform_21 rfl rfl ?_
    by_cases c43 : c = nI 43
    · subst c43
      refine zg_lookup (off := 122) (tgt := 144) dX0_perform_22 (by decide) (by decide) (by decide) ?_
      refine zg_aload_n (i := 0) dX0_perform_144 rfl rfl ?_
      refine zg_callVi (cx_pop hS hX) dX0_perform_145 cvX0_pop mlX0_50 rfl (by assumption) (by assumption) rfl (Nat.le_of_ble_eq_true rfl) ⟨by decide, by decide⟩ ⟨Nat.le_refl _, Nat.le_refl _⟩ (fun r mu2 h2 => ?_)
      obtain ⟨rfl, hX2, hf2⟩ := h2
      refine zg_istore_n (i := 2) (L2 := [_, _, _, _, _, _, _]) dX0_perform_148 rfl (by decide) rfl ?_
      refine zg_aload_n (i := 0) dX0_perform_149 rfl rfl ?_
      refine zg_callVi (cx_pop hS hX2) dX0_perform_150 cvX0_pop mlX0_50 rfl (by assumption) (by assumption) rfl (Nat.le_of_ble_eq_true rfl) ⟨by decide, by decide⟩ ⟨Nat.le_refl _, Nat.le_refl _⟩ (fun r mu3 h3 => ?_)
      obtain ⟨rfl, hX3, hf3⟩ := h3
      refine zg_istore_n (i := 3) (L2 := [_, _, _, _, _, _, _]) dX0_perform_153 rfl (by decide) rfl ?_
      refine zg_aload_n (i := 0) dX0_perform_154 rfl rfl ?_
      refine zg_iload_n (i := 1) dX0_perform_155 rfl rfl ?_
      refine zg_iload_n (i := 3) dX0_perform_156 rfl rfl ?_
      refine zg_iload_n (i := 2) dX0_perform_157 rfl rfl ?_
      refine zg_callSi (cx_combine S mu3 (nI 43) _ _ (by decide)) dX0_perform_158 ctX0_combine mlX0_54 rfl rfl (Nat.le_of_ble_eq_true rfl) ⟨by decide, by decide⟩ ⟨Nat.le_refl _, Nat.le_refl _⟩ (fun r mu4 h4 => ?_)
      obtain ⟨rfl, rfl⟩ := h4
      refine zg_callVv (cx_push hS hX3 _) dX0_perform_161 cvX0_push mlX0_46 rfl (by assumption) (by assumption) rfl (Nat.le_of_ble_eq_true rfl) ⟨by decide, by decide⟩ ⟨Nat.le_refl _, Nat.le_refl _⟩ (fun mu5 h5 => ?_)
      refine zg_goto (tgt := 293) dX0_perform_164 (by decide) ?_
      exact zg_vret dX0_perform_293 rfl ⟨rfl, rfl, (by rw [qp_43]; exact ⟨h5.1, hf2.trans (hf3.trans h5.2)⟩)⟩
    by_cases c45 : c = nI 45
    · subst c45
      refine zg_lookup (off := 122) (tgt := 144) dX0_perform_22 (by decide) (by decide) (by decide) ?_
      refine zg_aload_n (i := 0) dX0_perform_144 rfl rfl ?_
      refine zg_callVi (cx_pop hS hX) dX0_perform_145 cvX0_pop mlX0_50 rfl (by assumption) (by assumption) rfl (Nat.le_of_ble_eq_true rfl) ⟨by decide, by decide⟩ ⟨Nat.le_refl _, Nat.le_refl _⟩ (fun r mu2 h2 => ?_)
      obtain ⟨rfl, hX2, hf2⟩ := h2
      refine zg_istore_n (i := 2) (L2 := [_, _, _, _, _, _, _]) dX0_perform_148 rfl (by decide) rfl ?_
      refine zg_aload_n (i := 0) dX0_perform_149 rfl rfl ?_
      refine zg_callVi (cx_pop hS hX2) dX0_perform_150 cvX0_pop mlX0_50 rfl (by assumption) (by assumption) rfl (Nat.le_of_ble_eq_true rfl) ⟨by decide, by decide⟩ ⟨Nat.le_refl _, Nat.le_refl _⟩ (fun r mu3 h3 => ?_)
      obtain ⟨rfl, hX3, hf3⟩ := h3
      refine zg_istore_n (i := 3) (L2 := [_, _, _, _, _, _, _]) dX0_perform_153 rfl (by decide) rfl ?_
      refine zg_aload_n (i := 0) dX0_perform_154 rfl rfl ?_
      refine zg_iload_n (i := 1) dX0_perform_155 rfl rfl ?_
      refine zg_iload_n (i := 3) dX0_perform_156 rfl rfl ?_
      refine zg_iload_n (i := 2) dX0_perform_157 rfl rfl ?_
      refine zg_callSi (cx_combine S mu3 (nI 45) _ _ (by decide)) dX0_perform_158 ctX0_combine mlX0_54 rfl rfl (Nat.le_of_ble_eq_true rfl) ⟨by decide, by decide⟩ ⟨Nat.le_refl _, Nat.le_refl _⟩ (fun r mu4 h4 => ?_)
      obtain ⟨rfl, rfl⟩ := h4
      refine zg_callVv (cx_push hS hX3 _) dX0_perform_161 cvX0_push mlX0_46 rfl (by assumption) (by assumption) rfl (Nat.le_of_ble_eq_true rfl) ⟨by decide, by decide⟩ ⟨Nat.le_refl _, Nat.le_refl _⟩ (fun mu5 h5 => ?_)
      refine zg_goto (tgt := 293) dX0_perform_164 (by decide) ?_
      exact zg_vret dX0_perform_293 rfl ⟨rfl, rfl, (by rw [qp_45]; exact ⟨h5.1, hf2.trans (hf3.trans h5.2)⟩)⟩
    by_cases c42 : c = nI 42
    · subst c42
      refine zg_lookup (off := 122) (tgt := 144) dX0_perform_22 (by decide) (by decide) (by decide) ?_
      refine zg_aload_n (i := 0) dX0_perform_144 rfl rfl ?_
      refine zg_callVi (cx_pop hS hX) dX0_perform_145 cvX0_pop mlX0_50 rfl (by assumption) (by assumption) rfl (Nat.le_of_ble_eq_true rfl) ⟨by decide, by decide⟩ ⟨Nat.le_refl _, Nat.le_refl _⟩ (fun r mu2 h2 => ?_)
      obtain ⟨rfl, hX2, hf2⟩ := h2
      refine zg_istore_n (i := 2) (L2 := [_, _, _, _, _, _, _]) dX0_perform_148 rfl (by decide) rfl ?_
      refine zg_aload_n (i := 0) dX0_perform_149 rfl rfl ?_
      refine zg_callVi (cx_pop hS hX2) dX0_perform_150 cvX0_pop mlX0_50 rfl (by assumption) (by assumption) rfl (Nat.le_of_ble_eq_true rfl) ⟨by decide, by decide⟩ ⟨Nat.le_refl _, Nat.le_refl _⟩ (fun r mu3 h3 => ?_)
      obtain ⟨rfl, hX3, hf3⟩ := h3
      refine zg_istore_n (i := 3) (L2 := [_, _, _, _, _, _, _]) dX0_perform_153 rfl (by decide) rfl ?_
      refine zg_aload_n (i := 0) dX0_perform_154 rfl rfl ?_
      refine zg_iload_n (i := 1) dX0_perform_155 rfl rfl ?_
      refine zg_iload_n (i := 3) dX0_perform_156 rfl rfl ?_
      refine zg_iload_n (i := 2) dX0_perform_157 rfl rfl ?_
      refine zg_callSi (cx_combine S mu3 (nI 42) _ _ (by decide)) dX0_perform_158 ctX0_combine mlX0_54 rfl rfl (Nat.le_of_ble_eq_true rfl) ⟨by decide, by decide⟩ ⟨Nat.le_refl _, Nat.le_refl _⟩ (fun r mu4 h4 => ?_)
      obtain ⟨rfl, rfl⟩ := h4
      refine zg_callVv (cx_push hS hX3 _) dX0_perform_161 cvX0_push mlX0_46 rfl (by assumption) (by assumption) rfl (Nat.le_of_ble_eq_true rfl) ⟨by decide, by decide⟩ ⟨Nat.le_refl _, Nat.le_refl _⟩ (fun mu5 h5 => ?_)
      refine zg_goto (tgt := 293) dX0_perform_164 (by decide) ?_
      exact zg_vret dX0_perform_293 rfl ⟨rfl, rfl, (by rw [qp_42]; exact ⟨h5.1, hf2.trans (hf3.trans h5.2)⟩)⟩
    by_cases c47 : c = nI 47
    · subst c47
      refine zg_lookup (off := 122) (tgt := 144) dX0_perform_22 (by decide) (by decide) (by decide) ?_
      refine zg_aload_n (i := 0) dX0_perform_144 rfl rfl ?_
      refine zg_callVi (cx_pop hS hX) dX0_perform_145 cvX0_pop mlX0_50 rfl (by assumption) (by assumption) rfl (Nat.le_of_ble_eq_true rfl) ⟨by decide, by decide⟩ ⟨Nat.le_refl _, Nat.le_refl _⟩ (fun r mu2 h2 => ?_)
      obtain ⟨rfl, hX2, hf2⟩ := h2
      refine zg_istore_n (i := 2) (L2 := [_, _, _, _, _, _, _]) dX0_perform_148 rfl (by decide) rfl ?_
      refine zg_aload_n (i := 0) dX0_perform_149 rfl rfl ?_
      refine zg_callVi (cx_pop hS hX2) dX0_perform_150 cvX0_pop mlX0_50 rfl (by assumption) (by assumption) rfl (Nat.le_of_ble_eq_true rfl) ⟨by decide, by decide⟩ ⟨Nat.le_refl _, Nat.le_refl _⟩ (fun r mu3 h3 => ?_)
      obtain ⟨rfl, hX3, hf3⟩ := h3
      refine zg_istore_n (i := 3) (L2 := [_, _, _, _, _, _, _]) dX0_perform_153 rfl (by decide) rfl ?_
      refine zg_aload_n (i := 0) dX0_perform_154 rfl rfl ?_
      refine zg_iload_n (i := 1) dX0_perform_155 rfl rfl ?_
      refine zg_iload_n (i := 3) dX0_perform_156 rfl rfl ?_
      refine zg_iload_n (i := 2) dX0_perform_157 rfl rfl ?_
      refine zg_callSi (cx_combine S mu3 (nI 47) _ _ (by decide)) dX0_perform_158 ctX0_combine mlX0_54 rfl rfl (Nat.le_of_ble_eq_true rfl) ⟨by decide, by decide⟩ ⟨Nat.le_refl _, Nat.le_refl _⟩ (fun r mu4 h4 => ?_)
      obtain ⟨rfl, rfl⟩ := h4
      refine zg_callVv (cx_push hS hX3 _) dX0_perform_161 cvX0_push mlX0_46 rfl (by assumption) (by assumption) rfl (Nat.le_of_ble_eq_true rfl) ⟨by decide, by decide⟩ ⟨Nat.le_refl _, Nat.le_refl _⟩ (fun mu5 h5 => ?_)
      refine zg_goto (tgt := 293) dX0_perform_164 (by decide) ?_
      exact zg_vret dX0_perform_293 rfl ⟨rfl, rfl, (by rw [qp_47]; exact ⟨h5.1, hf2.trans (hf3.trans h5.2)⟩)⟩
    by_cases c37 : c = nI 37
    · subst c37
      refine zg_lookup (off := 122) (tgt := 144) dX0_perform_22 (by decide) (by decide) (by decide) ?_
      refine zg_aload_n (i := 0) dX0_perform_144 rfl rfl ?_
      refine zg_callVi (cx_pop hS hX) dX0_perform_145 cvX0_pop mlX0_50 rfl (by assumption) (by assumption) rfl (Nat.le_of_ble_eq_true rfl) ⟨by decide, by decide⟩ ⟨Nat.le_refl _, Nat.le_refl _⟩ (fun r mu2 h2 => ?_)
      obtain ⟨rfl, hX2, hf2⟩ := h2
      refine zg_istore_n (i := 2) (L2 := [_, _, _, _, _, _, _]) dX0_perform_148 rfl (by decide) rfl ?_
      refine zg_aload_n (i := 0) dX0_perform_149 rfl rfl ?_
      refine zg_callVi (cx_pop hS hX2) dX0_perform_150 cvX0_pop mlX0_50 rfl (by assumption) (by assumption) rfl (Nat.le_of_ble_eq_true rfl) ⟨by decide, by decide⟩ ⟨Nat.le_refl _, Nat.le_refl _⟩ (fun r mu3 h3 => ?_)
      obtain ⟨rfl, hX3, hf3⟩ := h3
      refine zg_istore_n (i := 3) (L2 := [_, _, _, _, _, _, _]) dX0_perform_153 rfl (by decide) rfl ?_
      refine zg_aload_n (i := 0) dX0_perform_154 rfl rfl ?_
      refine zg_iload_n (i := 1) dX0_perform_155 rfl rfl ?_
      refine zg_iload_n (i := 3) dX0_perform_156 rfl rfl ?_
      refine zg_iload_n (i := 2) dX0_perform_157 rfl rfl ?_
      refine zg_callSi (cx_combine S mu3 (nI 37) _ _ (by decide)) dX0_perform_158 ctX0_combine mlX0_54 rfl rfl (Nat.le_of_ble_eq_true rfl) ⟨by decide, by decide⟩ ⟨Nat.le_refl _, Nat.le_refl _⟩ (fun r mu4 h4 => ?_)
      obtain ⟨rfl, rfl⟩ := h4
      refine zg_callVv (cx_push hS hX3 _) dX0_perform_161 cvX0_push mlX0_46 rfl (by assumption) (by assumption) rfl (Nat.le_of_ble_eq_true rfl) ⟨by decide, by decide⟩ ⟨Nat.le_refl _, Nat.le_refl _⟩ (fun mu5 h5 => ?_)
      refine zg_goto (tgt := 293) dX0_perform_164 (by decide) ?_
      exact zg_vret dX0_perform_293 rfl ⟨rfl, rfl, (by rw [qp_37]; exact ⟨h5.1, hf2.trans (hf3.trans h5.2)⟩)⟩
    by_cases c96 : c = nI 96
    · subst c96
      refine zg_lookup (off := 122) (tgt := 144) dX0_perform_22 (by decide) (by decide) (by decide) ?_
      refine zg_aload_n (i := 0) dX0_perform_144 rfl rfl ?_
      refine zg_callVi (cx_pop hS hX) dX0_perform_145 cvX0_pop mlX0_50 rfl (by assumption) (by assumption) rfl (Nat.le_of_ble_eq_true rfl) ⟨by decide, by decide⟩ ⟨Nat.le_refl _, Nat.le_refl _⟩ (fun r mu2 h2 => ?_)
      obtain ⟨rfl, hX2, hf2⟩ := h2
      refine zg_istore_n (i := 2) (L2 := [_, _, _, _, _, _, _]) dX0_perform_148 rfl (by decide) rfl ?_
      refine zg_aload_n (i := 0) dX0_perform_149 rfl rfl ?_
      refine zg_callVi (cx_pop hS hX2) dX0_perform_150 cvX0_pop mlX0_50 rfl (by assumption) (by assumption) rfl (Nat.le_of_ble_eq_true rfl) ⟨by decide, by decide⟩ ⟨Nat.le_refl _, Nat.le_refl _⟩ (fun r mu3 h3 => ?_)
      obtain ⟨rfl, hX3, hf3⟩ := h3
      refine zg_istore_n (i := 3) (L2 := [_, _, _, _, _, _, _]) dX0_perform_153 rfl (by decide) rfl ?_
      refine zg_aload_n (i := 0) dX0_perform_154 rfl rfl ?_
      refine zg_iload_n (i := 1) dX0_perform_155 rfl rfl ?_
      refine zg_iload_n (i := 3) dX0_perform_156 rfl rfl ?_
      refine zg_iload_n (i := 2) dX0_perform_157 rfl rfl ?_
      refine zg_callSi (cx_combine S mu3 (nI 96) _ _ (by decide)) dX0_perform_158 ctX0_combine mlX0_54 rfl rfl (Nat.le_of_ble_eq_true rfl) ⟨by decide, by decide⟩ ⟨Nat.le_refl _, Nat.le_refl _⟩ (fun r mu4 h4 => ?_)
      obtain ⟨rfl, rfl⟩ := h4
      refine zg_callVv (cx_push hS hX3 _) dX0_perform_161 cvX0_push mlX0_46 rfl (by assumption) (by assumption) rfl (Nat.le_of_ble_eq_true rfl) ⟨by decide, by decide⟩ ⟨Nat.le_refl _, Nat.le_refl _⟩ (fun mu5 h5 => ?_)
      refine zg_goto (tgt := 293) dX0_perform_164 (by decide) ?_
      exact zg_vret dX0_perform_293 rfl ⟨rfl, rfl, (by rw [qp_96]; exact ⟨h5.1, hf2.trans (hf3.trans h5.2)⟩)⟩
    by_cases c33 : c = nI 33
    · subst c33
      refine zg_lookup (off := 145) (tgt := 167) dX0_perform_22 (by decide) (by decide) (by decide) ?_
      refine zg_aload_n (i := 0) dX0_perform_167 rfl rfl ?_
      refine zg_aload_n (i := 0) dX0_perform_168 rfl rfl ?_
      refine zg_callVi (cx_pop hS hX) dX0_perform_169 cvX0_pop mlX0_50 rfl (by assumption) (by assumption) rfl (Nat.le_of_ble_eq_true rfl) ⟨by decide, by decide⟩ ⟨Nat.le_refl _, Nat.le_refl _⟩ (fun r mu2 h2 => ?_)
      obtain ⟨rfl, hX2, hf2⟩ := h2
      refine zg_if_ne (tgt := 179) dX0_perform_172 (by decide) (fun cz => ?_) (fun cz => ?_)
      · refine zg_iconst (v := nI 0) dX0_perform_179 (by decide) ?_
        refine zg_callVv (cx_push hS hX2 _) dX0_perform_180 cvX0_push mlX0_46 rfl (by assumption) (by assumption) rfl (Nat.le_of_ble_eq_true rfl) ⟨by decide, by decide⟩ ⟨Nat.le_refl _, Nat.le_refl _⟩ (fun mu3 h3 => ?_)
        refine zg_goto (tgt := 293) dX0_perform_183 (by decide) ?_
        exact zg_vret dX0_perform_293 rfl ⟨rfl, rfl, (by rw [qp_33, if_neg cz]; exact ⟨h3.1, hf2.trans h3.2⟩)⟩
      · refine zg_iconst (v := nI 1) dX0_perform_175 (by decide) ?_
        refine zg_goto (tgt := 180) dX0_perform_176 (by decide) ?_
        refine zg_callVv (cx_push hS hX2 _) dX0_perform_180 cvX0_push mlX0_46 rfl (by assumption) (by assumption) rfl (Nat.le_of_ble_eq_true rfl) ⟨by decide, by decide⟩ ⟨Nat.le_refl _, Nat.le_refl _⟩ (fun mu3 h3 => ?_)
        refine zg_goto (tgt := 293) dX0_perform_183 (by decide) ?_
        exact zg_vret dX0_perform_293 rfl ⟨rfl, rfl, (by rw [qp_33, if_pos cz]; exact ⟨h3.1, hf2.trans h3.2⟩)⟩
    by_cases c58 : c = nI 58
    · subst c58
      refine zg_lookup (off := 164) (tgt := 186) dX0_perform_22 (by decide) (by decide) (by decide) ?_
      refine zg_aload_n (i := 0) dX0_perform_186 rfl rfl ?_
      refine zg_callVi (cx_pop hS hX) dX0_perform_187 cvX0_pop mlX0_50 rfl (by assumption) (by assumption) rfl (Nat.le_of_ble_eq_true rfl) ⟨by decide, by decide⟩ ⟨Nat.le_refl _, Nat.le_refl _⟩ (fun r mu2 h2 => ?_)
      obtain ⟨rfl, hX2, hf2⟩ := h2
      refine zg_istore (L2 := [_, _, _, _, _, _, _]) dX0_perform_190 (by decide) rfl ?_
      refine zg_aload_n (i := 0) dX0_perform_192 rfl rfl ?_
      refine zg_iload dX0_perform_193 rfl ?_
      refine zg_callVv (cx_push hS hX2 _) dX0_perform_195 cvX0_push mlX0_46 rfl (by assumption) (by assumption) rfl (Nat.le_of_ble_eq_true rfl) ⟨by decide, by decide⟩ ⟨Nat.le_refl _, Nat.le_refl _⟩ (fun mu3 h3 => ?_)
      refine zg_aload_n (i := 0) dX0_perform_198 rfl rfl ?_
      refine zg_iload dX0_perform_199 rfl ?_
      refine zg_callVv (cx_push hS h3.1 _) dX0_perform_201 cvX0_push mlX0_46 rfl (by assumption) (by assumption) rfl (Nat.le_of_ble_eq_true rfl) ⟨by decide, by decide⟩ ⟨Nat.le_refl _, Nat.le_refl _⟩ (fun mu4 h4 => ?_)
      refine zg_goto (tgt := 293) dX0_perform_204 (by decide) ?_
      exact zg_vret dX0_perform_293 rfl ⟨rfl, rfl, (by rw [qp_58, qdup, ← qpush_push (PO_pop hX.px1).2 ((qpop_3 hX.px1).trans h0)]; exact ⟨h4.1, hf2.trans (h3.2.trans h4.2)⟩)⟩
    by_cases c92 : c = nI 92
    · subst c92
      refine zg_lookup (off := 185) (tgt := 207) dX0_perform_22 (by decide) (by decide) (by decide) ?_
      refine zg_aload_n (i := 0) dX0_perform_207 rfl rfl ?_
      refine zg_callVi (cx_pop hS hX) dX0_perform_208 cvX0_pop mlX0_50 rfl (by assumption) (by assumption) rfl (Nat.le_of_ble_eq_true rfl) ⟨by decide, by decide⟩ ⟨Nat.le_refl _, Nat.le_refl _⟩ (fun r mu2 h2 => ?_)
      obtain ⟨rfl, hX2, hf2⟩ := h2
      refine zg_istore (L2 := [_, _, _, _, _, _, _]) dX0_perform_211 (by decide) rfl ?_
      refine zg_aload_n (i := 0) dX0_perform_213 rfl rfl ?_
      refine zg_callVi (cx_pop hS hX2) dX0_perform_214 cvX0_pop mlX0_50 rfl (by assumption) (by assumption) rfl (Nat.le_of_ble_eq_true rfl) ⟨by decide, by decide⟩ ⟨Nat.le_refl _, Nat.le_refl _⟩ (fun r mu3 h3 => ?_)
      obtain ⟨rfl, hX3, hf3⟩ := h3
      refine zg_istore (L2 := [_, _, _, _, _, _, _]) dX0_perform_217 (by decide) rfl ?_
      refine zg_aload_n (i := 0) dX0_perform_219 rfl rfl ?_
      refine zg_iload dX0_perform_220 rfl ?_
      refine zg_callVv (cx_push hS hX3 _) dX0_perform_222 cvX0_push mlX0_46 rfl (by assumption) (by assumption) rfl (Nat.le_of_ble_eq_true rfl) ⟨by decide, by decide⟩ ⟨Nat.le_refl _, Nat.le_refl _⟩ (fun mu4 h4 => ?_)
      refine zg_aload_n (i := 0) dX0_perform_225 rfl rfl ?_
      refine zg_iload dX0_perform_226 rfl ?_
      refine zg_callVv (cx_push hS h4.1 _) dX0_perform_228 cvX0_push mlX0_46 rfl (by assumption) (by assumption) rfl (Nat.le_of_ble_eq_true rfl) ⟨by decide, by decide⟩ ⟨Nat.le_refl _, Nat.le_refl _⟩ (fun mu5 h5 => ?_)
      refine zg_goto (tgt := 293) dX0_perform_231 (by decide) ?_
      exact zg_vret dX0_perform_293 rfl ⟨rfl, rfl, (by rw [qp_92, qswap, ← qpush_push (PO_pop (PO_pop hX.px1).2).2 ((qpop_3 (PO_pop hX.px1).2).trans ((qpop_3 hX.px1).trans h0))]; exact ⟨h5.1, hf2.trans (hf3.trans (h4.2.trans h5.2))⟩)⟩
    by_cases c36 : c = nI 36
    · subst c36
      refine zg_lookup (off := 212) (tgt := 234) dX0_perform_22 (by decide) (by decide) (by decide) ?_
      refine zg_aload_n (i := 0) dX0_perform_234 rfl rfl ?_
      refine zg_callVi (cx_pop hS hX) dX0_perform_235 cvX0_pop mlX0_50 rfl (by assumption) (by assumption) rfl (Nat.le_of_ble_eq_true rfl) ⟨by decide, by decide⟩ ⟨Nat.le_refl _, Nat.le_refl _⟩ (fun r mu2 h2 => ?_)
      obtain ⟨rfl, hX2, hf2⟩ := h2
      refine zg_pop dX0_perform_238 ?_
      refine zg_goto (tgt := 293) dX0_perform_239 (by decide) ?_
      exact zg_vret dX0_perform_293 rfl ⟨rfl, rfl, (by rw [qp_36]; exact ⟨hX2, hf2⟩)⟩
    by_cases c123 : c = nI 123
    · subst c123
      refine zg_lookup (off := 220) (tgt := 242) dX0_perform_22 (by decide) (by decide) (by decide) ?_
      refine zg_aload_n (i := 0) dX0_perform_242 rfl rfl ?_
      refine zg_aload_n (i := 0) dX0_perform_243 rfl rfl ?_
      refine zg_callVi (cx_pop hS hX) dX0_perform_244 cvX0_pop mlX0_50 rfl (by assumption) (by assumption) rfl (Nat.le_of_ble_eq_true rfl) ⟨by decide, by decide⟩ ⟨Nat.le_refl _, Nat.le_refl _⟩ (fun r mu2 h2 => ?_)
      obtain ⟨rfl, hX2, hf2⟩ := h2
      refine zg_callVv (cx_openStack hS hX2 _) dX0_perform_247 cvX0_openStack mlX0_58 rfl (by assumption) (by assumption) rfl (Nat.le_of_ble_eq_true rfl) ⟨by decide, by decide⟩ ⟨Nat.le_refl _, Nat.le_refl _⟩ (fun mu3 h3 => ?_)
      refine zg_goto (tgt := 293) dX0_perform_250 (by decide) ?_
      exact zg_vret dX0_perform_293 rfl ⟨rfl, rfl, (by rw [qp_123, qopen]; exact ⟨h3.1, hf2.trans h3.2⟩)⟩
    by_cases c125 : c = nI 125
    · subst c125
      refine zg_lookup (off := 231) (tgt := 253) dX0_perform_22 (by decide) (by decide) (by decide) ?_
      refine zg_aload_n (i := 0) dX0_perform_253 rfl rfl ?_
      refine zg_callVv (cx_closeStack hS hX) dX0_perform_254 cvX0_closeStack mlX0_61 rfl (by assumption) (by assumption) rfl (Nat.le_of_ble_eq_true rfl) ⟨by decide, by decide⟩ ⟨Nat.le_refl _, Nat.le_refl _⟩ (fun mu2 h2 => ?_)
      refine zg_goto (tgt := 293) dX0_perform_257 (by decide) ?_
      exact zg_vret dX0_perform_293 rfl ⟨rfl, rfl, (by rw [qp_125]; exact h2)⟩
    by_cases c119 : c = nI 119
    · subst c119
      refine zg_lookup (off := 238) (tgt := 260) dX0_perform_22 (by decide) (by decide) (by decide) ?_
      refine zg_aload_n (i := 0) dX0_perform_260 rfl rfl ?_
      refine zg_iconst (v := nI 0) dX0_perform_261 (by decide) ?_
      refine zg_bipush (v := nI 9) dX0_perform_262 (by decide) ?_
      refine zg_aload_n (i := 0) dX0_perform_264 rfl rfl ?_
      refine zg_callVi (cx_pop hS hX) dX0_perform_265 cvX0_pop mlX0_50 rfl (by assumption) (by assumption) rfl (Nat.le_of_ble_eq_true rfl) ⟨by decide, by decide⟩ ⟨Nat.le_refl _, Nat.le_refl _⟩ (fun r mu2 h2 => ?_)
      obtain ⟨rfl, hX2, hf2⟩ := h2
      refine zg_callSi (cj_min S mu2 _ _) dX0_perform_268 ctJ9_min_7cf53 mlX0_64 rfl rfl (Nat.le_of_ble_eq_true rfl) ⟨by decide, by decide⟩ ⟨Nat.le_refl _, Nat.le_refl _⟩ (fun r mu3 h3 => ?_)
      obtain ⟨rfl, rfl⟩ := h3
      refine zg_callSi (cj_max S mu3 _ _) dX0_perform_271 ctJ9_max_7cf53 mlX0_70 rfl rfl (Nat.le_of_ble_eq_true rfl) ⟨by decide, by decide⟩ ⟨Nat.le_refl _, Nat.le_refl _⟩ (fun r mu4 h4 => ?_)
      obtain ⟨rfl, rfl⟩ := h4
      refine zg_val (qclamp_mm _ 9 (by omega)) ?_
      refine zg_putI dX0_perform_274 flX0_34 (by decide) (by assumption) (by assumption) ?_
      refine zg_goto (tgt := 293) dX0_perform_277 (by decide) ?_
      obtain ⟨x', y', dr', ss', sl', ns', t0, t1, t2, hQ, hT⟩ := hX2
      obtain ⟨-, -, b2, b3⟩ := hQ.ns
      exact zg_vret dX0_perform_293 rfl ⟨rfl, rfl, (by rw [qp_119]; exact ⟨⟨_, _, _, _, _, _, _, _, _, hQ.slp (qclamp_le _ (by omega)), PR_fld hT (by omega) (by omega) (by omega)⟩, hf2.trans (zfr_up (by omega) (by omega))⟩)⟩
    by_cases c64 : c = nI 64
    · subst c64
      refine zg_lookup (off := 258) (tgt := 280) dX0_perform_22 (by decide) (by decide) (by decide) ?_
      refine zg_aload_n (i := 0) dX0_perform_280 rfl rfl ?_
      refine zg_iconst (v := nI 1) dX0_perform_281 (by decide) ?_
      refine zg_putI dX0_perform_282 flX0_31 (by decide) (by assumption) (by assumption) ?_
      refine zg_goto (tgt := 293) dX0_perform_285 (by decide) ?_
      obtain ⟨x', y', dr', ss', sl', ns', t0, t1, t2, hQ, hT⟩ := id hX
      obtain ⟨-, -, b2, b3⟩ := hQ.ns
      exact zg_vret dX0_perform_293 rfl ⟨rfl, rfl, (by rw [qp_64]; exact ⟨⟨_, _, _, _, _, _, _, _, _, hQ.stat (by omega), PR_fld hT (by omega) (by omega) (by omega)⟩, zfr_up (by omega) (by omega)⟩)⟩
    refine zg_lookup (off := 266) (tgt := 288) dX0_perform_22 (by decide) (zoff_def _ _ _ (fun q hq => ?_)) (by decide) ?_
    · simp only [List.mem_cons, List.not_mem_nil, or_false] at hq
      rcases hq with rfl | rfl | rfl | rfl | rfl | rfl | rfl | rfl | rfl | rfl | rfl | rfl | rfl | rfl
      · exact ne_toInt (a := 33) (by omega) c33
      · exact ne_toInt (a := 36) (by omega) c36
      · exact ne_toInt (a := 37) (by omega) c37
      · exact ne_toInt (a := 42) (by omega) c42
      · exact ne_toInt (a := 43) (by omega) c43
      · exact ne_toInt (a := 45) (by omega) c45
      · exact ne_toInt (a := 47) (by omega) c47
      · exact ne_toInt (a := 58) (by omega) c58
      · exact ne_toInt (a := 64) (by omega) c64
      · exact ne_toInt (a := 92) (by omega) c92
      · exact ne_toInt (a := 96) (by omega) c96
      · exact ne_toInt (a := 119) (by omega) c119
      · exact ne_toInt (a := 123) (by omega) c123
      · exact ne_toInt (a := 125) (by omega) c125
    refine zg_aload_n (i := 0) dX0_perform_288 rfl rfl ?_
    refine zg_iload_n (i := 1) dX0_perform_289 rfl rfl ?_
    refine zg_callVv (cx_steer hS hX c) dX0_perform_290 cvX0_steer mlX0_73 rfl (by assumption) (by assumption) rfl (Nat.le_of_ble_eq_true rfl) ⟨by decide, by decide⟩ ⟨Nat.le_refl _, Nat.le_refl _⟩ (fun mu2 h2 => ?_)
    exact zg_vret dX0_perform_293 rfl ⟨rfl, rfl, (by rw [qp_steer v o hd (by rintro (h1 | h1 | h1 | h1 | h1 | h1) <;> contradiction) ⟨c33, c58, c92, c36, c123, c125, c119, c64⟩]; exact h2)⟩
  refine zg_iload_n (i := 1) dX0_perform_0 rfl rfl ?_
  refine zg_bipush (v := nI 48) dX0_perform_1 (by decide) ?_
  refine zg_icmp_lt (tgt := 21) dX0_perform_3 (by decide) (fun c1 => ?_) (fun c1 => ?_)
  · exact hswitch
  · refine zg_iload_n (i := 1) dX0_perform_6 rfl rfl ?_
    refine zg_bipush (v := nI 57) dX0_perform_7 (by decide) ?_
    refine zg_icmp_gt (tgt := 21) dX0_perform_9 (by decide) (fun c2 => ?_) (fun c2 => ?_)
    · exact hswitch
    · exact absurd ⟨Int32.not_lt.mp c1, Int32.not_lt.mp c2⟩ hd
