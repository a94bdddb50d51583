/-! THE LAW: its loop -/
theorem lw_cmp {L i : Nat} (hL : L ≤ 2048) (hi : i ≤ 4000) : nI L - nI 4 < nI i ↔ L < i + 4 := by
  rw [Int32.lt_iff_toInt_lt, pk_sub_toInt (by omega) (by omega), nI_toInt (by omega)]
  omega
theorem nI_tgt {j : Nat} (h : j < 32) : ¬ (nI j).toInt < 0 ∧ ¬ (31 : Int) < (nI j).toInt ∧ ((nI j).toInt - 0).toNat = j := by
  rw [nI_toInt (by omega)]
  omega
section LO
variable {p : Program} {l : Launch} {e : Env} {s : State} {m : MethodId} {below : List Frame} {meth : Method} {c : Code} {D : va_G} {cs : zC} {A : Nat → Prop} {nm : String} {b L : Nat} {xs : Nat → Int32} {ad : Nat → Nat} {cells slots x : Nat}
theorem law_cases {H : Heap} {locs : List Loc} {ls : Array Slot} {S : zS} {mu : zU} {Q : State → Prop} {i j : Nat} (C : LCx p s m meth c D cs A b L xs nm) (hl : lv_has ls 4 (lwL b (ad x) (ad (x + 215)) i)) (hi : i + 4 ≤ L) (hf : cells ≤ room_1.cells ∧ slots ≤ room_1.slots) (hI : ZI x S mu) (hw : zWd cs ad S mu A D s.heap H locs) (hj : j < 32) (kk : ∀ S mu H locs, ZI x S mu → zWd cs ad S mu A D s.heap H locs → W p l e room_1 s m #[Value.ref b] below meth c H locs cells slots Q (F0 m 882 ls [])) : W p l e room_1 s m #[Value.ref b] below meth c H locs cells slots Q (F0 m 32 ls [.int (nI j)]) := by
  have hH := C.1
  obtain ⟨h1, h2, h3⟩ := nI_tgt hj
  match j, hj, h1, h2, h3 with
  | 0, _, h1, h2, h3 => exact lv_tableIn (tgt := 176) hH.1 hH.2.1 dL_law_32 h1 h2 (by rw [h3]; rfl) (by decide) (law_c0 C hl hi hf hI hw kk)
  | 1, _, h1, h2, h3 => exact lv_tableIn (tgt := 199) hH.1 hH.2.1 dL_law_32 h1 h2 (by rw [h3]; rfl) (by decide) (law_c1 C hl hi hf hI hw kk)
  | 2, _, h1, h2, h3 => exact lv_tableIn (tgt := 212) hH.1 hH.2.1 dL_law_32 h1 h2 (by rw [h3]; rfl) (by decide) (law_c2 C hl hi hf hI hw kk)
  | 3, _, h1, h2, h3 => exact lv_tableIn (tgt := 225) hH.1 hH.2.1 dL_law_32 h1 h2 (by rw [h3]; rfl) (by decide) (law_c3 C hl hi hf hI hw kk)
  | 4, _, h1, h2, h3 => exact lv_tableIn (tgt := 238) hH.1 hH.2.1 dL_law_32 h1 h2 (by rw [h3]; rfl) (by decide) (law_c4 C hl hi hf hI hw kk)
  | 5, _, h1, h2, h3 => exact lv_tableIn (tgt := 261) hH.1 hH.2.1 dL_law_32 h1 h2 (by rw [h3]; rfl) (by decide) (law_c5 C hl hi hf hI hw kk)
  | 6, _, h1, h2, h3 => exact lv_tableIn (tgt := 304) hH.1 hH.2.1 dL_law_32 h1 h2 (by rw [h3]; rfl) (by decide) (law_c6 C hl hi hf hI hw kk)
  | 7, _, h1, h2, h3 => exact lv_tableIn (tgt := 327) hH.1 hH.2.1 dL_law_32 h1 h2 (by rw [h3]; rfl) (by decide) (law_c7 C hl hi hf hI hw kk)
  | 8, _, h1, h2, h3 => exact lv_tableIn (tgt := 350) hH.1 hH.2.1 dL_law_32 h1 h2 (by rw [h3]; rfl) (by decide) (law_c8 C hl hi hf hI hw kk)
  | 9, _, h1, h2, h3 => exact lv_tableIn (tgt := 393) hH.1 hH.2.1 dL_law_32 h1 h2 (by rw [h3]; rfl) (by decide) (law_c9 C hl hi hf hI hw kk)
  | 10, _, h1, h2, h3 => exact lv_tableIn (tgt := 406) hH.1 hH.2.1 dL_law_32 h1 h2 (by rw [h3]; rfl) (by decide) (law_c10 C hl hi hf hI hw kk)
  | 11, _, h1, h2, h3 => exact lv_tableIn (tgt := 429) hH.1 hH.2.1 dL_law_32 h1 h2 (by rw [h3]; rfl) (by decide) (law_c11 C hl hi hf hI hw kk)
  | 12, _, h1, h2, h3 => exact lv_tableIn (tgt := 452) hH.1 hH.2.1 dL_law_32 h1 h2 (by rw [h3]; rfl) (by decide) (law_c12 C hl hi hf hI hw kk)
  | 13, _, h1, h2, h3 => exact lv_tableIn (tgt := 475) hH.1 hH.2.1 dL_law_32 h1 h2 (by rw [h3]; rfl) (by decide) (law_c13 C hl hi hf hI hw kk)
  | 14, _, h1, h2, h3 => exact lv_tableIn (tgt := 508) hH.1 hH.2.1 dL_law_32 h1 h2 (by rw [h3]; rfl) (by decide) (law_c14 C hl hi hf hI hw kk)
  | 15, _, h1, h2, h3 => exact lv_tableIn (tgt := 521) hH.1 hH.2.1 dL_law_32 h1 h2 (by rw [h3]; rfl) (by decide) (law_c15 C hl hi hf hI hw kk)
  | 16, _, h1, h2, h3 => exact lv_tableIn (tgt := 534) hH.1 hH.2.1 dL_law_32 h1 h2 (by rw [h3]; rfl) (by decide) (law_c16 C hl hi hf hI hw kk)
  | 17, _, h1, h2, h3 => exact lv_tableIn (tgt := 557) hH.1 hH.2.1 dL_law_32 h1 h2 (by rw [h3]; rfl) (by decide) (law_c17 C hl hi hf hI hw kk)
  | 18, _, h1, h2, h3 => exact lv_tableIn (tgt := 580) hH.1 hH.2.1 dL_law_32 h1 h2 (by rw [h3]; rfl) (by decide) (law_c18 C hl hi hf hI hw kk)
  | 19, _, h1, h2, h3 => exact lv_tableIn (tgt := 603) hH.1 hH.2.1 dL_law_32 h1 h2 (by rw [h3]; rfl) (by decide) (law_c19 C hl hi hf hI hw kk)
  | 20, _, h1, h2, h3 => exact lv_tableIn (tgt := 626) hH.1 hH.2.1 dL_law_32 h1 h2 (by rw [h3]; rfl) (by decide) (law_c20 C hl hi hf hI hw kk)
  | 21, _, h1, h2, h3 => exact lv_tableIn (tgt := 649) hH.1 hH.2.1 dL_law_32 h1 h2 (by rw [h3]; rfl) (by decide) (law_c21 C hl hi hf hI hw kk)
  | 22, _, h1, h2, h3 => exact lv_tableIn (tgt := 672) hH.1 hH.2.1 dL_law_32 h1 h2 (by rw [h3]; rfl) (by decide) (law_c22 C hl hi hf hI hw kk)
  | 23, _, h1, h2, h3 => exact lv_tableIn (tgt := 705) hH.1 hH.2.1 dL_law_32 h1 h2 (by rw [h3]; rfl) (by decide) (law_c23 C hl hi hf hI hw kk)
  | 24, _, h1, h2, h3 => exact lv_tableIn (tgt := 748) hH.1 hH.2.1 dL_law_32 h1 h2 (by rw [h3]; rfl) (by decide) (law_c24 C hl hi hf hI hw kk)
  | 25, _, h1, h2, h3 => exact lv_tableIn (tgt := 761) hH.1 hH.2.1 dL_law_32 h1 h2 (by rw [h3]; rfl) (by decide) (law_c25 C hl hi hf hI hw kk)
  | 26, _, h1, h2, h3 => exact lv_tableIn (tgt := 774) hH.1 hH.2.1 dL_law_32 h1 h2 (by rw [h3]; rfl) (by decide) (law_c26 C hl hi hf hI hw kk)
  | 27, _, h1, h2, h3 => exact lv_tableIn (tgt := 797) hH.1 hH.2.1 dL_law_32 h1 h2 (by rw [h3]; rfl) (by decide) (law_c27 C hl hi hf hI hw kk)
  | 28, _, h1, h2, h3 => exact lv_tableIn (tgt := 810) hH.1 hH.2.1 dL_law_32 h1 h2 (by rw [h3]; rfl) (by decide) (law_c28 C hl hi hf hI hw kk)
  | 29, _, h1, h2, h3 => exact lv_tableIn (tgt := 823) hH.1 hH.2.1 dL_law_32 h1 h2 (by rw [h3]; rfl) (by decide) (law_c29 C hl hi hf hI hw kk)
  | 30, _, h1, h2, h3 => exact lv_tableIn (tgt := 846) hH.1 hH.2.1 dL_law_32 h1 h2 (by rw [h3]; rfl) (by decide) (law_c30 C hl hi hf hI hw kk)
  | 31, _, h1, h2, h3 => exact lv_tableIn (tgt := 869) hH.1 hH.2.1 dL_law_32 h1 h2 (by rw [h3]; rfl) (by decide) (law_c31 C hl hi hf hI hw kk)
  | k + 32, hj, _, _, _ => exact absurd hj (by omega)
theorem law_loop (C : LCx p s m meth c D cs A b L xs nm) (hA : ∀ q, A q → s.heap.size ≤ q) (hc1 : cells ≤ 600000) (hc2 : slots ≤ 7302250) : ∀ (n i : Nat) (S : zS) (mu : zU) (H : Heap) (locs : List Loc) (ls : Array Slot), L + 4 ≤ i + n → i ≤ L + 4 → ZI x S mu → zWd cs ad S mu A D s.heap H locs → lv_has ls 4 (lwL b (ad x) (ad (x + 215)) i) → W p l e room_1 s m #[Value.ref b] below meth c H locs cells slots (lw_Z below #[Value.ref b] s) (F0 m 18 ls []) := by
  obtain ⟨hH, hX, hb, hAb, hL⟩ := id C
  intro n
  induction n with
  | zero =>
    intro i S mu H locs ls h1 h2 hI hw hl
    refine lv_iload_n hH.1 hH.2.1 dL_law_18 rfl (lv_at hl 3 rfl) ?_
    refine lv_aload_n hH.1 hH.2.1 dL_law_19 rfl (lv_at hl 0 rfl) ?_
    refine va_slen hH.1 hH.2.1 hX hb hAb hw.2.2 dL_law_20 ?_
    refine lv_iconst (v := nI 4) hH.1 hH.2.1 dL_law_21 (by decide) ?_
    refine lv_isub hH.1 hH.2.1 dL_law_22 ?_
    refine lv_icmp_gt (tgt := 888) hH.1 hH.2.1 dL_law_23 (by decide) (fun _ => ?_) (fun z => absurd ((lw_cmp hL (by omega)).mpr (show L < i + 4 by omega)) z)
    refine lv_iconst (v := 1) hH.1 hH.2.1 dL_law_888 (by decide) ?_
    refine va_forget (fun q hq => hA _ (hw.2.2.2.2 q hq)) (W.widen hc1 hc2 ?_)
    exact lw_ret hH.1 hH.2.1 hH.2.2.1 hH.2.2.2.2.2.2.1 dL_law_889
  | succ n ih =>
    intro i S mu H locs ls h1 h2 hI hw hl
    refine lv_iload_n hH.1 hH.2.1 dL_law_18 rfl (lv_at hl 3 rfl) ?_
    refine lv_aload_n hH.1 hH.2.1 dL_law_19 rfl (lv_at hl 0 rfl) ?_
    refine va_slen hH.1 hH.2.1 hX hb hAb hw.2.2 dL_law_20 ?_
    refine lv_iconst (v := nI 4) hH.1 hH.2.1 dL_law_21 (by decide) ?_
    refine lv_isub hH.1 hH.2.1 dL_law_22 ?_
    refine lv_icmp_gt (tgt := 888) hH.1 hH.2.1 dL_law_23 (by decide) (fun _ => ?_) (fun z => ?_)
    · refine lv_iconst (v := 1) hH.1 hH.2.1 dL_law_888 (by decide) ?_
      refine va_forget (fun q hq => hA _ (hw.2.2.2.2 q hq)) (W.widen hc1 hc2 ?_)
      exact lw_ret hH.1 hH.2.1 hH.2.2.1 hH.2.2.2.2.2.2.1 dL_law_889
    · have hi : i + 4 ≤ L := by
        have hz : ¬ L < i + 4 := fun h => z ((lw_cmp hL (by omega)).mpr h)
        omega
      refine lw_ld0 C hl hw.2.2 (by omega) dL_law_26 dL_law_27 dL_law_28 ?_
      refine lv_bipush (v := nI 31) hH.1 hH.2.1 dL_law_29 (by decide) ?_
      refine lv_iand hH.1 hH.2.1 dL_law_31 ?_
      obtain ⟨j, hj, ej⟩ := pk_andE (xs i) (m := nI 31) 5 (by decide)
      rw [ej]
      refine law_cases C hl hi ⟨hc1, hc2⟩ hI hw hj (fun S2 mu2 H2 locs2 hI2 hw2 => ?_)
      refine lv_iinc (k := 3) (v := nI (i + 4)) (lv' := [(3, .int (nI (i + 4))), (0, .ref b), (1, .ref (ad x)), (2, .ref (ad (x + 215)))]) hH.1 hH.2.1 dL_law_882 hl rfl ((show nI i + Int32.ofInt 4 = nI i + nI 4 from rfl).trans (nI_add i 4)) (by decide) rfl (fun ls2 hl2 => ?_)
      refine lv_goto (tgt := 18) hH.1 hH.2.1 dL_law_885 (by decide) ?_
      exact ih (i + 4) S2 mu2 H2 locs2 ls2 (by omega) (by omega) hI2 hw2 (lv_sub hl2 [1, 2, 3, 0] rfl)
end LO
