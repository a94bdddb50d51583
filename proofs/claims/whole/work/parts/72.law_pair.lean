/-! THE LAW: what stays fixed, its script, a pair of calls -/
def LCx (p : Program) (s : State) (m : MethodId) (meth : Method) (c : Code) (D : va_G) (cs : zC) (A : Nat → Prop) (b L : Nat) (xs : Nat → Int32) (nm : String) : Prop := zH RL nm code 4 ret p s m #[Value.ref b] meth c D cs A ∧ va_X b L xs s s.heap ∧ b < s.heap.size ∧ ¬ A b ∧ L ≤ 2048
def lwL (b ax am i : Nat) : List (Nat × Value) := [(0, .ref b), (1, .ref ax), (2, .ref am), (3, .int (nI i))]
section LP
variable {p : Program} {l : Launch} {e : Env} {s : State} {m : MethodId} {below : List Frame} {meth : Method} {c : Code} {D : va_G} {cs : zC} {A : Nat → Prop} {nm : String} {b L : Nat} {xs : Nat → Int32} {ad : Nat → Nat} {H : Heap} {locs : List Loc} {ls : Array Slot} {S : zS} {mu : zU} {cells slots : Nat} {Q : State → Prop} {x i ax am : Nat} {rest : List Value}
theorem lw_ld {pc k : Nat} {k2 : Int} (C : LCx p s m meth c D cs A b L xs nm) (hl : lv_has ls 4 (lwL b ax am i)) (hS : va_S A s.heap H locs) (hi : i + k < L) (d0 : decode code pc = .ok (.aload_n 0, 1)) (d1 : decode code (pc + 1) = .ok (.iload_n 3, 1)) (d2 : decode code (pc + 2) = .ok (.iconst k2, 1)) (hk : Int32.ofInt k2 = nI k) (d3 : decode code (pc + 3) = .ok (.iadd, 1)) (d4 : decode code (pc + 4) = .ok (.iaload, 1))
    (kk : W p l e room_1 s m #[Value.ref b] below meth c H locs cells slots Q (F0 m (pc + 5) ls (.int (xs (i + k)) :: rest))) : W p l e room_1 s m #[Value.ref b] below meth c H locs cells slots Q (F0 m pc ls rest) := by
  obtain ⟨hH, hX, hb, hA, hL⟩ := C
  refine lv_aload_n hH.1 hH.2.1 d0 rfl (lv_at hl 0 rfl) ?_
  refine lv_iload_n hH.1 hH.2.1 d1 rfl (lv_at hl 3 rfl) ?_
  refine lv_iconst (v := nI k) hH.1 hH.2.1 d2 hk ?_
  refine lv_iadd hH.1 hH.2.1 d3 ?_
  rw [nI_add]
  refine va_sld hH.1 hH.2.1 hX hb hA hS (vp_in_nI hi (by omega)) d4 ?_
  rw [nI_clamp (by omega)]
  exact kk
theorem lw_ld0 {pc : Nat} (C : LCx p s m meth c D cs A b L xs nm) (hl : lv_has ls 4 (lwL b ax am i)) (hS : va_S A s.heap H locs) (hi : i < L) (d0 : decode code pc = .ok (.aload_n 0, 1)) (d1 : decode code (pc + 1) = .ok (.iload_n 3, 1)) (d4 : decode code (pc + 2) = .ok (.iaload, 1))
    (kk : W p l e room_1 s m #[Value.ref b] below meth c H locs cells slots Q (F0 m (pc + 3) ls (.int (xs i) :: rest))) : W p l e room_1 s m #[Value.ref b] below meth c H locs cells slots Q (F0 m pc ls rest) := by
  obtain ⟨hH, hX, hb, hA, hL⟩ := C
  refine lv_aload_n hH.1 hH.2.1 d0 rfl (lv_at hl 0 rfl) ?_
  refine lv_iload_n hH.1 hH.2.1 d1 rfl (lv_at hl 3 rfl) ?_
  refine va_sld hH.1 hH.2.1 hX hb hA hS (vp_in_nI hi (by omega)) d4 ?_
  rw [nI_clamp (by omega)]
  exact kk
theorem lw_pair {pc0 pc1 pc2 ix1 ix2 n : Nat} {off : Int} {yX : MethodName} {cX : ByteArray} {nX dX : Nat} {yM : MethodName} {cM : ByteArray} {nM dM : Nat} {As : List zV} (C : LCx p s m meth c D cs A b L xs nm) (hl : lv_has ls 4 (lwL b (ad x) (ad (x + 215)) i)) (hf : cells ≤ room_1.cells ∧ slots ≤ room_1.slots) (hI : ZI x S mu) (hw : zWd cs ad S mu A D s.heap H locs) (hp : ZP x yX cX nX dX yM cM nM dM As)
    (d0 : decode code pc0 = .ok (.aload_n 1, 1))
    (ha1 : ∀ (H : Heap) (locs : List Loc) (rest : List Value), va_S A s.heap H locs → W p l e room_1 s m #[Value.ref b] below meth c H locs cells slots Q (F0 m pc1 ls ((As.map (zr ad)).reverse ++ rest)) → W p l e room_1 s m #[Value.ref b] below meth c H locs cells slots Q (F0 m (pc0 + 1) ls rest))
    (d1 : decode code pc1 = .ok (.invokevirtual ix1, 3)) (d2 : decode code (pc1 + 3) = .ok (.aload_n 2, 1))
    (ha2 : ∀ (H : Heap) (locs : List Loc) (rest : List Value), va_S A s.heap H locs → W p l e room_1 s m #[Value.ref b] below meth c H locs cells slots Q (F0 m pc2 ls ((As.map (zr ad)).reverse ++ rest)) → W p l e room_1 s m #[Value.ref b] below meth c H locs cells slots Q (F0 m (pc1 + 3 + 1) ls rest))
    (d3 : decode code pc2 = .ok (.invokevirtual ix2, 3)) (d4 : decode code (pc2 + 3) = .ok (.if_icmp .eq off, 3)) (ht : ((pc2 + 3 : Nat) : Int) + off = ((882 : Nat) : Int))
    (hvX : zcv yX 2 cX nX (some .int) n) (hmX : Cond.methodLink RL ix1 yX ∈ zwd) (hvM : zcv yM 3 cM nM (some .int) n) (hmM : Cond.methodLink RL ix2 yM ∈ zwd) (hn : As.length = n) (hRX : zfit room_1 nX dX) (hRM : zfit room_1 nM dM)
    (kk : ∀ S mu H locs, ZI x S mu → zWd cs ad S mu A D s.heap H locs → W p l e room_1 s m #[Value.ref b] below meth c H locs cells slots Q (F0 m 882 ls [])) : W p l e room_1 s m #[Value.ref b] below meth c H locs cells slots Q (F0 m pc0 ls []) := by
  obtain ⟨hH, hX, hb, hA, hL⟩ := C
  obtain ⟨P1, hM1, hQ1⟩ := hp S mu hI
  obtain ⟨pm, g, hXS, -⟩ := hI
  refine lv_aload_n hH.1 hH.2.1 d0 rfl (lv_at hl 1 rfl) ?_
  refine ha1 H locs _ hw.2.2 ?_
  refine zl_callV (k := x) hH hw hl.1 hM1 d1 hvX hmX hn hXS.1.2.1 (hXS.lt (i := 0) (by decide)) rfl (Nat.zero_le 8) hRX hf (fun r T mu2 H2 locs2 h1 hT hw2 => ?_)
  obtain ⟨hMS, w, hwt, P2, hM2, hQ2⟩ := hQ1 r T mu2 h1
  have hw3 : zWd cs ad T (zrow mu2 (x + 215 + 1) w) A D s.heap H2 locs2 := ⟨zP_tail hMS.1.2.2.1 hwt hw2.1, zD_tail hw2.2.1, hw2.2.2⟩
  refine lv_aload_n hH.1 hH.2.1 d2 rfl (lv_at hl 2 rfl) ?_
  refine ha2 H2 locs2 _ hw3.2.2 ?_
  have hlt := hMS.1.1
  refine zl_callV (k := x + 215) hH hw3 hl.1 hM2 d3 hvM hmM hn hMS.1.2.1 (by omega) rfl (Nat.le_of_ble_eq_true rfl) hRM hf (fun r2 T2 mu3 H3 locs3 h2 hT2 hw4 => ?_)
  obtain ⟨er, hI2⟩ := hQ2 r2 T2 mu3 h2
  exact lv_icmp_eq (tgt := 882) hH.1 hH.2.1 d4 ht (fun _ => kk T2 mu3 H3 locs3 hI2 hw4) (fun z => absurd er z)
end LP
