/-! PAIRS OF CALLS: the reads -/
theorem zp_pointerCount (x : Nat) : ZP x yX2_pointerCount cX2_pointerCount 1 0 yX3_pointerCount cX3_pointerCount 1 0 [] := by
  refine ZP_rd (fun g => g.1 145) (fun S mu pm g h1 h2 => ?_) (fun S mu g h1 h2 h3 h4 => ?_)
  · obtain ⟨ol, hX⟩ := h2.1
    exact cx_pointerCount h1 hX
  · exact (cm_pointerCount h1 mu).imp (fun v S2 mu2 ⟨r, e1, e2, e3, e4⟩ => ⟨r, e1, e2, e3, by rw [e4, h3]⟩)
theorem zp_inputSize (x : Nat) : ZP x yX2_inputSize cX2_inputSize 1 0 yX3_inputSize cX3_inputSize 1 0 [] := by
  refine ZP_rd (fun g => g.1 250) (fun S mu pm g h1 h2 => ?_) (fun S mu g h1 h2 h3 h4 => ?_)
  · obtain ⟨ol, hX⟩ := h2.1
    exact cx_inputSize h1 hX
  · exact (cm_inputSize h1 mu).imp (fun v S2 mu2 ⟨r, e1, e2, e3, e4⟩ => ⟨r, e1, e2, e3, by rw [e4, h3]⟩)
theorem zp_outputSize (x : Nat) : ZP x yX2_outputSize cX2_outputSize 1 0 yX3_outputSize cX3_outputSize 1 0 [] := by
  refine ZP_rd (fun g => g.1 267) (fun S mu pm g h1 h2 => ?_) (fun S mu g h1 h2 h3 h4 => ?_)
  · obtain ⟨ol, hX⟩ := h2.1
    exact cx_outputSize h1 hX
  · exact (cm_outputSize h1 mu).imp (fun v S2 mu2 ⟨r, e1, e2, e3, e4⟩ => ⟨r, e1, e2, e3, by rw [e4, h3]⟩)
theorem zp_outputTotal (x : Nat) : ZP x yX2_outputTotal cX2_outputTotal 1 0 yX3_outputTotal cX3_outputTotal 1 0 [] := by
  refine ZP_rd (fun g => g.1 288) (fun S mu pm g h1 h2 => ?_) (fun S mu g h1 h2 h3 h4 => ?_)
  · obtain ⟨ol, hX⟩ := h2.1
    exact cx_outputTotal h1 hX
  · exact (cm_outputTotal h1 mu).imp (fun v S2 mu2 ⟨r, e1, e2, e3, e4⟩ => ⟨r, e1, e2, e3, by rw [e4, h3]⟩)
theorem zp_tickCount (x : Nat) : ZP x yX2_tickCount cX2_tickCount 1 0 yX3_tickCount cX3_tickCount 1 0 [] := by
  refine ZP_rd (fun g => g.1 144) (fun S mu pm g h1 h2 => ?_) (fun S mu g h1 h2 h3 h4 => ?_)
  · obtain ⟨ol, hX⟩ := h2.1
    exact cx_tickCount h1 hX
  · exact (cm_tickCount h1 mu).imp (fun v S2 mu2 ⟨r, e1, e2, e3, e4⟩ => ⟨r, e1, e2, e3, by rw [e4, h3]⟩)
theorem zp_undoDepth (x : Nat) : ZP x yX2_undoDepth cX2_undoDepth 1 0 yX3_undoDepth cX3_undoDepth 1 0 [] := by
  refine ZP_rd (fun g => nI g.2.2.2.2.1) (fun S mu pm g h1 h2 => ?_) (fun S mu g h1 h2 h3 h4 => ?_)
  · have h := h2.2.2.2.1.1
    exact (cx_undoDepth h1 mu).imp (fun v S2 mu2 ⟨r, e1, e2, e3, e4⟩ => ⟨r, e1, e2, e3, by rw [e4, h]⟩)
  · have h := h2.2.2.2.1.1
    exact (cm_undoDepth h1 mu).imp (fun v S2 mu2 ⟨r, e1, e2, e3, e4⟩ => ⟨r, e1, e2, e3, by rw [e4, h]⟩)
theorem zp_cellAt (x : Nat) (a c : Int32) : ZP x yX2_cellAt cX2_cellAt 3 1 yX3_cellAt cX3_cellAt 3 2 [.inl a, .inl c] := by
  refine ZP_rd (fun g => atC a c (fun j => g.1 (72 + j)) (-1)) (fun S mu pm g h1 h2 => ?_) (fun S mu g h1 h2 h3 h4 => ?_)
  · obtain ⟨ol, hX⟩ := h2.1
    exact cx_cellAt h1 hX a c
  · exact (cm_cellAt h1 mu a c).imp (fun v S2 mu2 ⟨r, e1, e2, e3, e4⟩ => ⟨r, e1, e2, e3, by rw [e4, h3]⟩)
theorem zp_changedCells (x : Nat) : ZP x yX2_changedCells cX2_changedCells 3 0 yX3_changedCells cX3_changedCells 3 0 [] := by
  refine ZP_rd (fun g => nI (qdiff g.1 (fun j => g.1 (72 + j)) 72)) (fun S mu pm g h1 h2 => ?_) (fun S mu g h1 h2 h3 h4 => ?_)
  · obtain ⟨ol, hX⟩ := h2.1
    exact cx_changedCells h1 hX
  · exact (cm_changedCells h1 mu).imp (fun v S2 mu2 ⟨r, e1, e2, e3, e4⟩ => ⟨r, e1, e2, e3, by rw [e4, h3]⟩)
theorem VI_zn {v : Nat → Int32} {ol : List Nat} (h : VI v ol) : zn v 145 = ol.length := zn_of h.1.1 (by have := h.1.2.2; omega)
theorem zp_pointerAt (x : Nat) (q : Int32) : ZP x yX2_pointerAt cX2_pointerAt 2 1 yX3_pointerAt cX3_pointerAt 2 2 [.inl q] := by
  refine ZP_rd (fun g => atN q (zn g.1 145) (fun j => g.1 (146 + j)) (-1)) (fun S mu pm g h1 h2 => ?_) (fun S mu g h1 h2 h3 h4 => ?_)
  · obtain ⟨ol, hX⟩ := h2.1
    exact (cx_pointerAt h1 hX q).imp (fun v S2 mu2 ⟨r, e1, e2, e3, e4⟩ => ⟨r, e1, e2, e3, by rw [e4, VI_zn hX.1]⟩)
  · obtain ⟨ol, hV⟩ := h4.1
    exact (cm_pointerAt h1 mu (by rw [h3]; exact hV.1.1) hV.1.2.1 hV.1.2.2 q).imp (fun v S2 mu2 ⟨r, e1, e2, e3, e4⟩ => ⟨r, e1, e2, e3, by rw [e4, h3, VI_zn hV]⟩)
theorem zp_direction (x : Nat) (q : Int32) : ZP x yX2_direction cX2_direction 2 1 yX3_direction cX3_direction 2 2 [.inl q] := by
  refine ZP_rd (fun g => atN q (zn g.1 145) (fun j => g.1 (150 + 25 * j + 2)) (-1)) (fun S mu pm g h1 h2 => ?_) (fun S mu g h1 h2 h3 h4 => ?_)
  · obtain ⟨ol, hX⟩ := h2.1
    exact (cx_direction h1 hX q).imp (fun v S2 mu2 ⟨r, e1, e2, e3, e4⟩ => ⟨r, e1, e2, e3, by rw [e4, VI_zn hX.1]⟩)
  · obtain ⟨ol, hV⟩ := h4.1
    exact (cm_direction h1 mu (by rw [h3]; exact hV.1.1) hV.1.2.1 hV.1.2.2 q).imp (fun v S2 mu2 ⟨r, e1, e2, e3, e4⟩ => ⟨r, e1, e2, e3, by rw [e4, h3, VI_zn hV]⟩)
theorem zp_status (x : Nat) (q : Int32) : ZP x yX2_status cX2_status 2 1 yX3_status cX3_status 2 2 [.inl q] := by
  refine ZP_rd (fun g => atN q (zn g.1 145) (fun j => g.1 (150 + 25 * j + 3)) (-1)) (fun S mu pm g h1 h2 => ?_) (fun S mu g h1 h2 h3 h4 => ?_)
  · obtain ⟨ol, hX⟩ := h2.1
    exact (cx_status h1 hX q).imp (fun v S2 mu2 ⟨r, e1, e2, e3, e4⟩ => ⟨r, e1, e2, e3, by rw [e4, VI_zn hX.1]⟩)
  · obtain ⟨ol, hV⟩ := h4.1
    exact (cm_status h1 mu (by rw [h3]; exact hV.1.1) hV.1.2.1 hV.1.2.2 q).imp (fun v S2 mu2 ⟨r, e1, e2, e3, e4⟩ => ⟨r, e1, e2, e3, by rw [e4, h3, VI_zn hV]⟩)
theorem zp_sleep (x : Nat) (q : Int32) : ZP x yX2_sleep cX2_sleep 2 1 yX3_sleep cX3_sleep 2 2 [.inl q] := by
  refine ZP_rd (fun g => atN q (zn g.1 145) (fun j => g.1 (150 + 25 * j + 4)) (-1)) (fun S mu pm g h1 h2 => ?_) (fun S mu g h1 h2 h3 h4 => ?_)
  · obtain ⟨ol, hX⟩ := h2.1
    exact (cx_sleep h1 hX q).imp (fun v S2 mu2 ⟨r, e1, e2, e3, e4⟩ => ⟨r, e1, e2, e3, by rw [e4, VI_zn hX.1]⟩)
  · obtain ⟨ol, hV⟩ := h4.1
    exact (cm_sleep h1 mu (by rw [h3]; exact hV.1.1) hV.1.2.1 hV.1.2.2 q).imp (fun v S2 mu2 ⟨r, e1, e2, e3, e4⟩ => ⟨r, e1, e2, e3, by rw [e4, h3, VI_zn hV]⟩)
theorem zp_stackCount (x : Nat) (q : Int32) : ZP x yX2_stackCount cX2_stackCount 2 1 yX3_stackCount cX3_stackCount 2 2 [.inl q] := by
  refine ZP_rd (fun g => atN q (zn g.1 145) (fun j => g.1 (150 + 25 * j + 5)) (-1)) (fun S mu pm g h1 h2 => ?_) (fun S mu g h1 h2 h3 h4 => ?_)
  · obtain ⟨ol, hX⟩ := h2.1
    exact (cx_stackCount h1 hX q).imp (fun v S2 mu2 ⟨r, e1, e2, e3, e4⟩ => ⟨r, e1, e2, e3, by rw [e4, VI_zn hX.1]⟩)
  · obtain ⟨ol, hV⟩ := h4.1
    exact (cm_stackCount h1 mu (by rw [h3]; exact hV.1.1) hV.1.2.1 hV.1.2.2 q).imp (fun v S2 mu2 ⟨r, e1, e2, e3, e4⟩ => ⟨r, e1, e2, e3, by rw [e4, h3, VI_zn hV]⟩)
theorem zp_position (x : Nat) (q : Int32) : ZP x yX2_position cX2_position 2 1 yX3_position cX3_position 2 2 [.inl q] := by
  refine ZP_rd (fun g => atN q (zn g.1 145) (fun j => nI 12 * g.1 (150 + 25 * j + 1) + g.1 (150 + 25 * j)) (-1)) (fun S mu pm g h1 h2 => ?_) (fun S mu g h1 h2 h3 h4 => ?_)
  · obtain ⟨ol, hX⟩ := h2.1
    exact (cx_position h1 hX q).imp (fun v S2 mu2 ⟨r, e1, e2, e3, e4⟩ => ⟨r, e1, e2, e3, by rw [e4, VI_zn hX.1]⟩)
  · obtain ⟨ol, hV⟩ := h4.1
    exact (cm_position h1 mu (by rw [h3]; exact hV.1.1) hV.1.2.1 hV.1.2.2 q (fun j hj => by rw [h3]; obtain ⟨x1, y1, dr, ss, sl, ns, s0, s1, s2, hP⟩ := hV.2.2.2.2.1 j hj; exact ⟨x1, y1, hP.1, hP.2.1⟩)).imp (fun v S2 mu2 ⟨r, e1, e2, e3, e4⟩ => ⟨r, e1, e2, e3, by rw [e4, h3, VI_zn hV]⟩)
theorem zp_stackSize (x : Nat) (q t : Int32) : ZP x yX2_stackSize cX2_stackSize 3 2 yX3_stackSize cX3_stackSize 3 3 [.inl q, .inl t] := by
  refine ZP_rd (fun g => aSize g.1 (zn g.1 145) q t) (fun S mu pm g h1 h2 => ?_) (fun S mu g h1 h2 h3 h4 => ?_)
  · obtain ⟨ol, hX⟩ := h2.1
    exact (cx_stackSize h1 hX q t).imp (fun v S2 mu2 ⟨r, e1, e2, e3, e4⟩ => ⟨r, e1, e2, e3, by rw [e4, VI_zn hX.1]⟩)
  · obtain ⟨ol, hV⟩ := h4.1
    exact (cm_stackSize (ol := ol) h1 mu (by rw [h3]; exact hV) q t).imp (fun v S2 mu2 ⟨r, e1, e2, e3, e4⟩ => ⟨r, e1, e2, e3, by rw [e4, h3, VI_zn hV]⟩)
theorem zp_valueAt (x : Nat) (q t u : Int32) : ZP x yX2_valueAt cX2_valueAt 5 2 yX3_valueAt cX3_valueAt 6 3 [.inl q, .inl t, .inl u] := by
  refine ZP_rd (fun g => aValue g.1 (zn g.1 145) q t u) (fun S mu pm g h1 h2 => ?_) (fun S mu g h1 h2 h3 h4 => ?_)
  · obtain ⟨ol, hX⟩ := h2.1
    exact (cx_valueAt h1 hX q t u).imp (fun v S2 mu2 ⟨r, e1, e2, e3, e4⟩ => ⟨r, e1, e2, e3, by rw [e4, VI_zn hX.1]⟩)
  · obtain ⟨ol, hV⟩ := h4.1
    exact (cm_valueAt (ol := ol) h1 mu (by rw [h3]; exact hV) q t u).imp (fun v S2 mu2 ⟨r, e1, e2, e3, e4⟩ => ⟨r, e1, e2, e3, by rw [e4, h3, VI_zn hV]⟩)
theorem zp_outputAt (x : Nat) (q : Int32) : ZP x yX2_outputAt cX2_outputAt 2 0 yX3_outputAt cX3_outputAt 2 1 [.inl q] := by
  refine ZP_rd (fun g => atN q (zn g.1 267) (fun j => g.1 (268 + j)) 0) (fun S mu pm g h1 h2 => ?_) (fun S mu g h1 h2 h3 h4 => ?_)
  · obtain ⟨ol, hX⟩ := h2.1
    exact cx_outputAt h1 hX q
  · obtain ⟨ol, hV⟩ := h4.1
    obtain ⟨n, n1, n2, -⟩ := hV.2.2.2.2.2.2.2
    exact (cm_outputAt h1 mu (by rw [h3]; exact n2) n1 q).imp (fun v S2 mu2 ⟨r, e1, e2, e3, e4⟩ => ⟨r, e1, e2, e3, by rw [e4, h3, zn_of n2 (by omega)]⟩)
