/-! PAIRS OF CALLS: those that change the state -/
def zUn (g : zT) (w : Nat → Int32) : zT := (w, g.2.1, g.2.2.1, g.2.2.2.1, ucN g.2.2.2.2.1, usN g.2.2.2.2.1 g.2.2.2.2.2.1 g.1, g.2.2.2.2.2.2)
theorem zp_append (x : Nat) (c : Int32) : ZP x yX2_append cX2_append 2 0 yX3_append cX3_append 2 1 [.inl c] := by
  refine ZP_rel (fun g r g2 => (¬ (nI 0 ≤ c ∧ c ≤ nI 255) ∧ r = -1 ∧ g2 = g) ∨ ((nI 0 ≤ c ∧ c ≤ nI 255) ∧ g.2.1 = 90 ∧ r = -3 ∧ g2 = g) ∨ ((nI 0 ≤ c ∧ c ≤ nI 255) ∧ g.2.1 < 90 ∧ r = nI (g.2.1 + 1) ∧ g2 = (g.1, g.2.1 + 1, upd g.2.2.1 g.2.1 c, g.2.2.2))) (fun g r1 r2 g1 g2 hK h1 h2 => ?_) (fun S mu pm g h1 h2 h3 => ?_) (fun S mu g h1 h2 h3 h4 => ?_)
  · rcases h1 with ⟨a1, a2, a3⟩ | ⟨a1, a2, a3, a4⟩ | ⟨a1, a2, a3, a4⟩ <;> rcases h2 with ⟨b1, b2, b3⟩ | ⟨b1, b2, b3, b4⟩ | ⟨b1, b2, b3, b4⟩ <;> first | exact absurd b1 a1 | exact absurd a1 b1 | (exfalso; omega) | exact ⟨a2.trans b2.symm, a3.trans b3.symm⟩ | exact ⟨a3.trans b3.symm, a4.trans b4.symm⟩
  · refine ZPx h1 (cx_append h1 h2 c) (fun r mu2 ⟨hp, hf⟩ => ⟨hf, ?_⟩)
    rcases hp with ⟨a1, a2, rfl⟩ | ⟨a1, a2, a3, rfl⟩ | ⟨a1, a2, a3, a4⟩
    · exact ⟨g, Or.inl ⟨a1, a2, rfl⟩, h2⟩
    · exact ⟨g, Or.inr (Or.inl ⟨a1, a2, a3, rfl⟩), h2⟩
    · exact ⟨_, Or.inr (Or.inr ⟨a1, a2, a3, rfl⟩), a4⟩
  · refine ZPm (cm_append h1 h2 c) (fun r mu2 ⟨hp, hf⟩ => ⟨hf, ?_⟩)
    rcases hp with ⟨a1, a2, rfl⟩ | ⟨a1, a2, a3, rfl⟩ | ⟨a1, a2, a3, a4⟩
    · exact ⟨g, Or.inl ⟨a1, a2, rfl⟩, h2⟩
    · exact ⟨g, Or.inr (Or.inl ⟨a1, a2, a3, rfl⟩), h2⟩
    · exact ⟨_, Or.inr (Or.inr ⟨a1, a2, a3, rfl⟩), a4⟩
theorem zp_clearText (x : Nat) : ZP x yX2_clearText cX2_clearText 2 0 yX3_clearText cX3_clearText 2 0 [] := by
  refine ZP_rel (fun g r g2 => r = nI g.2.1 ∧ g2 = (g.1, 0, g.2.2)) (fun g r1 r2 g1 g2 hK h1 h2 => ⟨h1.1.trans h2.1.symm, h1.2.trans h2.2.symm⟩) (fun S mu pm g h1 h2 h3 => ?_) (fun S mu g h1 h2 h3 h4 => ?_)
  · exact ZPx h1 (cx_clearText h1 h2) (fun r mu2 ⟨a1, a2, hf⟩ => ⟨hf, _, ⟨a1, rfl⟩, a2⟩)
  · exact ZPm (cm_clearText h1 h2) (fun r mu2 ⟨a1, a2, hf⟩ => ⟨hf, _, ⟨a1, rfl⟩, a2⟩)
theorem zp_rewind (x : Nat) : ZP x yX2_rewind cX2_rewind 2 4 yX3_rewind cX3_rewind 2 1 [] := by
  refine ZP_rel (fun g r g2 => r = g.1 144 ∧ g2 = zUn g (qbegin g.1)) (fun g r1 r2 g1 g2 hK h1 h2 => ⟨h1.1.trans h2.1.symm, h1.2.trans h2.2.symm⟩) (fun S mu pm g h1 h2 h3 => ?_) (fun S mu g h1 h2 h3 h4 => ?_)
  · exact ZPt (cx_rewind h1 h2) (fun r mu2 pm2 ⟨a1, a2⟩ => ⟨_, ⟨a1, rfl⟩, a2⟩)
  · exact ZPm (cm_rewind h1 h2 h3) (fun r mu2 ⟨a1, a2, hf⟩ => ⟨hf, _, ⟨a1, rfl⟩, a2⟩)
theorem zp_load (x : Nat) : ZP x yX2_load cX2_load 2 4 yX3_load cX3_load 6 2 [] := by
  refine ZP_rel (fun g r g2 => (∃ e, EP g.2.2.1 g.2.1 e ∧ e ≠ -9 ∧ r = -10 - e ∧ g2 = g) ∨ (EP g.2.2.1 g.2.1 (-9) ∧ r = nI (qmny g.2.2.1 g.2.1) ∧ g2 = (qload g.2.2.1 g.2.1 g.1, 0, (zUn g g.1).2.2))) (fun g r1 r2 g1 g2 hK h1 h2 => ?_) (fun S mu pm g h1 h2 h3 => ?_) (fun S mu g h1 h2 h3 h4 => ?_)
  · rcases h1 with ⟨e, a1, a2, a3, a4⟩ | ⟨a1, a2, a3⟩ <;> rcases h2 with ⟨f, b1, b2, b3, b4⟩ | ⟨b1, b2, b3⟩
    · rw [EP_one a1 b1] at a3
      exact ⟨a3.trans b3.symm, a4.trans b4.symm⟩
    · exact absurd (EP_one a1 b1) a2
    · exact absurd (EP_one b1 a1) b2
    · exact ⟨a2.trans b2.symm, a3.trans b3.symm⟩
  · refine ZPt (cx_load h1 h2) (fun r mu2 pm2 hp => ?_)
    rcases hp with ⟨e, a1, a2, a3, a4⟩ | ⟨a1, a2, a3⟩
    · exact ⟨g, Or.inl ⟨e, a1, a2, a3, rfl⟩, a4⟩
    · exact ⟨_, Or.inr ⟨a1, a2, rfl⟩, a3⟩
  · refine ZPm (cm_load h1 h2 h3) (fun r mu2 ⟨hp, hf⟩ => ⟨hf, ?_⟩)
    rcases hp with ⟨e, a1, a2, a3, rfl⟩ | ⟨a1, a2, a3⟩
    · exact ⟨g, Or.inl ⟨e, a1, a2, a3, rfl⟩, h2⟩
    · exact ⟨_, Or.inr ⟨a1, a2, rfl⟩, a3⟩
theorem zp_feed (x : Nat) (e : Int32) : ZP x yX2_feed cX2_feed 2 4 yX3_feed cX3_feed 2 1 [.inl e] := by
  have hz : ∀ g : zT, zKg g → g.1 250 = nI (zn g.1 250) ∧ zn g.1 250 ≤ 16 := fun g hK => by
    obtain ⟨ol, hV⟩ := hK.1
    obtain ⟨n, n1, n2, -⟩ := hV.2.2.2.2.2.2.1
    rw [zn_of n2 (by omega)]
    exact ⟨n2, n1⟩
  refine ZP_rel (fun g r g2 => (zn g.1 250 = 16 ∧ r = -3 ∧ g2 = g) ∨ (zn g.1 250 < 16 ∧ r = nI (zn g.1 250 + 1) ∧ g2 = zUn g (qfeed g.1 (zn g.1 250) e))) (fun g r1 r2 g1 g2 hK h1 h2 => ?_) (fun S mu pm g h1 h2 h3 => ?_) (fun S mu g h1 h2 h3 h4 => ?_)
  · rcases h1 with ⟨a1, a2, a3⟩ | ⟨a1, a2, a3⟩ <;> rcases h2 with ⟨b1, b2, b3⟩ | ⟨b1, b2, b3⟩ <;> first | (exfalso; omega) | exact ⟨a2.trans b2.symm, a3.trans b3.symm⟩
  · refine ZPt (cx_feed h1 h2 (hz g h3).1 (hz g h3).2 e) (fun r mu2 pm2 hp => ?_)
    rcases hp with ⟨a1, a2, a3⟩ | ⟨a1, a2, a3⟩
    · exact ⟨g, Or.inl ⟨a1, a2, rfl⟩, a3⟩
    · exact ⟨_, Or.inr ⟨a1, a2, rfl⟩, a3⟩
  · refine ZPm (cm_feed h1 h2 h3 (hz g h4).1 (hz g h4).2 e) (fun r mu2 ⟨hp, hf⟩ => ⟨hf, ?_⟩)
    rcases hp with ⟨a1, a2, rfl⟩ | ⟨a1, a2, a3⟩
    · exact ⟨g, Or.inl ⟨a1, a2, rfl⟩, h2⟩
    · exact ⟨_, Or.inr ⟨a1, a2, rfl⟩, a3⟩
theorem nI_same {a b : Nat} {z : Int32} (h1 : z = nI a) (h2 : z = nI b) (ha : a < 1000) (hb : b < 1000) : a = b := (nI_eq (by omega) (by omega)).mp (h1.symm.trans h2)
theorem zp_poke (x : Nat) (a b c : Int32) : ZP x yX2_poke cX2_poke 6 4 yX3_poke cX3_poke 6 2 [.inl a, .inl b, .inl c] := by
  refine ZP_rel (fun g r g2 => (¬ (∃ cx cy, cx < 12 ∧ cy < 6 ∧ a = nI cx ∧ b = nI cy ∧ nI 32 ≤ c ∧ c ≤ nI 126) ∧ r = -1 ∧ g2 = g) ∨ (∃ cx cy, cx < 12 ∧ cy < 6 ∧ a = nI cx ∧ b = nI cy ∧ (nI 32 ≤ c ∧ c ≤ nI 126) ∧ r = g.1 (72 + 12 * cy + cx) ∧ g2 = zUn g (upd g.1 (72 + 12 * cy + cx) c))) (fun g r1 r2 g1 g2 hK h1 h2 => ?_) (fun S mu pm g h1 h2 h3 => ?_) (fun S mu g h1 h2 h3 h4 => ?_)
  · rcases h1 with ⟨a1, a2, a3⟩ | ⟨cx, cy, a1, a2, a3, a4, a5, a6, a7⟩ <;> rcases h2 with ⟨b1, b2, b3⟩ | ⟨dx, dy, b1, b2, b3, b4, b5, b6, b7⟩
    · exact ⟨a2.trans b2.symm, a3.trans b3.symm⟩
    · exact absurd ⟨dx, dy, b1, b2, b3, b4, b5⟩ a1
    · exact absurd ⟨cx, cy, a1, a2, a3, a4, a5⟩ b1
    · obtain rfl := nI_same a3 b3 (by omega) (by omega)
      obtain rfl := nI_same a4 b4 (by omega) (by omega)
      exact ⟨a6.trans b6.symm, a7.trans b7.symm⟩
  · refine ZPt (cx_poke h1 h2 a b c) (fun r mu2 pm2 hp => ?_)
    rcases hp with ⟨a1, a2, a3⟩ | ⟨cx, cy, a1, a2, a3, a4, a5, a6, a7⟩
    · exact ⟨g, Or.inl ⟨a1, a2, rfl⟩, a3⟩
    · exact ⟨_, Or.inr ⟨cx, cy, a1, a2, a3, a4, a5, a6, rfl⟩, a7⟩
  · refine ZPm (cm_poke h1 h2 h3 a b c) (fun r mu2 ⟨hp, hf⟩ => ⟨hf, ?_⟩)
    rcases hp with ⟨a1, a2, rfl⟩ | ⟨cx, cy, a1, a2, a3, a4, a5, a6, a7⟩
    · exact ⟨g, Or.inl ⟨a1, a2, rfl⟩, h2⟩
    · exact ⟨_, Or.inr ⟨cx, cy, a1, a2, a3, a4, a5, a6, rfl⟩, a7⟩
theorem PF_det {v bp : Nat → Int32} {e r1 r2 : Int32} {br : Bool} {g g1 g2 : zT} {F : Nat → zT} (h1 : PF v bp e br r1 (g1 = g) (fun n => g1 = F n)) (h2 : PF v bp e br r2 (g2 = g) (fun n => g2 = F n)) : r1 = r2 ∧ g1 = g2 := by
  rcases h1 with ⟨a1, a2, a3⟩ | ⟨a1, a2, a3, a4⟩ | ⟨a1, a2, n, a3, a4, a5⟩ <;> rcases h2 with ⟨b1, b2, b3⟩ | ⟨b1, b2, b3, b4⟩ | ⟨b1, b2, k, b3, b4, b5⟩ <;> first | exact absurd b1 a1 | exact absurd a1 b1 | exact ⟨a2.trans b2.symm, a3.trans b3.symm⟩ | exact ⟨a3.trans b3.symm, a4.trans b4.symm⟩ | (rw [a2] at b2; cases b2; done) | (obtain rfl := AD_one a3 b3; exact ⟨a4.trans b4.symm, a5.trans b5.symm⟩)
theorem PF_ex {v bp : Nat → Int32} {e r : Int32} {br : Bool} {g : zT} {F : Nat → zT} {st : Prop} {av : Nat → Prop} {P : zT → Prop} (h : PF v bp e br r st av) (h1 : st → P g) (h2 : ∀ n, av n → P (F n)) : ∃ g2, PF v bp e br r (g2 = g) (fun n => g2 = F n) ∧ P g2 := by
  rcases h with ⟨a1, a2, a3⟩ | ⟨a1, a2, a3, a4⟩ | ⟨a1, a2, n, a3, a4, a5⟩
  · exact ⟨g, Or.inl ⟨a1, a2, rfl⟩, h1 a3⟩
  · exact ⟨g, Or.inr (Or.inl ⟨a1, a2, a3, rfl⟩), h1 a4⟩
  · exact ⟨F n, Or.inr (Or.inr ⟨a1, a2, n, a3, a4, rfl⟩), h2 n a5⟩
theorem zp_tick (x : Nat) (e : Int32) : ZP x yX2_tick cX2_tick 2 6 yX3_tick cX3_tick 2 8 [.inl e] := by
  refine ZP_rel (fun g r g2 => PF g.1 g.2.2.2.1 e false r (g2 = g) (fun n => g2 = zUn g (qit g.1 n))) (fun g r1 r2 g1 g2 hK h1 h2 => PF_det h1 h2) (fun S mu pm g h1 h2 h3 => ?_) (fun S mu g h1 h2 h3 h4 => ?_)
  · exact ZPt (cx_tick h1 h2 e) (fun r mu2 pm2 hp => PF_ex hp id (fun _ z => z))
  · obtain ⟨ol, hV⟩ := h4.1
    exact ZPm (cm_tick h1 h2 h3 hV e) (fun r mu2 ⟨hp, hf⟩ => ⟨hf, PF_ex hp (fun z => by rw [z]; exact h2) (fun _ z => z)⟩)
theorem zp_run (x : Nat) (e : Int32) : ZP x yX2_run cX2_run 2 6 yX3_run cX3_run 2 8 [.inl e] := by
  refine ZP_rel (fun g r g2 => PF g.1 g.2.2.2.1 e true r (g2 = g) (fun n => g2 = zUn g (qit g.1 n))) (fun g r1 r2 g1 g2 hK h1 h2 => PF_det h1 h2) (fun S mu pm g h1 h2 h3 => ?_) (fun S mu g h1 h2 h3 h4 => ?_)
  · exact ZPt (cx_run h1 h2 e) (fun r mu2 pm2 hp => PF_ex hp id (fun _ z => z))
  · obtain ⟨ol, hV⟩ := h4.1
    exact ZPm (cm_run h1 h2 h3 hV e) (fun r mu2 ⟨hp, hf⟩ => ⟨hf, PF_ex hp (fun z => by rw [z]; exact h2) (fun _ z => z)⟩)
theorem zp_undo (x : Nat) : ZP x yX2_undo cX2_undo 1 3 yX3_undo cX3_undo 2 0 [] := by
  refine ZP_rel (fun g r g2 => (g.2.2.2.2.1 = 0 ∧ r = -2 ∧ g2 = g) ∨ (1 ≤ g.2.2.2.2.1 ∧ r = nI (g.2.2.2.2.1 - 1) ∧ g2 = (g.2.2.2.2.2.1 (g.2.2.2.2.1 - 1), g.2.1, g.2.2.1, g.2.2.2.1, g.2.2.2.2.1 - 1, g.2.2.2.2.2))) (fun g r1 r2 g1 g2 hK h1 h2 => ?_) (fun S mu pm g h1 h2 h3 => ?_) (fun S mu g h1 h2 h3 h4 => ?_)
  · rcases h1 with ⟨a1, a2, a3⟩ | ⟨a1, a2, a3⟩ <;> rcases h2 with ⟨b1, b2, b3⟩ | ⟨b1, b2, b3⟩ <;> first | (exfalso; omega) | exact ⟨a2.trans b2.symm, a3.trans b3.symm⟩
  · refine ZPx h1 (cx_undo h1 h2) (fun r mu2 ⟨hp, hf⟩ => ⟨hf, ?_⟩)
    rcases hp with ⟨a1, a2, rfl⟩ | ⟨a1, a2, a3⟩
    · exact ⟨g, Or.inl ⟨a1, a2, rfl⟩, h2⟩
    · exact ⟨_, Or.inr ⟨a1, a2, rfl⟩, a3⟩
  · refine ZPm (cm_undo h1 h2) (fun r mu2 ⟨hp, hf⟩ => ⟨hf, ?_⟩)
    rcases hp with ⟨a1, a2, rfl⟩ | ⟨a1, a2, a3⟩
    · exact ⟨g, Or.inl ⟨a1, a2, rfl⟩, h2⟩
    · exact ⟨_, Or.inr ⟨a1, a2, rfl⟩, a3⟩
theorem LM_one {e r1 r2 : Int32} {F G : Nat → Prop} (h1 : LM e r1 F) (h2 : LM e r2 G) (h : ∀ lim, lim ≤ 200 → F lim → G lim → r1 = r2) : r1 = r2 := by
  rcases h1 with ⟨a1, a2⟩ | ⟨a1, a2⟩ <;> rcases h2 with ⟨b1, b2⟩ | ⟨b1, b2⟩
  · exact a2.trans b2.symm
  · exact absurd b1 a1
  · exact absurd a1 b1
  · obtain ⟨lim, c1, c2, c3⟩ := lim_ix a1
    have c4 : e.toNatClampNeg = lim := by rw [c3, nI_clamp (by omega)]
    rw [c4] at a2 b2
    exact h lim c2 a2 b2
theorem zp_ticksToHalt (x : Nat) (e : Int32) : ZP x yX2_ticksToHalt cX2_ticksToHalt 3 5 yX3_ticksToHalt cX3_ticksToHalt 2 8 [.inl e] := by
  refine ZP_rel (fun g r g2 => LM e r (fun lim => HL g.1 lim r) ∧ g2 = g) (fun g r1 r2 g1 g2 hK h1 h2 => ⟨LM_one h1.1 h2.1 (fun lim _ z1 z2 => HL_one z1 z2), h1.2.trans h2.2.symm⟩) (fun S mu pm g h1 h2 h3 => ?_) (fun S mu g h1 h2 h3 h4 => ?_)
  · exact ZPx h1 (cx_ticksToHalt h1 h2 e) (fun r mu2 ⟨a1, a2, hf⟩ => ⟨hf, g, ⟨a1, rfl⟩, a2⟩)
  · obtain ⟨ol, hV⟩ := h4.1
    exact ZPm (cm_ticksToHalt h1 h2 h3 hV e) (fun r mu2 ⟨a1, a2, hf⟩ => ⟨hf, g, ⟨a1, rfl⟩, a2⟩)
theorem zp_cycleStart (x : Nat) (e : Int32) : ZP x yX2_cycleStart cX2_cycleStart 3 6 yX3_cycleStart cX3_cycleStart 2 9 [.inl e] := by
  refine ZP_rel2 (fun g r g2 => LM e r (fun lim => CS g.1 lim r) ∧ g2 = g) (fun g r g2 => LM e r (fun lim => ∃ c, FC g.1 lim r c) ∧ g2 = g) (fun g r1 r2 g1 g2 hK h1 h2 => ?_) (fun S mu pm g h1 h2 h3 => ?_) (fun S mu g h1 h2 h3 h4 => ?_)
  · obtain ⟨ol, hV⟩ := hK.1
    exact ⟨LM_one h1.1 h2.1 (fun lim hl z1 ⟨c, z2⟩ => CS_one hl (QE_it hV) (qhalt_lim hV) z2 z1), h1.2.trans h2.2.symm⟩
  · exact ZPx h1 (cx_cycleStart h1 h2 e) (fun r mu2 ⟨a1, a2, hf⟩ => ⟨hf, g, ⟨a1, rfl⟩, a2⟩)
  · obtain ⟨ol, hV⟩ := h4.1
    exact ZPm (cm_cycleStart h1 h2 h3 hV e) (fun r mu2 ⟨a1, a2, hf⟩ => ⟨hf, g, ⟨a1, rfl⟩, a2⟩)
theorem zp_cycleLength (x : Nat) (e : Int32) : ZP x yX2_cycleLength cX2_cycleLength 3 6 yX3_cycleLength cX3_cycleLength 2 9 [.inl e] := by
  refine ZP_rel2 (fun g r g2 => LM e r (fun lim => CL g.1 lim r) ∧ g2 = g) (fun g r g2 => LM e r (fun lim => ∃ a, FC g.1 lim a r) ∧ g2 = g) (fun g r1 r2 g1 g2 hK h1 h2 => ?_) (fun S mu pm g h1 h2 h3 => ?_) (fun S mu g h1 h2 h3 h4 => ?_)
  · obtain ⟨ol, hV⟩ := hK.1
    exact ⟨LM_one h1.1 h2.1 (fun lim hl z1 ⟨c, z2⟩ => CL_one hl (QE_it hV) (qhalt_lim hV) z2 z1), h1.2.trans h2.2.symm⟩
  · exact ZPx h1 (cx_cycleLength h1 h2 e) (fun r mu2 ⟨a1, a2, hf⟩ => ⟨hf, g, ⟨a1, rfl⟩, a2⟩)
  · obtain ⟨ol, hV⟩ := h4.1
    exact ZPm (cm_cycleLength h1 h2 h3 hV e) (fun r mu2 ⟨a1, a2, hf⟩ => ⟨hf, g, ⟨a1, rfl⟩, a2⟩)
theorem nI_in2 {e : Int32} {s : Nat} (h : s < 2) (he : e = nI s) : 0 ≤ e ∧ e < nI 2 := by
  subst he
  exact ⟨nI_pos' (by omega), nI_lt h (by omega)⟩
theorem zp_save (x : Nat) (e : Int32) : ZP x yX2_save cX2_save 2 3 yX3_save cX3_save 3 1 [.inl e] := by
  refine ZP_rel (fun g r g2 => (¬ (0 ≤ e ∧ e < nI 2) ∧ r = -1 ∧ g2 = g) ∨ (∃ s, s < 2 ∧ e = nI s ∧ r = g.1 144 ∧ g2 = (g.1, g.2.1, g.2.2.1, g.2.2.2.1, g.2.2.2.2.1, g.2.2.2.2.2.1, upd g.2.2.2.2.2.2.1 s (nI 1), snN s g.1 g.2.2.2.2.2.2.2))) (fun g r1 r2 g1 g2 hK h1 h2 => ?_) (fun S mu pm g h1 h2 h3 => ?_) (fun S mu g h1 h2 h3 h4 => ?_)
  · rcases h1 with ⟨a1, a2, a3⟩ | ⟨s, a1, a2, a3, a4⟩ <;> rcases h2 with ⟨b1, b2, b3⟩ | ⟨t, b1, b2, b3, b4⟩
    · exact ⟨a2.trans b2.symm, a3.trans b3.symm⟩
    · exact absurd (nI_in2 b1 b2) a1
    · exact absurd (nI_in2 a1 a2) b1
    · obtain rfl := nI_same a2 b2 (by omega) (by omega)
      exact ⟨a3.trans b3.symm, a4.trans b4.symm⟩
  · refine ZPx h1 (cx_save h1 h2 e) (fun r mu2 ⟨hp, hf⟩ => ⟨hf, ?_⟩)
    rcases hp with ⟨a1, a2, rfl⟩ | ⟨s, a1, a2, a3, a4⟩
    · exact ⟨g, Or.inl ⟨a1, a2, rfl⟩, h2⟩
    · exact ⟨_, Or.inr ⟨s, a1, a2, a3, rfl⟩, a4⟩
  · refine ZPm (cm_save h1 h2 e) (fun r mu2 ⟨hp, hf⟩ => ⟨hf, ?_⟩)
    rcases hp with ⟨a1, a2, rfl⟩ | ⟨s, a1, a2, a3, a4⟩
    · exact ⟨g, Or.inl ⟨a1, a2, rfl⟩, h2⟩
    · exact ⟨_, Or.inr ⟨s, a1, a2, a3, rfl⟩, a4⟩
theorem zp_restore (x : Nat) (e : Int32) : ZP x yX2_restore cX2_restore 2 3 yX3_restore cX3_restore 3 1 [.inl e] := by
  have e01 : ¬ (nI 0 = nI 1) := by decide
  refine ZP_rel (fun g r g2 => (¬ (0 ≤ e ∧ e < nI 2) ∧ r = -1 ∧ g2 = g) ∨ (∃ s, s < 2 ∧ e = nI s ∧ ((g.2.2.2.2.2.2.1 s = nI 0 ∧ r = -2 ∧ g2 = g) ∨ (g.2.2.2.2.2.2.1 s = nI 1 ∧ r = g.2.2.2.2.2.2.2 s 144 ∧ g2 = (g.2.2.2.2.2.2.2 s, g.2.1, g.2.2.1, g.2.2.2.1, 0, g.2.2.2.2.2))))) (fun g r1 r2 g1 g2 hK h1 h2 => ?_) (fun S mu pm g h1 h2 h3 => ?_) (fun S mu g h1 h2 h3 h4 => ?_)
  · rcases h1 with ⟨a1, a2, a3⟩ | ⟨s, a1, a2, a3⟩ <;> rcases h2 with ⟨b1, b2, b3⟩ | ⟨t, b1, b2, b3⟩
    · exact ⟨a2.trans b2.symm, a3.trans b3.symm⟩
    · exact absurd (nI_in2 b1 b2) a1
    · exact absurd (nI_in2 a1 a2) b1
    · obtain rfl := nI_same a2 b2 (by omega) (by omega)
      rcases a3 with ⟨c1, c2, c3⟩ | ⟨c1, c2, c3⟩ <;> rcases b3 with ⟨d1, d2, d3⟩ | ⟨d1, d2, d3⟩
      · exact ⟨c2.trans d2.symm, c3.trans d3.symm⟩
      · exact absurd (c1.symm.trans d1) e01
      · exact absurd (d1.symm.trans c1) e01
      · exact ⟨c2.trans d2.symm, c3.trans d3.symm⟩
  · refine ZPx h1 (cx_restore h1 h2 e) (fun r mu2 ⟨hp, hf⟩ => ⟨hf, ?_⟩)
    rcases hp with ⟨a1, a2, rfl⟩ | ⟨s, a1, a2, ⟨c1, c2, rfl⟩ | ⟨c1, c2, c3⟩⟩
    · exact ⟨g, Or.inl ⟨a1, a2, rfl⟩, h2⟩
    · exact ⟨g, Or.inr ⟨s, a1, a2, Or.inl ⟨c1, c2, rfl⟩⟩, h2⟩
    · exact ⟨_, Or.inr ⟨s, a1, a2, Or.inr ⟨c1, c2, rfl⟩⟩, c3⟩
  · refine ZPm (cm_restore h1 h2 h4.2.2 e) (fun r mu2 ⟨hp, hf⟩ => ⟨hf, ?_⟩)
    rcases hp with ⟨a1, a2, rfl⟩ | ⟨s, a1, a2, ⟨c1, c2, rfl⟩ | ⟨c1, c2, c3⟩⟩
    · exact ⟨g, Or.inl ⟨a1, a2, rfl⟩, h2⟩
    · exact ⟨g, Or.inr ⟨s, a1, a2, Or.inl ⟨c1, c2, rfl⟩⟩, h2⟩
    · exact ⟨_, Or.inr ⟨s, a1, a2, Or.inr ⟨c1, c2, rfl⟩⟩, c3⟩
theorem zp_setBreakpoint (x : Nat) (a c o : Int32) : ZP x yX2_setBreakpoint cX2_setBreakpoint 6 1 yX3_setBreakpoint cX3_setBreakpoint 5 2 [.inl a, .inl c, .inl o] := by
  refine ZP_rel (fun g r g2 => (¬ (∃ cx cy b, cx < 12 ∧ cy < 6 ∧ b < 2 ∧ a = nI cx ∧ c = nI cy ∧ o = nI b) ∧ r = -1 ∧ g2 = g) ∨ ∃ cx cy b, cx < 12 ∧ cy < 6 ∧ b < 2 ∧ a = nI cx ∧ c = nI cy ∧ o = nI b ∧ ((g.2.2.2.1 (12 * cy + cx) = nI b ∧ r = -2 ∧ g2 = g) ∨ (g.2.2.2.1 (12 * cy + cx) ≠ nI b ∧ r = nI (qcnt (upd g.2.2.2.1 (12 * cy + cx) (nI b)) 72) ∧ g2 = (g.1, g.2.1, g.2.2.1, upd g.2.2.2.1 (12 * cy + cx) (nI b), g.2.2.2.2)))) (fun g r1 r2 g1 g2 hK h1 h2 => ?_) (fun S mu pm g h1 h2 h3 => ?_) (fun S mu g h1 h2 h3 h4 => ?_)
  · rcases h1 with ⟨a1, a2, a3⟩ | ⟨cx, cy, cb, a1, a2, a3, a4, a5, a6, a7⟩ <;> rcases h2 with ⟨b1, b2, b3⟩ | ⟨dx, dy, db, b1, b2, b3, b4, b5, b6, b7⟩
    · exact ⟨a2.trans b2.symm, a3.trans b3.symm⟩
    · exact absurd ⟨dx, dy, db, b1, b2, b3, b4, b5, b6⟩ a1
    · exact absurd ⟨cx, cy, cb, a1, a2, a3, a4, a5, a6⟩ b1
    · obtain rfl := nI_same a4 b4 (by omega) (by omega)
      obtain rfl := nI_same a5 b5 (by omega) (by omega)
      obtain rfl := nI_same a6 b6 (by omega) (by omega)
      rcases a7 with ⟨c1, c2, c3⟩ | ⟨c1, c2, c3⟩ <;> rcases b7 with ⟨d1, d2, d3⟩ | ⟨d1, d2, d3⟩
      · exact ⟨c2.trans d2.symm, c3.trans d3.symm⟩
      · exact absurd c1 d1
      · exact absurd d1 c1
      · exact ⟨c2.trans d2.symm, c3.trans d3.symm⟩
  · refine ZPx h1 (cx_setBreakpoint h1 h2 a c o) (fun r mu2 ⟨hp, hf⟩ => ⟨hf, ?_⟩)
    rcases hp with ⟨a1, a2, rfl⟩ | ⟨cx, cy, cb, a1, a2, a3, a4, a5, a6, ⟨c1, c2, rfl⟩ | ⟨c1, c2, c3⟩⟩
    · exact ⟨g, Or.inl ⟨a1, a2, rfl⟩, h2⟩
    · exact ⟨g, Or.inr ⟨cx, cy, cb, a1, a2, a3, a4, a5, a6, Or.inl ⟨c1, c2, rfl⟩⟩, h2⟩
    · exact ⟨_, Or.inr ⟨cx, cy, cb, a1, a2, a3, a4, a5, a6, Or.inr ⟨c1, c2, rfl⟩⟩, c3⟩
  · have hb : ∀ j, j < 72 → mu (x + 215 + 8) j = g.2.2.2.1 j := h2.2.2.1
    refine ZPm (cm_setBreakpoint h1 mu (fun j hj => by rw [hb j hj]; exact h4.2.1 j hj) a c o) (fun r mu2 hp => ?_)
    rcases hp with ⟨a1, a2, rfl⟩ | ⟨cx, cy, cb, a1, a2, a3, a4, a5, a6, ⟨c1, c2, rfl⟩ | ⟨c1, c2, rfl⟩⟩
    · exact ⟨fun _ _ => rfl, g, Or.inl ⟨a1, a2, rfl⟩, h2⟩
    · rw [hb _ (by omega)] at c1
      exact ⟨fun _ _ => rfl, g, Or.inr ⟨cx, cy, cb, a1, a2, a3, a4, a5, a6, Or.inl ⟨c1, c2, rfl⟩⟩, h2⟩
    · rw [hb _ (by omega)] at c1
      have hcg : ∀ j, j < 72 → upd (mu (x + 215 + 8)) (12 * cy + cx) (nI cb) j = upd g.2.2.2.1 (12 * cy + cx) (nI cb) j := fun j hj => by
        by_cases h : j = 12 * cy + cx
        · rw [h, upd_s, upd_s]
        · rw [upd_n h, upd_n h, hb j hj]
      rw [qcnt_congr 72 hcg] at c2
      refine ⟨fun q hq => zup_n (by omega), _, Or.inr ⟨cx, cy, cb, a1, a2, a3, a4, a5, a6, Or.inr ⟨c1, c2, rfl⟩⟩, ?_⟩
      obtain ⟨m1, ⟨m2, m3, m4⟩, m5, ⟨m6, m7, m8⟩, m9⟩ := h2
      have z : ∀ i, i ≠ 8 → zup mu (x + 215 + 8) (12 * cy + cx) (nI cb) (x + 215 + i) = mu (x + 215 + i) := fun i hi => zup_n (by omega)
      have z0 : zup mu (x + 215 + 8) (12 * cy + cx) (nI cb) (x + 215) = mu (x + 215) := zup_n (by omega)
      refine ⟨fun j hj => by rw [z 1 (by omega)]; exact m1 j hj, ⟨by rw [z0]; exact m2, m3, fun j hj => by rw [z 9 (by omega)]; exact m4 j hj⟩, fun j hj => by rw [zup_s]; exact hcg j hj, ⟨by rw [z0]; exact m6, m7, fun i j hi hj => by rw [z 5 (by omega)]; exact m8 i j hi hj⟩, fun q hq => ⟨by rw [z 7 (by omega)]; exact (m9 q hq).1, fun ee j hj => by rw [z 6 (by omega)]; exact (m9 q hq).2 ee j hj⟩⟩
