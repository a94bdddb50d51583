/-! BOTH SIDES HOLD ONE STATE, and a call on each answers alike -/
abbrev zT : Type := (Nat → Int32) × Nat × (Nat → Int32) × (Nat → Int32) × Nat × (Nat → Nat → Int32) × (Nat → Int32) × (Nat → Nat → Int32)
def XRs (mu : zU) (x : Nat) (pm : Nat → Nat) (g : zT) : Prop := XR mu x pm g.1 g.2.1 g.2.2.1 g.2.2.2.1 g.2.2.2.2.1 g.2.2.2.2.2.1 g.2.2.2.2.2.2.1 g.2.2.2.2.2.2.2
def MRs (mu : zU) (m : Nat) (g : zT) : Prop := MR mu m g.1 g.2.1 g.2.2.1 g.2.2.2.1 g.2.2.2.2.1 g.2.2.2.2.2.1 g.2.2.2.2.2.2.1 g.2.2.2.2.2.2.2
def zKg (g : zT) : Prop := (∃ ol, VI g.1 ol) ∧ (∀ j, j < 72 → g.2.2.2.1 j = nI 0 ∨ g.2.2.2.1 j = nI 1) ∧ ∀ q, q < 2 → g.2.2.2.2.2.2.1 q = nI 0 ∨ g.2.2.2.2.2.2.1 q = nI 1
theorem XRs_K {mu : zU} {x : Nat} {pm : Nat → Nat} {g : zT} (h : XRs mu x pm g) : zKg g := by
  obtain ⟨⟨ol, h0⟩, -, ⟨h1, -⟩, -, h2⟩ := h
  exact ⟨⟨ol, h0.1⟩, fun j hj => (h1 j hj).2, fun q hq => (h2 q hq).2.1⟩
def ZI (x : Nat) (S : zS) (mu : zU) : Prop := ∃ (pm : Nat → Nat) (g : zT), XS S x pm ∧ MS S (x + 215) ∧ XRs mu x pm g ∧ MRs mu (x + 215) g
theorem MRs_row {mu mu2 : zU} {m : Nat} {g : zT} (h : MRs mu m g) (h2 : ∀ q, m ≤ q → q < m + 11 → mu2 q = mu q) : MRs (zrow mu2 (m + 1) g.1) m g := by
  obtain ⟨a1, ⟨b1, b2, b3⟩, c1, ⟨d1, d2, d3⟩, e1⟩ := h
  have hz : ∀ i, i < 11 → i ≠ 1 → zrow mu2 (m + 1) g.1 (m + i) = mu (m + i) := fun i hi h1 => by
    rw [zrow_n (by omega)]
    exact h2 _ (by omega) (by omega)
  have h0 : zrow mu2 (m + 1) g.1 m = mu m := hz 0 (by omega) (by omega)
  refine ⟨fun j hj => by rw [zrow_s], ⟨by rw [h0]; exact b1, b2, fun j hj => by rw [hz 9 (by omega) (by omega)]; exact b3 j hj⟩, fun j hj => by rw [hz 8 (by omega) (by omega)]; exact c1 j hj, ⟨by rw [h0]; exact d1, d2, fun i j hi hj => by rw [hz 5 (by omega) (by omega)]; exact d3 i j hi hj⟩, fun q hq => ⟨by rw [hz 7 (by omega) (by omega)]; exact (e1 q hq).1, fun e j hj => by rw [hz 6 (by omega) (by omega)]; exact (e1 q hq).2 e j hj⟩⟩
/-- a call of the class, then the same call of the reference -/
def ZP (x : Nat) (yX : MethodName) (cX : ByteArray) (nX dX : Nat) (yM : MethodName) (cM : ByteArray) (nM dM : Nat) (As : List zV) : Prop :=
  ∀ S mu, ZI x S mu → ∃ P1 : Int32 → zS → zU → Prop, zM yX cX nX (some .int) dX 0 0 (.inr (x + 1) :: As) S mu (zTi S P1) ∧
    ∀ r T mu2, P1 r T mu2 → MS T (x + 215) ∧ ∃ w : Nat → Int32, (∀ j, j < 289 → w j = mu2 (x + 215 + 1) j) ∧ ∃ P2 : Int32 → zS → zU → Prop, zM yM cM nM (some .int) dM 0 0 (.inr (x + 215 + 1) :: As) T (zrow mu2 (x + 215 + 1) w) (zTi T P2) ∧
      ∀ r2 T2 mu3, P2 r2 T2 mu3 → r = r2 ∧ ZI x T2 mu3
theorem ZP_rel2 {x : Nat} {yX : MethodName} {cX : ByteArray} {nX dX : Nat} {yM : MethodName} {cM : ByteArray} {nM dM : Nat} {As : List zV} (Rel Rel2 : zT → Int32 → zT → Prop)
    (hdet : ∀ g r1 r2 g1 g2, zKg g → Rel g r1 g1 → Rel2 g r2 g2 → r1 = r2 ∧ g1 = g2)
    (hx : ∀ S mu pm g, XS S x pm → XRs mu x pm g → zKg g → zM yX cX nX (some .int) dX 0 0 (.inr (x + 1) :: As) S mu (zTi S (fun r T mu2 => XP S T x mu mu2 (fun pm2 => ∃ g2, Rel g r g2 ∧ XRs mu2 x pm2 g2))))
    (hm : ∀ S mu g, MS S (x + 215) → MRs mu (x + 215) g → mu (x + 215 + 1) = g.1 → zKg g → zM yM cM nM (some .int) dM 0 0 (.inr (x + 215 + 1) :: As) S mu (zPi S (fun r mu2 => zfrm mu mu2 (x + 215) ∧ ∃ g2, Rel2 g r g2 ∧ MRs mu2 (x + 215) g2))) : ZP x yX cX nX dX yM cM nM dM As := by
  intro S mu ⟨pm, g, hXS, hMS, hXR, hMR⟩
  have hK := XRs_K hXR
  refine ⟨_, hx S mu pm g hXS hXR hK, fun r T mu2 hP => ?_⟩
  obtain ⟨hXT, hfr, pm2, hXS2, g1, hR1, hXR2⟩ := hP
  have hMS2 : MS T (x + 215) := MS_T hXT (by omega) hMS
  have hMR2 := MRs_row hMR (mu2 := mu2) (fun q h1 h2 => hfr q (by omega))
  refine ⟨hMS2, g.1, fun j hj => ?_, fun r2 T2 mu3 => T2 = T ∧ zfrm (zrow mu2 (x + 215 + 1) g.1) mu3 (x + 215) ∧ ∃ g2, Rel2 g r2 g2 ∧ MRs mu3 (x + 215) g2, (hm T _ g hMS2 hMR2 (zrow_s _ _ _) hK).imp (fun v S2 mu3 ⟨r2, e1, e2, e3⟩ => ⟨r2, e1, by rw [e2], e2, e3⟩), fun r2 T2 mu3 hP2 => ?_⟩
  · rw [hfr _ (by omega)]
    exact (hMR.1 j hj).symm
  · obtain ⟨rfl, hfr3, g2, hR2, hMR3⟩ := hP2
    obtain ⟨e1, e2⟩ := hdet g r r2 g1 g2 hK hR1 hR2
    subst e2
    refine ⟨e1, pm2, g1, hXS2, hMS2, XR_tr hXS2 hXR2 (fun q hq => ?_), hMR3⟩
    rw [hfr3 q (by omega), zrow_n (by omega)]
theorem ZP_rel {x : Nat} {yX : MethodName} {cX : ByteArray} {nX dX : Nat} {yM : MethodName} {cM : ByteArray} {nM dM : Nat} {As : List zV} (Rel : zT → Int32 → zT → Prop)
    (hdet : ∀ g r1 r2 g1 g2, zKg g → Rel g r1 g1 → Rel g r2 g2 → r1 = r2 ∧ g1 = g2)
    (hx : ∀ S mu pm g, XS S x pm → XRs mu x pm g → zKg g → zM yX cX nX (some .int) dX 0 0 (.inr (x + 1) :: As) S mu (zTi S (fun r T mu2 => XP S T x mu mu2 (fun pm2 => ∃ g2, Rel g r g2 ∧ XRs mu2 x pm2 g2))))
    (hm : ∀ S mu g, MS S (x + 215) → MRs mu (x + 215) g → mu (x + 215 + 1) = g.1 → zKg g → zM yM cM nM (some .int) dM 0 0 (.inr (x + 215 + 1) :: As) S mu (zPi S (fun r mu2 => zfrm mu mu2 (x + 215) ∧ ∃ g2, Rel g r g2 ∧ MRs mu2 (x + 215) g2))) : ZP x yX cX nX dX yM cM nM dM As :=
  ZP_rel2 Rel Rel hdet hx hm
/-- a read -/
theorem ZP_rd {x : Nat} {yX : MethodName} {cX : ByteArray} {nX dX : Nat} {yM : MethodName} {cM : ByteArray} {nM dM : Nat} {As : List zV} (F : zT → Int32)
    (hx : ∀ S mu pm g, XS S x pm → XRs mu x pm g → zM yX cX nX (some .int) dX 0 0 (.inr (x + 1) :: As) S mu (zPi S (fun r mu2 => mu2 = mu ∧ r = F g)))
    (hm : ∀ S mu g, MS S (x + 215) → MRs mu (x + 215) g → mu (x + 215 + 1) = g.1 → zKg g → zM yM cM nM (some .int) dM 0 0 (.inr (x + 215 + 1) :: As) S mu (zPi S (fun r mu2 => mu2 = mu ∧ r = F g))) : ZP x yX cX nX dX yM cM nM dM As := by
  refine ZP_rel (fun g r g2 => r = F g ∧ g2 = g) (fun g r1 r2 g1 g2 _ h1 h2 => ⟨h1.1.trans h2.1.symm, h1.2.trans h2.2.symm⟩) (fun S mu pm g h1 h2 h3 => (hx S mu pm g h1 h2).imp (fun v S2 mu2 ⟨r, e1, e2, e3, e4⟩ => ?_)) (fun S mu g h1 h2 h3 h4 => (hm S mu g h1 h2 h3 h4).imp (fun v S2 mu2 ⟨r, e1, e2, e3, e4⟩ => ?_))
  · subst e2; subst e3
    exact ⟨r, e1, rfl, XT.rf _ _, zfr.rf _ _ _, pm, h1, g, ⟨e4, rfl⟩, h2⟩
  · subst e2; subst e3
    exact ⟨r, e1, rfl, fun _ _ => rfl, g, ⟨e4, rfl⟩, h2⟩
/-- a call of the class that leaves the shape -/
theorem ZPx {x : Nat} {y : MethodName} {cc : ByteArray} {n d : Nat} {as : List zV} {S : zS} {mu : zU} {pm : Nat → Nat} {Rel : Int32 → zT → Prop} {post : Int32 → zU → Prop} (hS : XS S x pm) (h : zM y cc n (some .int) d 0 0 as S mu (zPi S post)) (hp : ∀ r mu2, post r mu2 → zfr mu mu2 x 215 ∧ ∃ g2, Rel r g2 ∧ XRs mu2 x pm g2) : zM y cc n (some .int) d 0 0 as S mu (zTi S (fun r T mu2 => XP S T x mu mu2 (fun pm2 => ∃ g2, Rel r g2 ∧ XRs mu2 x pm2 g2))) :=
  h.imp (fun v S2 mu2 ⟨r, e1, e2, e3⟩ => by
    subst e2
    obtain ⟨h1, h2⟩ := hp r mu2 e3
    exact ⟨r, e1, rfl, XT.rf _ _, h1, pm, hS, h2⟩)
theorem ZPt {x : Nat} {y : MethodName} {cc : ByteArray} {n d : Nat} {as : List zV} {S : zS} {mu : zU} {Rel : Int32 → zT → Prop} {F : Int32 → zU → (Nat → Nat) → Prop} (h : zM y cc n (some .int) d 0 0 as S mu (zTi S (fun r T mu2 => XP S T x mu mu2 (fun pm2 => F r mu2 pm2)))) (hp : ∀ r mu2 pm2, F r mu2 pm2 → ∃ g2, Rel r g2 ∧ XRs mu2 x pm2 g2) : zM y cc n (some .int) d 0 0 as S mu (zTi S (fun r T mu2 => XP S T x mu mu2 (fun pm2 => ∃ g2, Rel r g2 ∧ XRs mu2 x pm2 g2))) :=
  h.imp (fun v S2 mu2 ⟨r, e1, e2, e3, e4, pm2, e5, e6⟩ => ⟨r, e1, e2, e3, e4, pm2, e5, hp r mu2 pm2 e6⟩)
theorem ZPm {y : MethodName} {cc : ByteArray} {n d m : Nat} {as : List zV} {S : zS} {mu : zU} {Rel : Int32 → zT → Prop} {post : Int32 → zU → Prop} (h : zM y cc n (some .int) d 0 0 as S mu (zPi S post)) (hp : ∀ r mu2, post r mu2 → zfrm mu mu2 m ∧ ∃ g2, Rel r g2 ∧ MRs mu2 m g2) : zM y cc n (some .int) d 0 0 as S mu (zPi S (fun r mu2 => zfrm mu mu2 m ∧ ∃ g2, Rel r g2 ∧ MRs mu2 m g2)) :=
  h.imp (fun v S2 mu2 ⟨r, e1, e2, e3⟩ => ⟨r, e1, e2, hp r mu2 e3⟩)
