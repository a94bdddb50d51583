/-! THE CONSTRUCTORS: a chain of new arrays, each put into a field of the object k -/
theorem zok_nil (S : zS) : zok S [] := fun _ h => absurd h List.not_mem_nil
theorem zok_n {S : zS} {t : List (Option zV)} (h : zok S t) : zok S (none :: t) := fun v hv q e => by
  rcases List.mem_cons.mp hv with rfl | hv
  · cases e
  · exact h v hv q e
theorem zok_i {S : zS} {x : Int32} {t : List (Option zV)} (h : zok S t) : zok S (some (.inl x) :: t) := fun v hv q e => by
  rcases List.mem_cons.mp hv with rfl | hv
  · cases e
  · exact h v hv q e
theorem zok_r {S : zS} {k : Nat} {t : List (Option zV)} (hk : k < S.1) (h : zok S t) : zok S (some (.inr (k + 1)) :: t) := fun v hv q e => by
  rcases List.mem_cons.mp hv with rfl | hv
  · cases e; exact hk
  · exact h v hv q e
def zCN (S0 : zS) (mu0 : zU) (k : Nat) (ks : List (Nat × Nat × Nat)) (S : zS) (mu : zU) : Prop :=
  S.1 = S0.1 + ks.length ∧ zwf S ∧ k < S0.1 ∧ (∀ q, q < S0.1 → S.2.1 q = S0.2.1 q) ∧ (∀ q, q < S0.1 → q ≠ k → S.2.2 q = S0.2.2 q) ∧ (∀ q, q < S0.1 → mu q = mu0 q) ∧ (∀ i, i < ks.length → mu (S0.1 + i) = fun _ => nI 0) ∧ ∀ (i j : Nat) (e : Nat × Nat), ks[i]? = some (j, e) → S.2.1 (S0.1 + i) = e ∧ S.2.2 k j = S0.1 + i + 1
theorem zCN_nil {S : zS} {mu : zU} {k : Nat} (hw : zwf S) (hk : k < S.1) : zCN S mu k [] S mu := ⟨rfl, hw, hk, fun _ _ => rfl, fun _ _ _ => rfl, fun _ _ => rfl, fun i h => absurd h (Nat.not_lt_zero i), fun i j e h => by simp at h⟩
theorem zCN.lt {S0 S : zS} {mu0 mu : zU} {k : Nat} {ks : List (Nat × Nat × Nat)} (h : zCN S0 mu0 k ks S mu) : k < S.1 := by
  have := h.1
  have := h.2.2.1
  omega
theorem zwf_put {S : zS} {k j r : Nat} (h : zwf S) (hr : r ≤ S.1) : zwf (S.1, S.2.1, zur S.2.2 k j r) := by
  intro a c ha
  have h1 := h a c ha
  show zur S.2.2 k j r a c ≤ S.1
  rw [zur]
  split
  · show (if c = j then r else S.2.2 a c) ≤ S.1
    split
    · exact hr
    · exact h1
  · exact h1
theorem zCN_step {S0 S : zS} {mu0 mu : zU} {k j : Nat} {ks : List (Nat × Nat × Nat)} {e : Nat × Nat} (h : zCN S0 mu0 k ks S mu) (hj : ∀ t ∈ ks, t.1 ≠ j) : zCN S0 mu0 k (ks ++ [(j, e)]) ((zgr S e).1, (zgr S e).2.1, zur (zgr S e).2.2 k j (S.1 + 1)) (zrow mu S.1 (fun _ => nI 0)) := by
  obtain ⟨h1, h2, h3, h4, h5, h6, h7, h8⟩ := h
  have hlen : (ks ++ [(j, e)]).length = ks.length + 1 := by simp
  refine ⟨?_, zwf_put (zwf_gr h2 e) (Nat.le_refl _), h3, fun q hq => ?_, fun q hq hk => ?_, fun q hq => ?_, fun i hi => ?_, fun i j2 e2 hi => ?_⟩
  · show S.1 + 1 = _
    rw [hlen]; omega
  · show (if q = S.1 then e else S.2.1 q) = _
    rw [if_neg (by omega)]; exact h4 q hq
  · show zur (zgr S e).2.2 k j (S.1 + 1) q = _
    rw [zur, if_neg hk]
    show (if q = S.1 then fun _ => 0 else S.2.2 q) = _
    rw [if_neg (by omega)]; exact h5 q hq hk
  · rw [zrow_n (by omega)]; exact h6 q hq
  · rw [hlen] at hi
    by_cases hi2 : i < ks.length
    · rw [zrow_n (by omega)]; exact h7 i hi2
    · rw [show S0.1 + i = S.1 by omega]; exact zrow_s _ _ _
  · show (if S0.1 + i = S.1 then e else S.2.1 (S0.1 + i)) = e2 ∧ zur (zgr S e).2.2 k j (S.1 + 1) k j2 = S0.1 + i + 1
    rw [zur, if_pos rfl]
    show _ ∧ (if j2 = j then S.1 + 1 else (if k = S.1 then fun _ => 0 else S.2.2 k) j2) = S0.1 + i + 1
    rw [if_neg (show ¬ k = S.1 by omega)]
    by_cases hi2 : i < ks.length
    · rw [List.getElem?_append_left hi2] at hi
      rw [if_neg (show ¬ S0.1 + i = S.1 by omega), if_neg (hj _ (List.mem_of_getElem? hi))]
      exact h8 i j2 e2 hi
    · have hi3 := (List.getElem?_eq_some_iff.mp hi).1
      rw [hlen] at hi3
      obtain rfl : i = ks.length := by omega
      rw [List.getElem?_append_right (Nat.le_refl _), Nat.sub_self] at hi
      cases hi
      rw [if_pos h1.symm, if_pos rfl]
      exact ⟨rfl, by omega⟩
section ZMK
variable {own nm : String} {cc : ByteArray} {nL : Nat} {ret : Option FieldType} {R : Room} {mc ms : Nat} {Ph : Option zV → zS → zU → Prop} {pc : Nat} {L : List (Option zV)} {st : List zV} {S : zS} {mu : zU} {cells slots : Nat}
theorem zg_mk {S0 : zS} {mu0 : zU} {ks : List (Nat × Nat × Nat)} {e : Nat × Nat} {ix j ci k : Nat} (hC : zCN S0 mu0 k ks S mu) (hd : decode cc pc = .ok (.putfield ix, 3)) (hf : zfl own ix ci j) (hj : j ∈ zrefs ci) (hk : S0.2.1 k = (0, ci)) (hi : nm = "<init>") (hown : vwCl[ci]?.map (fun q => q.1) = some own) (hjn : ∀ t ∈ ks, t.1 ≠ j)
    (kk : ∀ S2 mu2, zCN S0 mu0 k (ks ++ [(j, e)]) S2 mu2 → zG own nm cc nL ret R mc ms Ph (pc + 3) L st S2 mu2 cells slots) : zG own nm cc nL ret R mc ms Ph pc L (.inr (S.1 + 1) :: .inr (k + 1) :: st) (zgr S e) (zrow mu S.1 (fun _ => nI 0)) cells slots := by
  have hlt := hC.lt
  have h4 := hC.2.2.2.1 k hC.2.2.1
  refine zg_putR hd hf hj ?_ ?_ hi hown (kk _ _ (zCN_step hC hjn))
  · show (if k = S.1 then e else S.2.1 k) = _
    rw [if_neg (by omega), h4]; exact hk
  · show k < S.1 + 1
    omega
end ZMK
/-- what a constructor leaves: old places are as they were, but for the object k itself -/
def zEx (S T : zS) (mu mu2 : zU) (k : Nat) : Prop := zwf T ∧ S.1 ≤ T.1 ∧ (∀ q, q < S.1 → T.2.1 q = S.2.1 q) ∧ ∀ q, q < S.1 → q ≠ k → T.2.2 q = S.2.2 q ∧ mu2 q = mu q
/-- a fresh pointer -/
def PFr (mu : zU) (k : Nat) : Prop := (∀ j, j < 9 → mu k j = if j = 8 then nI 1 else nI 0) ∧ (mu (k + 1) = fun _ => nI 0) ∧ mu (k + 2) = fun _ => nI 0
set_option maxRecDepth 20000 in
theorem cx_X0_init {S : zS} {k : Nat} {mu : zU} (hw : zwf S) (hN : S.1 = k + 1) (hk : S.2.1 k = (0, 0)) (hm : mu k = fun _ => nI 0) : zM yX0_init cX0_init 1 none 1 2 19 [.inr (k + 1)] S mu (fun v T mu2 => v = none ∧ T.1 = k + 3 ∧ zEx S T mu mu2 k ∧ PS T k ∧ PFr mu2 k) := by
  refine zM.ofG (by decide +kernel) (Nat.le_of_ble_eq_true rfl) ?_
  show zG RX0 "<init>" cX0_init 1 none (zroom 1 2 19) 2 19 _ 0 [some (.inr (k + 1))] [] S mu 0 0
  have hC := zCN_nil (mu := mu) hw (show k < S.1 by omega)
  refine zg_aload_n (i := 0) dX0_init_0 rfl rfl ?_
  refine zg_obj dX0_init_1 mlX0_3 (by decide) ⟨by decide, by decide⟩ ?_
  refine zg_aload_n (i := 0) dX0_init_4 rfl rfl ?_
  refine zg_bipush (v := nI 16) dX0_init_5 (by decide) ?_
  refine zg_newi dX0_init_7 (by decide) hC.2.1 (zok_r hC.lt (zok_nil _)) (zok_r hC.lt (zok_nil _)) (by decide) (by decide) ?_
  refine zg_mk hC dX0_init_9 flX0_9 (by decide) hk rfl rfl (by decide) (fun S mu hC => ?_)
  refine zg_aload_n (i := 0) dX0_init_12 rfl rfl ?_
  refine zg_iconst (v := nI 3) dX0_init_13 (by decide) ?_
  refine zg_newi dX0_init_14 (by decide) hC.2.1 (zok_r hC.lt (zok_nil _)) (zok_r hC.lt (zok_nil _)) (by decide) (by decide) ?_
  refine zg_mk hC dX0_init_16 flX0_15 (by decide) hk rfl rfl (by decide) (fun S mu hC => ?_)
  obtain ⟨h1, h2, h3, h4, h5, h6, h7, h8⟩ := id hC
  have h1 : S.1 = k + 3 := by rw [h1, hN]; rfl
  have hk2 : S.2.1 k = (0, 0) := (h4 k h3).trans hk
  have hN2 : k < S.1 := hC.lt
  refine zg_aload_n (i := 0) dX0_init_19 rfl rfl ?_
  refine zg_iconst (v := nI 1) dX0_init_20 (by decide) ?_
  refine zg_putI dX0_init_21 flX0_18 (by decide) (by assumption) (by assumption) ?_
  refine zg_vret dX0_init_24 rfl ⟨rfl, h1, ⟨h2, by omega, h4, fun q hq hqk => ⟨h5 q hq hqk, ?_⟩⟩, ?_, ?_⟩
  · rw [zup_n hqk]; exact h6 q hq
  · have a0 := h8 0 5 (1, 16) rfl
    have a1 := h8 1 7 (1, 3) rfl
    rw [hN] at a0 a1
    exact ⟨by omega, hk2, a0.1, a1.1, a0.2, a1.2⟩
  · have a0 := h7 0 (by decide)
    have a1 := h7 1 (by decide)
    rw [hN] at a0 a1
    refine ⟨fun j hj => ?_, ?_, ?_⟩
    · rw [zup_s]
      by_cases h : j = 8
      · rw [if_pos h, h, upd_s]
      · rw [if_neg h, upd_n h, h6 k h3, hm]
    · rw [zup_n (by omega)]; exact a0
    · rw [zup_n (by omega)]; exact a1
