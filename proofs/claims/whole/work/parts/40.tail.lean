/-! what an array's row says beyond its length counts for nothing -/
theorem zD_tail {cs : zC} {ad : Nat → Nat} {S : zS} {mu mu2 : zU} {A : Nat → Prop} (h : va_D A (zws cs ad S mu)) : va_D A (zws cs ad S mu2) := by
  have hg : ∀ (i : Nat) (q : Nat × va_E), (zws cs ad S mu2)[i]? = some q → q.1 = ad i ∧ i < S.1 := by
    intro i q hq
    by_cases hi : i < S.1
    · rw [zws_get cs ad S mu2 hi] at hq
      exact ⟨by rw [← Option.some.inj hq], hi⟩
    · simp [zws, hi] at hq
  refine ⟨fun i j q w h1 h2 h3 => ?_, fun i q h1 => ?_⟩
  · obtain ⟨a1, a2⟩ := hg i q h1
    obtain ⟨b1, b2⟩ := hg j w h2
    exact h.1 i j _ _ (zws_get cs ad S mu a2) (zws_get cs ad S mu b2) (by rw [← a1, ← b1]; exact h3)
  · obtain ⟨a1, a2⟩ := hg i q h1
    rw [a1]
    exact h.2 i _ (zws_get cs ad S mu a2)
theorem zP_tail {cs : zC} {ad : Nat → Nat} {S : zS} {mu : zU} {D : va_G} {H : Heap} {k n : Nat} {f : Nat → Int32} (hk : S.2.1 k = (1, n)) (hf : ∀ j, j < n → f j = mu k j) (h : va_P D vwCl (zws cs ad S mu) H) : va_P D vwCl (zws cs ad S (zrow mu k f)) H := by
  intro i q hq
  by_cases hi : i < S.1
  · rw [zws_get cs ad S _ hi] at hq
    have h0 := h i _ (zws_get cs ad S mu hi)
    rw [← Option.some.inj hq]
    by_cases hik : i = k
    · rw [hik] at h0 ⊢
      rw [zent_i hk] at h0 ⊢
      rw [zrow_s]
      have e : arrV cs.1 n (fun j => .int (f j)) = arrV cs.1 n (fun j => .int (mu k j)) := by
        have : (Array.ofFn (n := n) fun j => Value.int (f j.val)) = Array.ofFn (n := n) fun j => Value.int (mu k j.val) := by
          congr 1
          funext j
          rw [hf j.1 j.2]
        rw [arrV, arrV, this]
      show H[ad k]? = some (vp_cell cs.1 (n, .inl f))
      rw [vp_cell_i, e]
      exact h0
    · rw [zent_q (zrow_n hik)]
      exact h0
  · simp [zws, hi] at hq
section TL
variable {own nm : String} {cc : ByteArray} {nL : Nat} {ret : Option FieldType} {R : Room} {mc ms : Nat} {Ph : Option zV → zS → zU → Prop} {pc : Nat} {L : List (Option zV)} {st : List zV} {S : zS} {mu : zU} {cells slots : Nat}
theorem zg_tail {k n : Nat} {f : Nat → Int32} (hk : S.2.1 k = (1, n)) (hf : ∀ j, j < n → f j = mu k j) (kk : zG own nm cc nL ret R mc ms Ph pc L st S (zrow mu k f) cells slots) : zG own nm cc nL ret R mc ms Ph pc L st S mu cells slots := fun l p e s m args below meth c D cs ad0 N0 A h ad H locs ls ho hw hl => kk l p e s m args below meth c D cs ad0 N0 A h ad H locs ls ho ⟨zP_tail hk hf hw.1, zD_tail hw.2.1, hw.2.2⟩ hl
end TL
