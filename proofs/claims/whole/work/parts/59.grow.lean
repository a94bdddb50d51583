/-! THE WORLD GROWS -/
def zwf (S : zS) : Prop := ∀ i j, i < S.1 → S.2.2 i j ≤ S.1
def zgr (S : zS) (e : Nat × Nat) : zS := (S.1 + 1, fun q => if q = S.1 then e else S.2.1 q, fun q => if q = S.1 then fun _ => 0 else S.2.2 q)
def zad (ad : Nat → Nat) (n q : Nat) : Nat → Nat := fun i => if i = n then q else ad i
theorem zwf_gr {S : zS} (h : zwf S) (e : Nat × Nat) : zwf (zgr S e) := by
  intro i j hi
  show (if i = S.1 then fun _ => 0 else S.2.2 i) j ≤ S.1 + 1
  split
  · exact Nat.zero_le _
  · have h1 : i < S.1 + 1 := hi
    have := h i j (by omega)
    omega
theorem zr_ad {ad : Nat → Nat} {n q r : Nat} (h : r ≤ n) : zr (zad ad n q) (.inr r) = zr ad (.inr r) := by
  cases r with
  | zero => rfl
  | succ r =>
    have e : zad ad n q r = ad r := by rw [zad, if_neg (by omega)]
    simp only [zr, e]
theorem zo_ad {ad : Nat → Nat} {n q r : Nat} (h : r ≤ n) : zo (zad ad n q) r = zo ad r := by
  cases r with
  | zero => rfl
  | succ r =>
    have e : zad ad n q r = ad r := by rw [zad, if_neg (by omega)]
    simp only [zo, e]
