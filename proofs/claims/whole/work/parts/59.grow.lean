/-! THE WORLD GROWS -/
def zwf (S : zS) : Prop := ∀ i j, i < S.1 → S.2.2 i j ≤ S.1
def zgr (S : zS) (e : Nat × Nat) : zS := (S.1 + 1, fun q => if q = S.1 then e else S.2.1 q, fun q => if q = S.1 then fun _ => 0 else S.2.2 q)
def zad (ad : Nat → Nat) (n q : Nat) : Nat → Nat := fun i => if i = n then q else ad i
theorem zwf_gr {S : zS} (h : zwf S) (e : Nat × Nat) : zwf (zgr S e) := by
  intro i j hi
  show (if i = S.1 then fun _ => 0 else S.2.2 i) j ≤ S.1 + 1
  split
  · exact Nat.zero_le _
  · have h1 : i < S.1 + 1 := hi
    have := h i j (by omega)
    omega
theorem zr_ad {ad : Nat → Nat} {n q r : Nat} (h : r ≤ n) : zr (zad ad n q) (.inr r) = zr ad (.inr r) := by
  cases r with
  | zero => rfl
  | succ r =>
    have e : zad ad n q r = ad r := by rw [zad, if_neg (by omega)]
    simp only [zr, e]
theorem zo_ad {ad : Nat → Nat} {n q r : Nat} (h : r ≤ n) : zo (zad ad n q) r = zo ad r := by
  cases r with
  | zero => rfl
  | succ r =>
    have e : zad ad n q r = ad r := by rw [zad, if_neg (by omega)]
    simp only [zo, e]
theorem zent_gr {cs : zC} {ad : Nat → Nat} {S : zS} {mu : zU} {q i : Nat} {e : Nat × Nat} (hw : zwf S) (hi : i < S.1) : zent cs (zad ad S.1 q) (zgr S e) (zrow mu S.1 (fun _ => nI 0)) i = zent cs ad S mu i := by
  have e1 : (zgr S e).2.1 i = S.2.1 i := by show (if i = S.1 then e else S.2.1 i) = _; rw [if_neg (by omega)]
  have e2 : (zgr S e).2.2 i = S.2.2 i := by show (if i = S.1 then fun _ => 0 else S.2.2 i) = _; rw [if_neg (by omega)]
  have e3 : zrow mu S.1 (fun _ => nI 0) i = mu i := zrow_n (by omega)
  have e4 : ∀ ci, zfs (zad ad S.1 q) (S.2.2 i) (mu i) ci = zfs ad (S.2.2 i) (mu i) ci := fun ci => by
    rw [zfs, zfs]
    congr 1
    funext j
    rw [zfv, zfv, zr_ad (hw i j hi)]
  have e5 : (fun j => zo (zad ad S.1 q) (S.2.2 i j)) = fun j => zo ad (S.2.2 i j) := by
    funext j
    exact zo_ad (hw i j hi)
  unfold zent
  rw [e1, e2, e3]
  simp only [e4, e5]
theorem zws_gr {cs : zC} {ad : Nat → Nat} {S : zS} {mu : zU} {q : Nat} {e : Nat × Nat} (hw : zwf S) : zws cs (zad ad S.1 q) (zgr S e) (zrow mu S.1 (fun _ => nI 0)) = zws cs ad S mu ++ [(q, zent cs (zad ad S.1 q) (zgr S e) (zrow mu S.1 (fun _ => nI 0)) S.1)] := by
  have h1 : zws cs (zad ad S.1 q) (zgr S e) (zrow mu S.1 (fun _ => nI 0)) = (List.range (S.1 + 1)).map (fun i => (zad ad S.1 q i, zent cs (zad ad S.1 q) (zgr S e) (zrow mu S.1 (fun _ => nI 0)) i)) := rfl
  rw [h1, List.range_succ, List.map_append, List.map_cons, List.map_nil]
  congr 1
  · rw [zws]
    refine List.map_congr_left (fun i hi => ?_)
    have hi2 : i < S.1 := List.mem_range.mp hi
    rw [zent_gr hw hi2, zad, if_neg (by omega)]
  · rw [zad, if_pos rfl]
