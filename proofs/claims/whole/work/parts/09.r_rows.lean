/-! reads and writes where one row stands by itself -/
section ZR
variable {own nm : String} {cc : ByteArray} {nL : Nat} {ret : Option FieldType} {R : Room} {mc ms : Nat} {Ph : Option zV → zS → zU → Prop} {pc : Nat} {L : List (Option zV)} {st : List zV} {S : zS} {mu : zU} {cells slots : Nat}
theorem zup_row (mu : zU) (k : Nat) (v : Nat → Int32) (j : Nat) (x : Int32) : zup (zrow mu k v) k j x = zrow mu k (upd v j x) := by
  funext q
  by_cases h : q = k
  · subst h; simp [zup, zrow]
  · simp [zup, zrow, h]
theorem zrow_row (mu : zU) (k : Nat) (v w : Nat → Int32) : zrow (zrow mu k v) k w = zrow mu k w := by
  funext q
  by_cases h : q = k
  · subst h; simp [zrow]
  · simp [zrow, h]
theorem zrow_self (mu : zU) (k : Nat) : zrow mu k (mu k) = mu := by
  funext q
  by_cases h : q = k
  · subst h; simp [zrow]
  · simp [zrow, h]
theorem zg_ialdR {k n j : Nat} {i : Int32} {v : Nat → Int32} (hd : decode cc pc = .ok (.iaload, 1)) (hk : S.2.1 k = (1, n)) (hN : k < S.1) (hi : i = nI j) (hj : j < n) (hn : n < 2 ^ 31) (kk : zG own nm cc nL ret R mc ms Ph (pc + 1) L (.inl (v j) :: st) S (zrow mu k v) cells slots) : zG own nm cc nL ret R mc ms Ph pc L (.inl i :: .inr (k + 1) :: st) S (zrow mu k v) cells slots :=
  zg_iald hd hk hN hi hj hn (by rw [zrow_s]; exact kk)
theorem zg_iastR {k n j : Nat} {i x : Int32} {v : Nat → Int32} (hd : decode cc pc = .ok (.iastore, 1)) (hk : S.2.1 k = (1, n)) (hN : k < S.1) (hi : i = nI j) (hj : j < n) (hn : n < 2 ^ 31) (kk : zG own nm cc nL ret R mc ms Ph (pc + 1) L st S (zrow mu k (upd v j x)) cells slots) : zG own nm cc nL ret R mc ms Ph pc L (.inl x :: .inl i :: .inr (k + 1) :: st) S (zrow mu k v) cells slots :=
  zg_iast hd hk hN hi hj hn (by rw [zup_row]; exact kk)
theorem zg_getIR {ix ci j k k2 : Nat} {v : Nat → Int32} (hd : decode cc pc = .ok (.getfield ix, 3)) (hf : zfl own ix ci j) (hj : j ∉ zrefs ci) (hk : S.2.1 k = (0, ci)) (hN : k < S.1) (hne : k ≠ k2) (kk : zG own nm cc nL ret R mc ms Ph (pc + 3) L (.inl (mu k j) :: st) S (zrow mu k2 v) cells slots) : zG own nm cc nL ret R mc ms Ph pc L (.inr (k + 1) :: st) S (zrow mu k2 v) cells slots :=
  zg_getI hd hf hj hk hN (by rw [zrow_n hne]; exact kk)
end ZR
