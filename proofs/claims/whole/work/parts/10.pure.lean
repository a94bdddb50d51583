/-! WHAT THE MACHINE DOES, over one row of 289 ints (program 0.., grid 72.., ticks 144, pointers 145, order 146.., pointer p at 150 + 25 p, input 250.., output 267.., total 288) -/
def zn (v : Nat → Int32) (i : Nat) : Nat := (v i).toNatClampNeg
theorem zn_of {v : Nat → Int32} {i a : Nat} (h : v i = nI a) (ha : a < 2 ^ 31) : zn v i = a := by rw [zn, h, nI_clamp ha]
theorem upd_s (f : Nat → Int32) (k : Nat) (x : Int32) : upd f k x k = x := by simp [upd]
theorem upd_n {f : Nat → Int32} {k j : Nat} {x : Int32} (h : j ≠ k) : upd f k x j = f j := by simp [upd, h]
def qheld (v : Nat → Int32) (o : Nat) : Nat := zn v (o + 6) + zn v (o + 7) + zn v (o + 8)
def qcur (v : Nat → Int32) (o : Nat) : Nat := o + 5 + zn v (o + 5)
def qpopR (v : Nat → Int32) (o : Nat) : Int32 := if v (qcur v o) = 0 then 0 else v (o + 8 + qheld v o)
def qpop (v : Nat → Int32) (o : Nat) : Nat → Int32 := if v (qcur v o) = 0 then v else upd (upd v (o + 8 + qheld v o) 0) (qcur v o) (v (qcur v o) - 1)
def qpush (v : Nat → Int32) (o : Nat) (x : Int32) : Nat → Int32 := if qheld v o = 16 then upd v (o + 3) (nI 2) else upd (upd v (o + 9 + qheld v o) x) (qcur v o) (v (qcur v o) + 1)
def qdx (d : Nat) : Nat := if d = 0 then 1 else if d = 2 then 11 else 0
def qdy (d : Nat) : Nat := if d = 1 then 1 else if d = 3 then 5 else 0
def qmove (v : Nat → Int32) (o : Nat) : Nat → Int32 := upd (upd v o (nI ((zn v o + qdx (zn v (o + 2))) % 12))) (o + 1) (nI ((zn v (o + 1) + qdy (zn v (o + 2))) % 6))
def qturn (v : Nat → Int32) (o n : Nat) : Nat → Int32 := upd v (o + 2) (nI ((zn v (o + 2) + n) % 4))
def qclamp (x : Int32) (n : Nat) : Nat := if x < 0 then 0 else if nI n < x then n else x.toNatClampNeg
def qopen2 (w : Nat → Int32) (o c k : Nat) : Nat → Int32 := upd (upd (upd w c (nI (zn w c - k))) (c + 1) (nI k)) (o + 5) (nI (zn w (o + 5) + 1))
def qopen1 (w : Nat → Int32) (o : Nat) (n : Int32) : Nat → Int32 := if zn w (o + 5) = 3 then w else qopen2 w o (qcur w o) (qclamp n (zn w (qcur w o)))
def qopen (v : Nat → Int32) (o : Nat) : Nat → Int32 := qopen1 (qpop v o) o (qpopR v o)
/-- of the values before e the last k go down by l, and the l before e become 0 -/
def qshift (w : Nat → Int32) (e k l : Nat) : Nat → Int32 := fun j => if e - k - l ≤ j ∧ j < e - l then w (j + l) else if e - l ≤ j ∧ j < e then 0 else w j
def qclose2 (w : Nat → Int32) (o c k : Nat) : Nat → Int32 := upd (upd (upd (qshift w (o + 9 + qheld w o) k (zn w c - k)) c 0) (c - 1) (nI (zn w (c - 1) + k))) (o + 5) (nI (zn w (o + 5) - 1))
def qclose1 (w : Nat → Int32) (o : Nat) (n : Int32) : Nat → Int32 := qclose2 w o (qcur w o) (qclamp n (zn w (qcur w o)))
def qclose (v : Nat → Int32) (o : Nat) : Nat → Int32 := if zn v (o + 5) = 1 then qturn v o 2 else qclose1 (qpop v o) o (qpopR v o)
def qout1 (v : Nat → Int32) : Nat → Int32 := if zn v 267 = 20 then (fun j => if 268 ≤ j ∧ j < 287 then v (j + 1) else if j = 267 then nI 19 else v j) else v
def qout2 (w : Nat → Int32) (x : Int32) : Nat → Int32 := upd (upd (upd w 267 (nI (zn w 267 + 1))) (268 + zn w 267) x) 288 (w 288 + 1)
def qout (v : Nat → Int32) (x : Int32) : Nat → Int32 := qout2 (qout1 v) x
def qinV (v : Nat → Int32) (n : Nat) : Nat → Int32 := fun j => if 251 ≤ j ∧ j < 250 + n then v (j + 1) else if j = 250 + n then 0 else if j = 250 then nI (n - 1) else v j
def qin (v : Nat → Int32) (o : Nat) : Nat → Int32 := if zn v 250 = 0 then qturn v o 2 else qpush (qinV v (zn v 250)) o (v 251)
def qplace (v : Nat → Int32) (p : Nat) : Nat → Nat
  | 0 => 0
  | n + 1 => if v (146 + n) = nI p then n + 1 else qplace v p n
def qcopy (v : Nat → Int32) (a b : Nat) : Nat → Int32 := fun j => if b ≤ j ∧ j < b + 25 then v (j - b + a) else v j
def qborn (v : Nat → Int32) (o b : Nat) : Nat → Int32 := qmove (qturn (upd (upd (qcopy v o b) (b + 3) (nI 0)) (b + 4) (nI 0)) b 2) b
def qins (w : Nat → Int32) (c t : Nat) : Nat → Int32 := fun j => if 146 + t < j ∧ j ≤ 146 + c then w (j - 1) else if j = 146 + t then nI c else w j
def qsplit2 (v : Nat → Int32) (p c : Nat) : Nat → Int32 := upd (qins (qborn v (150 + 25 * p) (150 + 25 * c)) c (qplace v p c)) 145 (nI (c + 1))
def qsplit (v : Nat → Int32) (p : Nat) : Nat → Int32 := if zn v 145 = 4 then v else qsplit2 v p (zn v 145)
def qmod (x : Int32) (n : Nat) : Nat := (x.toInt % (n : Int)).toNat
def qcell (x y : Int32) : Nat := 72 + 12 * qmod y 6 + qmod x 12
def qstore3 (v : Nat → Int32) (x y a : Int32) : Nat → Int32 := if nI 32 ≤ a ∧ a ≤ nI 126 then upd v (qcell x y) a else v
def qstore (v : Nat → Int32) (o : Nat) : Nat → Int32 := qstore3 (qpop (qpop (qpop v o) o) o) (qpopR (qpop v o) o) (qpopR v o) (qpopR (qpop (qpop v o) o) o)
def qfetch (v : Nat → Int32) (o : Nat) : Nat → Int32 := qpush (qpop (qpop v o) o) o (qpop (qpop v o) o (qcell (qpopR (qpop v o) o) (qpopR v o)))
def qpush2 (v : Nat → Int32) (o : Nat) (x y : Int32) : Nat → Int32 := if qpush v o x (o + 3) = 0 then qpush (qpush v o x) o y else qpush v o x
def qdup (v : Nat → Int32) (o : Nat) : Nat → Int32 := qpush2 (qpop v o) o (qpopR v o) (qpopR v o)
def qswap (v : Nat → Int32) (o : Nat) : Nat → Int32 := qpush2 (qpop (qpop v o) o) o (qpopR v o) (qpopR (qpop v o) o)
def qop (c a b : Int32) : Int32 := if c = nI 43 then a + b else if c = nI 45 then a - b else if c = nI 42 then a * b else if c = nI 47 then (if b = 0 then nI 0 else a / b) else if c = nI 37 then (if b = 0 then nI 0 else a - a / b * b) else (if b < a then nI 1 else nI 0)
def qbin (v : Nat → Int32) (o : Nat) (c : Int32) : Nat → Int32 := qpush (qpop (qpop v o) o) o (qop c (qpopR (qpop v o) o) (qpopR v o))
def qb (c : Prop) [Decidable c] (x y : Nat) : Int32 := if c then nI x else nI y
def qsteer (v : Nat → Int32) (o : Nat) (c : Int32) : Nat → Int32 :=
  if c = nI 62 then upd v (o + 2) (nI 0) else if c = nI 118 then upd v (o + 2) (nI 1) else if c = nI 60 then upd v (o + 2) (nI 2) else if c = nI 94 then upd v (o + 2) (nI 3)
  else if c = nI 95 then upd (qpop v o) (o + 2) (if qpopR v o = 0 then nI 0 else nI 2) else if c = nI 124 then upd (qpop v o) (o + 2) (if qpopR v o = 0 then nI 1 else nI 3)
  else if c = nI 91 then qturn v o 3 else if c = nI 93 then qturn v o 1 else if c = nI 114 then qturn v o 2 else if c = nI 35 then qmove v o else v
def qperf (v : Nat → Int32) (o : Nat) (c : Int32) : Nat → Int32 :=
  if nI 48 ≤ c ∧ c ≤ nI 57 then qpush v o (c - nI 48)
  else if c = nI 43 ∨ c = nI 45 ∨ c = nI 42 ∨ c = nI 47 ∨ c = nI 37 ∨ c = nI 96 then qbin v o c
  else if c = nI 33 then qpush (qpop v o) o (if qpopR v o = 0 then nI 1 else nI 0)
  else if c = nI 58 then qdup v o else if c = nI 92 then qswap v o else if c = nI 36 then qpop v o
  else if c = nI 123 then qopen v o else if c = nI 125 then qclose v o
  else if c = nI 119 then upd (qpop v o) (o + 4) (nI (qclamp (qpopR v o) 9)) else if c = nI 64 then upd v (o + 3) (nI 1)
  else qsteer v o c
def qexec (v : Nat → Int32) (p : Nat) (c : Int32) : Nat → Int32 :=
  if c = nI 103 then qfetch v (150 + 25 * p) else if c = nI 112 then qstore v (150 + 25 * p) else if c = nI 46 then qout (qpop v (150 + 25 * p)) (qpopR v (150 + 25 * p))
  else if c = nI 126 then qin v (150 + 25 * p) else if c = nI 116 then qsplit v p else qperf v (150 + 25 * p) c
def qend (w : Nat → Int32) (o : Nat) : Nat → Int32 := if w (o + 3) = 0 then qmove w o else w
def qtake (v : Nat → Int32) (p : Nat) : Nat → Int32 := if v (153 + 25 * p) ≠ 0 then v else if 0 < v (154 + 25 * p) then upd v (154 + 25 * p) (v (154 + 25 * p) - 1) else qend (qexec v p (v (72 + 12 * zn v (151 + 25 * p) + zn v (150 + 25 * p)))) (150 + 25 * p)
def qtakes (v0 : Nat → Int32) : Nat → Nat → Int32
  | 0 => v0
  | n + 1 => qtake (qtakes v0 n) (zn v0 (146 + n))
def qstep (v : Nat → Int32) : Nat → Int32 := upd (qtakes v (zn v 145)) 144 (qtakes v (zn v 145) 144 + 1)
/-- a pointer at o -/
def PI (v : Nat → Int32) (o : Nat) (x y dr ss sl ns s0 s1 s2 : Nat) : Prop :=
  v o = nI x ∧ v (o + 1) = nI y ∧ v (o + 2) = nI dr ∧ v (o + 3) = nI ss ∧ v (o + 4) = nI sl ∧ v (o + 5) = nI ns ∧ v (o + 6) = nI s0 ∧ v (o + 7) = nI s1 ∧ v (o + 8) = nI s2 ∧
  (x < 12 ∧ y < 6 ∧ dr < 4 ∧ ss < 3 ∧ sl ≤ 9 ∧ 1 ≤ ns ∧ ns ≤ 3 ∧ s0 + s1 + s2 ≤ 16 ∧ (ns = 1 → s1 = 0) ∧ (ns ≤ 2 → s2 = 0)) ∧ ∀ j, s0 + s1 + s2 ≤ j → j < 16 → v (o + 9 + j) = 0
/-- the shapes of the objects -/
def PS (S : zS) (k : Nat) : Prop := k + 2 < S.1 ∧ S.2.1 k = (0, 0) ∧ S.2.1 (k + 1) = (1, 16) ∧ S.2.1 (k + 2) = (1, 3) ∧ S.2.2 k 5 = k + 1 + 1 ∧ S.2.2 k 7 = k + 2 + 1
def SS (S : zS) (b : Nat) : Prop := b + 18 < S.1 ∧ S.2.1 b = (0, 1) ∧ S.2.1 (b + 1) = (1, 72) ∧ S.2.1 (b + 2) = (1, 72) ∧ S.2.1 (b + 3) = (3, 4) ∧ S.2.1 (b + 4) = (1, 4) ∧ S.2.1 (b + 5) = (1, 16) ∧ S.2.1 (b + 6) = (1, 20) ∧ S.2.2 b 0 = b + 1 + 1 ∧ S.2.2 b 1 = b + 2 + 1 ∧ S.2.2 b 2 = b + 3 + 1 ∧ S.2.2 b 3 = b + 4 + 1 ∧ S.2.2 b 5 = b + 5 + 1 ∧ S.2.2 b 7 = b + 6 + 1 ∧ ∀ i, i < 4 → S.2.2 (b + 3) i = b + 7 + 3 * i + 1 ∧ PS S (b + 7 + 3 * i)
def MS (S : zS) (m : Nat) : Prop := (m + 10 < S.1 ∧ S.2.1 m = (0, 3) ∧ S.2.1 (m + 1) = (1, 289) ∧ S.2.1 (m + 2) = (1, 289) ∧ S.2.1 (m + 3) = (1, 289) ∧ S.2.1 (m + 4) = (1, 289) ∧ S.2.1 (m + 5) = (1, 1734) ∧ S.2.1 (m + 6) = (1, 578) ∧ S.2.1 (m + 7) = (2, 2) ∧ S.2.1 (m + 8) = (2, 72) ∧ S.2.1 (m + 9) = (1, 90) ∧ S.2.1 (m + 10) = (1, 4)) ∧
  S.2.2 m 0 = m + 1 + 1 ∧ S.2.2 m 1 = m + 2 + 1 ∧ S.2.2 m 2 = m + 3 + 1 ∧ S.2.2 m 3 = m + 4 + 1 ∧ S.2.2 m 4 = m + 5 + 1 ∧ S.2.2 m 6 = m + 6 + 1 ∧ S.2.2 m 7 = m + 7 + 1 ∧ S.2.2 m 8 = m + 8 + 1 ∧ S.2.2 m 9 = m + 9 + 1 ∧ S.2.2 m 11 = m + 10 + 1
