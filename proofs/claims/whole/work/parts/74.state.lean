/-! THE ABSTRACT MACHINE -/
/-- a law's step: (0, number), (1, which value), (2, which work: 0 not, 1 plus, 2 minus, 3 times, 4 over, 5 less, 6 same, 7 and, 8 or) -/
abbrev zLw : Type := Option (List (Nat × Nat))
/-- sea, law, world, worlds before (latest first), seen, image, tape, fault's place, refusals, calls so far -/
abbrev zSt : Type := zSD × zLw × zWD × List zWD × List (Nat × Nat) × Option (zWD × List zWD × List (Nat × Nat)) × List Nat × Int32 × (Nat → Int32) × Nat
abbrev tS (q : zSt) : zSD := q.1
abbrev tL (q : zSt) : zLw := q.2.1
abbrev tW (q : zSt) : zWD := q.2.2.1
abbrev tA (q : zSt) : List zWD := q.2.2.2.1
abbrev tV (q : zSt) : List (Nat × Nat) := q.2.2.2.2.1
abbrev tG (q : zSt) : Option (zWD × List zWD × List (Nat × Nat)) := q.2.2.2.2.2.1
abbrev tT (q : zSt) : List Nat := q.2.2.2.2.2.2.1
abbrev tF (q : zSt) : Int32 := q.2.2.2.2.2.2.2.1
abbrev tR (q : zSt) : Nat → Int32 := q.2.2.2.2.2.2.2.2.1
abbrev tC (q : zSt) : Nat := q.2.2.2.2.2.2.2.2.2
/-- the class's code of a step; the reference's work -/
def zcx (s : Nat × Nat) : Int32 := if s.1 = 0 then nI s.2 else if s.1 = 1 then -nI (s.2 + 1) else -nI (10 + s.2)
def zco (j : Nat) : Nat := if j = 0 then 3 else if j = 1 then 8 else if j = 2 then 9 else if j = 3 then 10 else if j = 4 then 11 else if j = 5 then 6 else if j = 6 then 7 else if j = 7 then 4 else 5
/-- steps in a row of the class, from a place on; in a row of the reference -/
def zxt (row : Nat → Int32) : Nat → List (Nat × Nat) → Prop
  | _, [] => True
  | i, s :: r => row i = zcx s ∧ zxt row (i + 1) r
def zat (row : Nat → Int32) : Nat → List (Nat × Nat) → Prop
  | p, [] => row p = 0
  | p, s :: r => if s.1 = 0 then row p = nI 1 ∧ row (p + 1) = nI s.2 ∧ zat row (p + 2) r else if s.1 = 1 then row p = nI 2 ∧ row (p + 1) = nI s.2 ∧ zat row (p + 2) r else row p = nI (zco s.2) ∧ zat row (p + 1) r
def zcl : List (Nat × Nat) → Nat
  | [] => 1
  | s :: r => (if s.1 = 0 then 2 else if s.1 = 1 then 2 else 1) + zcl r
/-- how many wait on the stack behind a step; none: too few, or more than 40 -/
def zdp (s : Nat × Nat) (d : Nat) : Option Nat :=
  if s.1 = 0 then (if s.2 ≤ 9999 ∧ d < 40 then some (d + 1) else none) else if s.1 = 1 then (if s.2 < 7 ∧ d < 40 then some (d + 1) else none) else if s.2 = 0 then (if 1 ≤ d then some d else none) else (if s.2 ≤ 8 ∧ 2 ≤ d then some (d - 1) else none)
def zdep : List (Nat × Nat) → Nat → Option Nat
  | [], d => some d
  | s :: r, d => match zdp s d with
    | none => none
    | some e => zdep r e
def zLok : zLw → Prop
  | none => True
  | some s => s.length ≤ 700 ∧ zdep s 0 = some 1
def zLx (w : zLw) (M : zM) : Prop := match w with
  | none => M 9 4 = 0
  | some s => M 9 4 = 1 ∧ M 9 3 = nI s.length ∧ zxt (M 11) 0 s
def zLm (w : zLw) (M : zM) : Prop := match w with
  | none => M 79 4 = -1
  | some s => ∃ a : Nat, M 79 4 = nI a ∧ a + zcl s ≤ 1900 ∧ zat (M 88) a s
/-- what a step does to the row of what waits -/
def zwk (j : Nat) (a b : Int32) : Int32 :=
  if j = 7 then (if a = 0 then 0 else if b = 0 then 0 else 1) else if j = 6 then (if a = b then 1 else 0) else if j = 5 then (if b ≤ a then 0 else 1) else if j = 4 then (if b = 0 then 0 else a / b) else if j = 3 then a * b else if j = 2 then a - b else if j = 1 then a + b else (if a = 0 then (if b = 0 then 0 else 1) else 1)
def zsp (v : Nat → Int32) (s : Nat × Nat) (d : Nat) (f : Nat → Int32) : Nat × (Nat → Int32) :=
  if s.1 = 0 then (d + 1, upd f d (nI s.2)) else if s.1 = 1 then (d + 1, upd f d (v s.2)) else if s.2 = 0 then (d, upd f (d - 1) (if f (d - 1) = 0 then 1 else 0)) else (d - 1, upd f (d - 2) (zwk s.2 (f (d - 2)) (f (d - 1))))
def zrun (v : Nat → Int32) : List (Nat × Nat) → Nat → (Nat → Int32) → Nat × (Nat → Int32)
  | [], d, f => (d, f)
  | s :: r, d, f => zrun v r (zsp v s d f).1 (zsp v s d f).2
def zdf (p q : Nat) : Nat := (p - q) + (q - p)
def zap (S : zSD) (i j : Nat) : Nat := zdf (S 5 i) (S 5 j) + zdf (S 6 i) (S 6 j)
def zvl (S : zSD) (i j : Nat) (debt year : Int32) (k : Nat) : Int32 :=
  if k = 0 then nI (S 3 i) else if k = 1 then nI (S 3 j) else if k = 2 then nI (zap S i j) else if k = 3 then nI (S 7 i) else if k = 4 then nI (S 7 j) else if k = 5 then debt else year
def zlaw (S : zSD) (L : zLw) (i j : Nat) (debt year : Int32) : Bool := match L with
  | none => true
  | some s => !decide ((zrun (zvl S i j debt year) s 0 (fun _ => 0)).2 0 = 0)
/-- whether a and b might swap, had they the names i and j -/
def zmw (S : zSD) (L : zLw) (w : zWD) (a b i j : Nat) : Bool := zlaw S L i j (w.2.1 (8 * a + b)) w.2.2 && zlaw S L j i (w.2.1 (8 * b + a)) w.2.2
def zmay (S : zSD) (L : zLw) (w : zWD) (a b : Nat) : Bool := zmw S L w a b (w.1 a) (w.1 b)
/-- worlds that are the same where it counts -/
def zWeq (a b : zWD) : Prop := (∀ i, i < 8 → a.1 i = b.1 i) ∧ (∀ k, k < 64 → a.2.1 k = b.2.1 k) ∧ a.2.2 = b.2.2
/-- a year taken back: the fairs below f whose bit is set, the last first -/
def zWyb (S : zSD) (held : Int32) : Nat → zWD → zWD
  | 0, w => w
  | f + 1, w => zWyb S held f (if (held >>> (nI f &&& 31)) &&& 1 = 1 then zWex S (S 10 f) (S 11 f) w else w)
/-- one debt as told -/
def zWsd (a b : Nat) (v : Int32) (w : zWD) : zWD := (w.1, (fun k => if k = 8 * b + a then -v else if k = 8 * a + b then v else w.2.1 k), w.2.2)
/-- the class's acts, by the rows of its records: each undone gives the world before -/
def zAx (S : zSD) (k1 k2 k3 k4 : Nat → Int32) : zWD → List zWD → Prop
  | _, [] => True
  | w, a :: l => zWok S a ∧ ((k1 l.length = 0 ∧ ∃ i j, i < S 0 0 ∧ j < S 0 0 ∧ i ≠ j ∧ k2 l.length = nI i ∧ k3 l.length = nI j ∧ zWeq a (zWex S i j w)) ∨
      (k1 l.length = 1 ∧ (∃ h, h < 4096 ∧ k4 l.length = nI h) ∧ zWeq a (zWyb S (k4 l.length) (S 1 0) (w.1, w.2.1, w.2.2 - 1))) ∨
      (k1 l.length = 2 ∧ ∃ i j, i < S 0 0 ∧ j < S 0 0 ∧ i ≠ j ∧ k2 l.length = nI i ∧ k3 l.length = nI j ∧ zWeq a (zWsd i j (k4 l.length) w))) ∧ zAx S k1 k2 k3 k4 a l
/-- the reference's: rows, the oldest first -/
def zAm (row : Nat → Int32) : List zWD → Prop
  | [] => True
  | a :: l => zWr row (73 * l.length) a ∧ zAm row l
def zVx (k5 k6 : Nat → Int32) (v : List (Nat × Nat)) : Prop := ∀ i, i < v.length → k5 i = nI (v.getD i (0, 0)).1 ∧ k6 i = nI (v.getD i (0, 0)).2
def zVm (row : Nat → Int32) (v : List (Nat × Nat)) : Prop := ∀ i, i < v.length → row (2 * i) = nI (v.getD i (0, 0)).1 ∧ row (2 * i + 1) = nI (v.getD i (0, 0)).2
def zVok (S : zSD) (v : List (Nat × Nat)) : Prop := v.length ≤ 8 ∧ ∀ q ∈ v, q.1 < S 0 0 ∧ q.2 < S 0 0
/-- a whole of world, acts, seen, by its cells -/
def zHx (S : zSD) (c r : Nat) (M : zM) (w : zWD) (a : List zWD) (v : List (Nat × Nat)) : Prop := zWx c w M ∧ M r 0 = nI a.length ∧ zAx S (M (r + 1)) (M (r + 2)) (M (r + 3)) (M (r + 4)) w a ∧ M r 1 = nI v.length ∧ zVx (M (r + 5)) (M (r + 6)) v
def zHok (S : zSD) (w : zWD) (a : List zWD) (v : List (Nat × Nat)) : Prop := zWok S w ∧ a.length ≤ 40 ∧ (∀ b ∈ a, zWok S b) ∧ zVok S v
def zHm (row ahead sees : Nat → Int32) (na nv : Int32) (w : zWD) (a : List zWD) (v : List (Nat × Nat)) : Prop := zWr row 0 w ∧ na = nI a.length ∧ zAm ahead a ∧ nv = nI v.length ∧ zVm sees v
def zok (q : zSt) : Prop := zSok (tS q) ∧ zLok (tL q) ∧ zHok (tS q) (tW q) (tA q) (tV q) ∧ (∀ z, tG q = some z → zHok (tS q) z.1 z.2.1 z.2.2) ∧ (tT q).length ≤ 700 ∧ (∀ b ∈ tT q, b < 256) ∧ tC q ≤ 600
/-- arrangements: a code's figures, its rank; couples in their order -/
def zfg (c i : Nat) : Nat := c / 8 ^ i % 8
def zsw (a b : Nat) (p : Nat → Nat) : Nat → Nat := fun i => if i = a then p b else if i = b then p a else p i
def zcd (p : Nat → Nat) : Nat → Nat
  | 0 => 0
  | n + 1 => zcd p n + p n * 8 ^ n
def zrk (n : Nat) (p : Nat → Nat) : Nat → Nat
  | 0 => 0
  | i + 1 => zrk n p i * (n - i) + zcu (fun k => decide (i < k) && decide (p k < p i)) n
def zar (n : Nat) (p : Nat → Nat) : Prop := (∀ i, i < n → p i < n) ∧ ∀ i, i < n → ∀ j, j < n → p i = p j → i = j
def zpr (n : Nat) : List (Nat × Nat) := (List.range n).flatMap (fun a => ((List.range n).filter (fun b => decide (a < b))).map (fun b => (a, b)))
/-- the row of those that swaps reach: code, how many, the first swap -/
def zgo (S : zSD) (L : zLw) (w : zWD) (e : Nat × Nat × Int32) (q : List (Nat × Nat × Int32)) : List (Nat × Nat) → List (Nat × Nat × Int32)
  | [] => q
  | s :: r => zgo S L w e (if (zmw S L w s.1 s.2 (zfg e.1 s.1) (zfg e.1 s.2) && !(q.any (fun z => z.1 == zcd (zsw s.1 s.2 (zfg e.1)) (S 0 0)))) = true then q ++ [(zcd (zsw s.1 s.2 (zfg e.1)) (S 0 0), e.2.1 + 1, if e.2.1 = 0 then nI (10 * s.1 + s.2) else e.2.2)] else q) r
def zbq (S : zSD) (L : zLw) (w : zWD) : Nat → List (Nat × Nat × Int32)
  | 0 => [(zcd w.1 (S 0 0), 0, -1)]
  | k + 1 => match (zbq S L w k)[k]? with
    | none => zbq S L w k
    | some e => zgo S L w e (zbq S L w k) (zpr (S 0 0))
/-- rows of sales: couples, and who has what behind them -/
def zrw (S : zSD) (L : zLw) (w : zWD) : Nat → (Nat → Nat) → List (List Nat × (Nat → Nat))
  | 0, p => [([], p)]
  | k + 1, p => (zpr (S 0 0)).flatMap (fun s => if zmw S L w s.1 s.2 (p s.1) (p s.2) = true then (zrw S L w k (zsw s.1 s.2 p)).map (fun z => ((10 * s.1 + s.2) :: z.1, z.2)) else [])
def zfit (v : List (Nat × Nat)) (p : Nat → Nat) : Bool := v.all (fun z => p z.1 == z.2)
def zrf (q : zSt) (k : Nat) : List (List Nat × (Nat → Nat)) := (zrw (tS q) (tL q) (tW q) k (tW q).1).filter (fun z => zfit (tV q) z.2)
/-- what the class keeps of earlier work -/
def zCp (q : zSt) (k68 : Nat → Int32) : Prop := ∀ a b i j, a < tS q 0 0 → b < tS q 0 0 → i < tS q 0 0 → j < tS q 0 0 → k68 (((a * 8 + b) * 8 + i) * 8 + j) = 0 ∨ k68 (((a * 8 + b) * 8 + i) * 8 + j) = if zmw (tS q) (tL q) (tW q) a b i j = true then 1 else 2
def zCr (q : zSt) (k71 k72 : Nat → Int32) : Prop := tS q 0 0 ≤ 6 ∧ ∀ p, zar (tS q 0 0) p → (∀ e ∈ zbq (tS q) (tL q) (tW q) 720, e.1 = zcd p (tS q 0 0) → k71 (zrk (tS q 0 0) p (tS q 0 0)) = nI e.2.1 ∧ k72 (zrk (tS q 0 0) p (tS q 0 0)) = e.2.2) ∧ ((∀ e ∈ zbq (tS q) (tL q) (tW q) 720, e.1 ≠ zcd p (tS q 0 0)) → k71 (zrk (tS q 0 0) p (tS q 0 0)) = -1)
def zCw (q : zSt) (k73 k76 k77 : Nat → Int32) : Prop := ∃ k, k ≤ 3 ∧ k73 8 = nI k ∧ k73 7 = nI (zrf q k).length ∧ (∀ z l, zrf q k = z :: l → ∀ j, j < k → k76 j = nI (z.1.getD j 0)) ∧ (k73 9 = 0 ∨ k73 9 = 1 ∧ ∀ i j, i < tS q 0 0 → j < tS q 0 0 → k77 (8 * i + j) = nI ((zrf q k).countP (fun z => z.2 i == j)))
def zmade (M : zM) (c s k : Nat) : Prop := M c s = -1 ∨ ∃ z, z ≤ k ∧ M c s = nI z
/-- THE CLASS'S HALF -/
def zQx (q : zSt) (M : zM) : Prop := zok q ∧ (zSx (tS q) M ∧ zLx (tL q) M ∧ zHx (tS q) 40 49 M (tW q) (tA q) (tV q)) ∧
  (match tG q with
   | none => M 0 14 = 0
   | some z => M 0 14 = 1 ∧ zHx (tS q) 46 56 M z.1 z.2.1 z.2.2) ∧
  (M 1 1 = nI (tT q).length ∧ (∀ i, i < (tT q).length → M 2 i = (nI ((tT q).getD i 0)).toInt8.toInt32)) ∧ M 1 8 = tF q ∧ (∀ i, i < 3 → M 78 i = tR q i) ∧
  ∃ k, k ≤ tC q ∧ M 0 15 = nI k ∧ (zmade M 67 2 k ∧ (M 67 2 = nI k → zCp q (M 68))) ∧ (zmade M 69 6 k ∧ (M 69 6 = nI k → zCr q (M 71) (M 72))) ∧ (zmade M 73 10 k ∧ (M 73 10 = nI k → zCw q (M 73) (M 76) (M 77)))
/-- THE REFERENCE'S HALF -/
def zQm (q : zSt) (M : zM) : Prop := zok q ∧ (zSm (tS q) M ∧ zLm (tL q) M ∧ zHm (M 102) (M 104) (M 116) (M 79 50) (M 79 64) (tW q) (tA q) (tV q)) ∧
  (match tG q with
   | none => M 79 73 = 0
   | some z => M 79 73 = 1 ∧ zHm (M 121) (M 122) (M 123) (M 79 74) (M 79 75) z.1 z.2.1 z.2.2) ∧
  (M 79 15 = nI (tT q).length ∧ (∀ i, i < (tT q).length → M 89 i = nI ((tT q).getD i 0))) ∧ M 79 17 = tF q ∧ (∀ i, i < 3 → M 90 i = tR q i) ∧ (∃ k, k ≤ tC q ∧ M 79 60 = nI k ∧ ∀ i, i < 720 → M 109 i = 0 ∨ ∃ z, z ≤ k ∧ M 109 i = nI z)
/-- cells that a half's own work may write -/
def zXc : List Nat := [4, 7, 8, 10, 12, 21, 22, 24, 25, 26, 27, 28, 29, 30, 31, 32, 33, 34, 35, 36, 37, 38, 39, 43, 44, 45, 63, 64, 65, 66]
theorem zQx_off {q : zSt} {M M' : zM} (h : zQx q M) (e : ∀ i, i < 79 → i ∉ zXc → M' i = M i) : zQx q M' := by
  have e0 := e 0 (by decide) (by decide)
  have e1 := e 1 (by decide) (by decide)
  have e2 := e 2 (by decide) (by decide)
  have e3 := e 3 (by decide) (by decide)
  have e5 := e 5 (by decide) (by decide)
  have e6 := e 6 (by decide) (by decide)
  have e9 := e 9 (by decide) (by decide)
  have e11 := e 11 (by decide) (by decide)
  have e13 := e 13 (by decide) (by decide)
  have e14 := e 14 (by decide) (by decide)
  have e15 := e 15 (by decide) (by decide)
  have e17 := e 17 (by decide) (by decide)
  have e18 := e 18 (by decide) (by decide)
  have e19 := e 19 (by decide) (by decide)
  have e20 := e 20 (by decide) (by decide)
  have e23 := e 23 (by decide) (by decide)
  have e40 := e 40 (by decide) (by decide)
  have e41 := e (40 + 1) (by decide) (by decide)
  have e42 := e (40 + 2) (by decide) (by decide)
  have e46 := e 46 (by decide) (by decide)
  have e47 := e (46 + 1) (by decide) (by decide)
  have e48 := e (46 + 2) (by decide) (by decide)
  have e49 := e 49 (by decide) (by decide)
  have e50 := e (49 + 1) (by decide) (by decide)
  have e51 := e (49 + 2) (by decide) (by decide)
  have e52 := e (49 + 3) (by decide) (by decide)
  have e53 := e (49 + 4) (by decide) (by decide)
  have e54 := e (49 + 5) (by decide) (by decide)
  have e55 := e (49 + 6) (by decide) (by decide)
  have e56 := e 56 (by decide) (by decide)
  have e57 := e (56 + 1) (by decide) (by decide)
  have e58 := e (56 + 2) (by decide) (by decide)
  have e59 := e (56 + 3) (by decide) (by decide)
  have e60 := e (56 + 4) (by decide) (by decide)
  have e61 := e (56 + 5) (by decide) (by decide)
  have e62 := e (56 + 6) (by decide) (by decide)
  have e67 := e 67 (by decide) (by decide)
  have e68 := e 68 (by decide) (by decide)
  have e69 := e 69 (by decide) (by decide)
  have e71 := e 71 (by decide) (by decide)
  have e72 := e 72 (by decide) (by decide)
  have e73 := e 73 (by decide) (by decide)
  have e76 := e 76 (by decide) (by decide)
  have e77 := e 77 (by decide) (by decide)
  have e78 := e 78 (by decide) (by decide)
  unfold zQx zSx zLx zHx zWx zmade at h ⊢
  rw [e0, e1, e2, e3, e5, e6, e9, e11, e13, e14, e15, e17, e18, e19, e20, e23, e40, e41, e42, e46, e47, e48, e49, e50, e51, e52, e53, e54, e55, e56, e57, e58, e59, e60, e61, e62, e67, e68, e69, e71, e72, e73, e76, e77, e78]
  exact h
/-- the reference's own -/
def zMs : List Nat := [91, 92, 93, 94, 95, 96, 97, 98, 99, 100, 101, 103, 105, 106, 107, 108, 110, 111, 112, 113, 114, 115, 117, 118, 119, 120]
def zMf : List Nat := [1, 2, 3, 4, 15, 17, 50, 60, 64, 73, 74, 75]
theorem zQm_off {q : zSt} {M M' : zM} (h : zQm q M) (e : ∀ i, 80 ≤ i → i < 124 → i ∉ zMs → M' i = M i) (e79 : ∀ k, k ∈ zMf → M' 79 k = M 79 k) : zQm q M' := by
  have f1 := e79 1 (by decide)
  have f2 := e79 2 (by decide)
  have f3 := e79 3 (by decide)
  have f4 := e79 4 (by decide)
  have f15 := e79 15 (by decide)
  have f17 := e79 17 (by decide)
  have f50 := e79 50 (by decide)
  have f60 := e79 60 (by decide)
  have f64 := e79 64 (by decide)
  have f73 := e79 73 (by decide)
  have f74 := e79 74 (by decide)
  have f75 := e79 75 (by decide)
  have e80 := e 80 (by decide) (by decide) (by decide)
  have e81 := e 81 (by decide) (by decide) (by decide)
  have e82 := e 82 (by decide) (by decide) (by decide)
  have e83 := e 83 (by decide) (by decide) (by decide)
  have e84 := e 84 (by decide) (by decide) (by decide)
  have e85 := e 85 (by decide) (by decide) (by decide)
  have e86 := e 86 (by decide) (by decide) (by decide)
  have e87 := e 87 (by decide) (by decide) (by decide)
  have e88 := e 88 (by decide) (by decide) (by decide)
  have e89 := e 89 (by decide) (by decide) (by decide)
  have e90 := e 90 (by decide) (by decide) (by decide)
  have e102 := e 102 (by decide) (by decide) (by decide)
  have e104 := e 104 (by decide) (by decide) (by decide)
  have e109 := e 109 (by decide) (by decide) (by decide)
  have e116 := e 116 (by decide) (by decide) (by decide)
  have e121 := e 121 (by decide) (by decide) (by decide)
  have e122 := e 122 (by decide) (by decide) (by decide)
  have e123 := e 123 (by decide) (by decide) (by decide)
  unfold zQm zSm zLm at h ⊢
  rw [f1, f2, f3, f4, f15, f17, f50, f60, f64, f73, f74, f75, e80, e81, e82, e83, e84, e85, e86, e87, e88, e89, e90, e102, e104, e109, e116, e121, e122, e123]
  exact h
