/-! THE ABSTRACT MACHINE -/
abbrev zLw : Type := Option (List Int32)
/-- sea, law, world, worlds before (latest first), seen, image, tape, fault's place, refusals, calls so far -/
abbrev zSt : Type := zSD × zLw × zWD × List zWD × List (Nat × Nat) × Option (zWD × List zWD × List (Nat × Nat)) × List Nat × Int32 × (Nat → Int32) × Nat
abbrev tS (q : zSt) : zSD := q.1
abbrev tL (q : zSt) : zLw := q.2.1
abbrev tW (q : zSt) : zWD := q.2.2.1
abbrev tA (q : zSt) : List zWD := q.2.2.2.1
abbrev tV (q : zSt) : List (Nat × Nat) := q.2.2.2.2.1
abbrev tI (q : zSt) : Option (zWD × List zWD × List (Nat × Nat)) := q.2.2.2.2.2.1
abbrev tT (q : zSt) : List Nat := q.2.2.2.2.2.2.1
abbrev tF (q : zSt) : Int32 := q.2.2.2.2.2.2.2.1
abbrev tR (q : zSt) : Nat → Int32 := q.2.2.2.2.2.2.2.2.1
abbrev tC (q : zSt) : Nat := q.2.2.2.2.2.2.2.2.2
/-- the law: steps of a stack, as the class has them; the reference's code of a step -/
def zenc (v : Int32) : List Int32 :=
  if 0 ≤ v then [1, v] else if -7 ≤ v then [2, -1 - v] else if v = -10 then [3] else if v = -11 then [8] else if v = -12 then [9] else if v = -13 then [10] else if v = -14 then [11] else if v = -15 then [6] else if v = -16 then [7] else if v = -17 then [4] else [5]
def zencs (s : List Int32) : List Int32 := s.flatMap zenc ++ [0]
/-- how many wait on the stack behind the steps; none: too few, or more than 40 -/
def zdep : List Int32 → Nat → Option Nat
  | [], d => some d
  | v :: r, d => if -7 ≤ v then (if d < 40 then zdep r (d + 1) else none) else if v = -10 then (if 1 ≤ d then zdep r d else none) else if -18 ≤ v ∧ v ≤ -11 then (if 2 ≤ d then zdep r (d - 1) else none) else none
def zLok : zLw → Prop
  | none => True
  | some s => s.length ≤ 700 ∧ zdep s 0 = some 1
def zLx (w : zLw) (M : zM) : Prop := match w with
  | none => M 9 4 = 0
  | some s => M 9 4 = 1 ∧ M 9 3 = nI s.length ∧ ∀ i, i < s.length → M 11 i = s.getD i 0
def zLm (w : zLw) (M : zM) : Prop := match w with
  | none => M 79 4 = -1
  | some s => ∃ a : Nat, M 79 4 = nI a ∧ a + (zencs s).length ≤ 1900 ∧ ∀ i, i < (zencs s).length → M 88 (a + i) = (zencs s).getD i 0
/-- worlds that are the same where it counts -/
def zWeq (a b : zWD) : Prop := (∀ i, i < 8 → a.1 i = b.1 i) ∧ (∀ k, k < 64 → a.2.1 k = b.2.1 k) ∧ a.2.2 = b.2.2
/-- a year taken back: the fairs below f whose bit is set, the last first -/
def zWyb (S : zSD) (held : Int32) : Nat → zWD → zWD
  | 0, w => w
  | f + 1, w => zWyb S held f (if (held >>> (nI f &&& 31)) &&& 1 = 1 then zWex S (S 10 f) (S 11 f) w else w)
/-- one debt as told -/
def zWsd (a b : Nat) (v : Int32) (w : zWD) : zWD := (w.1, (fun k => if k = 8 * b + a then -v else if k = 8 * a + b then v else w.2.1 k), w.2.2)
/-- the class's acts, by the cell r of its records: each undone gives the world before -/
def zAx (S : zSD) (r : Nat) (M : zM) : zWD → List zWD → Prop
  | _, [] => True
  | w, a :: l => zWok S a ∧ ((M (r + 1) l.length = 0 ∧ ∃ i j, i < S 0 0 ∧ j < S 0 0 ∧ i ≠ j ∧ M (r + 2) l.length = nI i ∧ M (r + 3) l.length = nI j ∧ zWeq a (zWex S i j w)) ∨
      (M (r + 1) l.length = 1 ∧ zWeq a (let w1 := zWyb S (M (r + 4) l.length) (S 1 0) w; (w1.1, w1.2.1, w.2.2 - 1))) ∨
      (M (r + 1) l.length = 2 ∧ ∃ i j, i < S 0 0 ∧ j < S 0 0 ∧ i ≠ j ∧ M (r + 2) l.length = nI i ∧ M (r + 3) l.length = nI j ∧ zWeq a (zWsd i j (M (r + 4) l.length) w))) ∧ zAx S r M a l
/-- the reference's: rows, the oldest first -/
def zAm (row : Nat → Int32) : List zWD → Prop
  | [] => True
  | a :: l => zWr row (73 * l.length) a ∧ zAm row l
def zVx (r : Nat) (M : zM) (v : List (Nat × Nat)) : Prop := ∀ i, i < v.length → M (r + 5) i = nI (v.getD i (0, 0)).1 ∧ M (r + 6) i = nI (v.getD i (0, 0)).2
def zVm (row : Nat → Int32) (v : List (Nat × Nat)) : Prop := ∀ i, i < v.length → row (2 * i) = nI (v.getD i (0, 0)).1 ∧ row (2 * i + 1) = nI (v.getD i (0, 0)).2
def zVok (S : zSD) (v : List (Nat × Nat)) : Prop := v.length ≤ 8 ∧ ∀ q ∈ v, q.1 < S 0 0 ∧ q.2 < S 0 0
/-- a whole of world, acts, seen, by its cells -/
def zHx (S : zSD) (c r : Nat) (M : zM) (w : zWD) (a : List zWD) (v : List (Nat × Nat)) : Prop := zWx c w M ∧ M r 0 = nI a.length ∧ zAx S r M w a ∧ M r 1 = nI v.length ∧ zVx r M v
def zHok (S : zSD) (w : zWD) (a : List zWD) (v : List (Nat × Nat)) : Prop := zWok S w ∧ a.length ≤ 40 ∧ (∀ b ∈ a, zWok S b) ∧ zVok S v
def zHm (row ahead sees : Nat → Int32) (na nv : Int32) (w : zWD) (a : List zWD) (v : List (Nat × Nat)) : Prop := zWr row 0 w ∧ na = nI a.length ∧ zAm ahead a ∧ nv = nI v.length ∧ zVm sees v
def zok (q : zSt) : Prop := zSok (tS q) ∧ zLok (tL q) ∧ zHok (tS q) (tW q) (tA q) (tV q) ∧ (∀ z, tI q = some z → zHok (tS q) z.1 z.2.1 z.2.2) ∧ (tT q).length ≤ 700 ∧ (∀ b ∈ tT q, b < 256) ∧ tC q ≤ 600
/-- THE REFERENCE'S HALF -/
def zQm (q : zSt) (M : zM) : Prop := zok q ∧ zSm (tS q) M ∧ zLm (tL q) M ∧ zHm (M 102) (M 104) (M 116) (M 79 50) (M 79 64) (tW q) (tA q) (tV q) ∧
  (match tI q with
   | none => M 79 73 = 0
   | some z => M 79 73 = 1 ∧ zHm (M 121) (M 122) (M 123) (M 79 74) (M 79 75) z.1 z.2.1 z.2.2) ∧
  M 79 15 = nI (tT q).length ∧ (∀ i, i < (tT q).length → M 89 i = nI ((tT q).getD i 0)) ∧ M 79 17 = tF q ∧ (∀ i, i < 3 → M 90 i = tR q i) ∧ (∃ k, k ≤ tC q ∧ M 79 60 = nI k ∧ ∀ i, i < 720 → M 109 i = 0 ∨ ∃ z, z ≤ k ∧ M 109 i = nI z)
