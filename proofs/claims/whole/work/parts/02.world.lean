/-! THE STORE: every cell that the constructors make has a number (the order in which they are made); its ints are read as M number place. References never change: they stand in a table. -/
abbrev vwCl : List vw_C := [(RX0, TX0, 5), (RX1, TX1, 6), (RX2, TX2, 3), (RX3, TX3, 8), (RX4, TX4, 7), (RX5, TX5, 11), (RX6, TX6, 14), (RX7, TX7, 2), (RX8, TX8, 9), (RX9, TX9, 6), (RX10, TX10, 4), (RX11, TX11, 16), (RX12, TX12, 79)]
abbrev zM : Type := Nat → Nat → Int32
abbrev zR : Type := Option Value ⊕ String
abbrev zO : Type := Option (zR × zM)
def zup (M : zM) (a k : Nat) (v : Int32) : zM := fun i j => if i = a ∧ j = k then v else M i j
def zmk (h l : Int32) : Int64 := Int64.ofBitVec (h.toBitVec ++ l.toBitVec)
def zhi (x : Int64) : Int32 := Int32.ofBitVec (x.toBitVec.extractLsb' 32 32)
def zlo (x : Int64) : Int32 := Int32.ofBitVec (x.toBitVec.extractLsb' 0 32)
theorem zmk_eq (x : Int64) : zmk (zhi x) (zlo x) = x := by
  apply Int64.toBitVec_inj.mp
  show x.toBitVec.extractLsb' 32 32 ++ x.toBitVec.extractLsb' 0 32 = x.toBitVec
  apply BitVec.eq_of_getLsbD_eq
  intro i hi
  rw [BitVec.getLsbD_append, BitVec.getLsbD_extractLsb', BitVec.getLsbD_extractLsb']
  by_cases h : i < 32
  · simp [h]
  · have h2 : i - 32 < 32 := by omega
    have h3 : 32 + (i - 32) = i := by omega
    simp [h, h2, h3]
def zupL (M : zM) (a k : Nat) (x : Int64) : zM := zup (zup M a k (zhi x)) a (k + 1000) (zlo x)
def zgA (M : zM) (a k : Nat) : Int64 := zmk (M a (2 * k)) (M a (2 * k + 1))
def zupB (M : zM) (a k : Nat) (x : Int64) : zM := zup (zup M a (2 * k) (zhi x)) a (2 * k + 1) (zlo x)
def zgL (M : zM) (a k : Nat) : Int64 := zmk (M a k) (M a (k + 1000))
def zshL : List Nat := [11, 8, 21, 6, 9, 21, 20, 20, 20, 0, 20, 20, 20, 20, 20, 20, 20, 20, 20, 20, 20, 6, 9, 21, 20, 20, 20, 0, 20, 20, 20, 20, 20, 20, 20, 20, 20, 20, 20, 7, 10, 20, 20, 10, 20, 20, 10, 20, 20, 3, 20, 20, 20, 20, 20, 20, 3, 20, 20, 20, 20, 20, 20, 1, 20, 20, 20, 2, 21, 4, 20, 20, 20, 5, 20, 20, 20, 20, 20, 12, 20, 20, 20, 20, 20, 20, 20, 20, 20, 20, 20, 20, 20, 20, 20, 20, 20, 20, 20, 20, 20, 22, 20, 20, 20, 20, 20, 20, 20, 20, 20, 20, 20, 20, 20, 20, 20, 20, 20, 20, 20, 20, 20, 20, 23]
def zalL : List Nat := [0, 0, 700, 0, 0, 72, 8, 5, 5, 0, 7, 700, 40, 8, 8, 8, 8, 64, 12, 12, 12, 0, 0, 72, 8, 5, 5, 0, 7, 700, 40, 8, 8, 8, 8, 64, 12, 12, 12, 0, 0, 8, 64, 0, 8, 64, 0, 8, 64, 0, 40, 40, 40, 40, 8, 8, 0, 40, 40, 40, 40, 8, 8, 0, 8, 8, 256, 0, 4096, 0, 720, 720, 720, 0, 8, 3, 3, 64, 3, 0, 72, 8, 8, 8, 8, 64, 8, 36, 1900, 700, 3, 72, 8, 8, 8, 8, 64, 8, 36, 1900, 950, 9, 73, 73, 2920, 7, 950, 8, 256, 720, 720, 720, 720, 8, 5, 5, 16, 28, 3, 3, 64, 73, 2920, 16, 1]
def zgrL : List (List Nat) := [[1, 3, 21, 39, 40, 43, 46, 49, 56, 63, 67, 69, 73, 78, 0, 0], [2, 0, 0, 0, 0, 0, 0, 0, 0], [], [0, 0, 0, 0, 4, 9, 13, 14, 15, 16, 17, 18, 19, 20], [5, 6, 7, 8, 0, 0], [], [], [], [], [10, 11, 12, 0, 0], [], [], [], [], [], [], [], [], [], [], [], [0, 0, 0, 0, 22, 27, 31, 32, 33, 34, 35, 36, 37, 38], [23, 24, 25, 26, 0, 0], [], [], [], [], [28, 29, 30, 0, 0], [], [], [], [], [], [], [], [], [], [], [], [1, 21], [3, 41, 42, 0], [], [], [3, 44, 45, 0], [], [], [3, 47, 48, 0], [], [], [0, 0, 50, 51, 52, 53, 54, 55], [], [], [], [], [], [], [0, 0, 57, 58, 59, 60, 61, 62], [], [], [], [], [], [], [3, 40, 64, 0, 65, 66], [], [], [], [40, 68, 0], [], [40, 67, 70, 0, 71, 72, 0], [], [], [], [40, 67, 49, 74, 75, 76, 77, 0, 0, 0, 0], [], [], [], [], [], [0, 0, 0, 0, 0, 80, 81, 82, 83, 84, 85, 86, 87, 88, 89, 0, 0, 0, 90, 0, 0, 0, 0, 0, 0, 0, 0, 0, 0, 0, 0, 0, 0, 0, 0, 0, 91, 92, 93, 94, 95, 96, 97, 98, 99, 100, 101, 102, 103, 104, 0, 105, 106, 107, 108, 109, 110, 111, 112, 113, 0, 114, 115, 0, 0, 116, 117, 118, 119, 120, 0, 0, 0, 0, 0, 0, 121, 122, 123], [], [], [], [], [], [], [], [], [], [], [], [], [], [], [], [], [], [], [], [], [], [], [], [], [], [], [], [], [], [], [], [], [], [], [], [], [], [], [], [], [], [], [], [], []]
def zfkL : List (List Nat) := [[1, 1, 1, 0, 0], [1, 1, 1, 0, 1, 1], [1, 1, 0], [0, 0, 1, 1, 1, 1, 1, 1], [1, 1, 1, 0, 1, 1, 0], [1, 1, 1, 1, 1, 1, 1, 0, 0, 0, 0], [0, 0, 0, 0, 1, 1, 1, 1, 1, 1, 1, 1, 1, 1], [1, 1], [1, 0, 0, 0, 0, 0, 0, 0, 0], [1, 1, 1, 1, 0, 0], [1, 1, 1, 0], [1, 1, 1, 1, 1, 1, 1, 1, 1, 1, 1, 1, 1, 1, 0, 0], [0, 0, 0, 0, 0, 1, 1, 1, 1, 1, 1, 1, 1, 1, 1, 0, 0, 0, 1, 0, 0, 0, 0, 0, 0, 0, 2, 0, 0, 0, 0, 0, 0, 0, 0, 0, 1, 1, 1, 1, 1, 1, 1, 1, 1, 1, 1, 1, 1, 1, 0, 1, 1, 1, 1, 1, 1, 1, 1, 1, 0, 1, 1, 0, 0, 1, 1, 1, 1, 1, 0, 0, 0, 0, 0, 0, 1, 1, 1]]
/-- the shape of a cell: 0 to 12 a class, 20 int[], 21 byte[], 22 boolean[], 23 long[] -/
def zsh (i : Nat) : Nat := zshL.getD i 99
def zal (i : Nat) : Nat := zalL.getD i 0
def zgr (i k : Nat) : Nat := (zgrL.getD i []).getD k 0
def zfk (c k : Nat) : Nat := (zfkL.getD c []).getD k 0
def znf (c : Nat) : Nat := (zfkL.getD c []).length
/-- what a run of the law fixes: the tables' numbers, the first address, the arrays' classes, the addresses of texts and of their bytes, the script (its address, how many ints, these) -/
abbrev zG : Type := va_G × Nat × (Nat → ClassId) × (Nat → Nat) × (Nat → Nat) × (Nat × Nat × (Nat → Int32))
def zfv (b : Nat) (row : Nat → Int32) (i c k : Nat) : Value := if zfk c k = 0 then .int (row k) else if zfk c k = 1 then .ref (b + zgr i k) else .long (zmk (row k) (row (k + 1000)))
def zce (G : zG) (row : Nat → Int32) (i : Nat) : va_E :=
  if zsh i < 13 then .inr (zsh i, (List.range (znf (zsh i))).map (zfv G.2.1 row i (zsh i)))
  else .inl (G.2.2.1 (zsh i), (zal i, if zsh i = 23 then .inr (.inl (fun j => zmk (row (2 * j)) (row (2 * j + 1)))) else .inl row))
def zws (G : zG) (M : zM) : va_W := (List.range 125).map (fun i => (G.2.1 + i, zce G (M i) i))
def zA (G : zG) : Nat → Prop := fun q => G.2.1 ≤ q
theorem zsh_lt {i s : Nat} (h : zsh i = s) (hs : s ≠ 99) : i < 125 := by
  rcases Nat.lt_or_ge i 125 with q | q
  · exact q
  · exfalso
    apply hs
    rw [← h]
    unfold zsh
    rw [List.getD_eq_getElem?_getD, List.getElem?_eq_none (by exact q)]
    rfl
theorem zr_get {α : Type} {N i : Nat} {f : Nat → α} (h : i < N) : ((List.range N).map f)[i]? = some (f i) := by
  rw [List.getElem?_map, List.getElem?_range h]
  rfl
theorem zr_inv {α : Type} {N k : Nat} {f : Nat → α} {q : α} (h : ((List.range N).map f)[k]? = some q) : q = f k := by
  rcases Nat.lt_or_ge k N with hk | hk
  · rw [zr_get hk] at h
    exact (Option.some.inj h).symm
  · rw [List.getElem?_eq_none (by rw [List.length_map, List.length_range]; exact hk)] at h
    cases h
theorem zr_set {α : Type} {N a : Nat} {f g : Nat → α} {E : α} (hE : g a = E) (ho : ∀ j, j ≠ a → g j = f j) : ((List.range N).map f).set a E = (List.range N).map g := by
  apply List.ext_getElem?
  intro j
  rw [List.getElem?_set]
  by_cases hj : a = j
  · subst hj
    rw [if_pos rfl, List.length_map, List.length_range]
    by_cases hl : a < N
    · rw [if_pos hl, zr_get hl, hE]
    · rw [if_neg hl, List.getElem?_eq_none (by rw [List.length_map, List.length_range]; omega)]
  · rw [if_neg hj]
    rcases Nat.lt_or_ge j N with hl | hl
    · rw [zr_get hl, zr_get hl, ho j (fun h => hj h.symm)]
    · rw [List.getElem?_eq_none (by rw [List.length_map, List.length_range]; exact hl), List.getElem?_eq_none (by rw [List.length_map, List.length_range]; exact hl)]
theorem zws_get {G : zG} {M : zM} {i : Nat} (h : i < 125) : (zws G M)[i]? = some (G.2.1 + i, zce G (M i) i) := zr_get h
theorem zws_D (G : zG) (M : zM) : va_D (zA G) (zws G M) := by
  refine ⟨fun i j p q hp hq he => ?_, fun k q hq => ?_⟩
  · have h1 := congrArg Prod.fst (zr_inv hp)
    have h2 := congrArg Prod.fst (zr_inv hq)
    dsimp only at h1 h2
    omega
  · have h1 := congrArg Prod.fst (zr_inv hq)
    dsimp only at h1
    show G.2.1 ≤ q.1
    omega
theorem zws_set {G : zG} {M M' : zM} {a : Nat} {E : va_E} (hE : zce G (M' a) a = E) (ho : ∀ j, j ≠ a → M' j = M j) : (zws G M).set a (G.2.1 + a, E) = zws G M' :=
  zr_set (f := fun i => (G.2.1 + i, zce G (M i) i)) (g := fun i => (G.2.1 + i, zce G (M' i) i)) (by rw [hE]) (fun j hj => by rw [ho j hj])
theorem zup_ne {M : zM} {a k j : Nat} {v : Int32} (h : j ≠ a) : zup M a k v j = M j := by
  funext i
  simp [zup, h]
theorem zup_row {M : zM} {a k : Nat} {v : Int32} : zup M a k v a = upd (M a) k v := by
  funext i
  simp [zup, upd]
