/-! WHAT TIES BOTH HALVES. The sea as numbers: S 0 0 isles, S 1 0 fairs, S 2 0 speed, S 3 i letters of a name, S 4 (9 i + j) its letter, S 5, 6 i its place, S 7 i its sort, S 8 (8 i + name) the how manieth wish (0: none), S 9, 10, 11 f a fair's year, isles -/
abbrev zSD : Type := Nat → Nat → Nat
def zSok (S : zSD) : Prop :=
  S 0 0 ≤ 8 ∧ S 1 0 ≤ 12 ∧ 1 ≤ S 2 0 ∧ S 2 0 ≤ 9 ∧ (∀ i, i < S 0 0 → 1 ≤ S 3 i ∧ S 3 i ≤ 9 ∧ S 5 i ≤ 60 ∧ S 6 i ≤ 60 ∧ S 7 i ≤ 2) ∧ (∀ i, i < S 0 0 → ∀ j, j < S 3 i → 1 ≤ S 4 (9 * i + j) ∧ S 4 (9 * i + j) ≤ 26) ∧
  (∀ i, i < S 0 0 → ∀ k, k < S 0 0 → S 8 (8 * i + k) ≤ 8) ∧ (∀ f, f < S 1 0 → S 9 f ≤ 200 ∧ S 10 f < S 0 0 ∧ S 11 f < S 0 0 ∧ S 10 f ≠ S 11 f)
/-- the class's half, the reference's -/
def zSx (S : zSD) (M : zM) : Prop :=
  M 3 0 = nI (S 0 0) ∧ M 3 1 = nI (S 1 0) ∧ M 3 2 = nI (S 2 0) ∧ (∀ i, i < S 0 0 → M 6 i = nI (S 3 i) ∧ M 13 i = nI (S 5 i) ∧ M 14 i = nI (S 6 i) ∧ M 15 i = nI (S 7 i)) ∧ (∀ i, i < S 0 0 → ∀ j, j < S 3 i → M 5 (9 * i + j) = nI (S 4 (9 * i + j))) ∧
  (∀ i, i < S 0 0 → ∀ k, k < S 0 0 → M 17 (8 * i + k) = nI (S 8 (8 * i + k))) ∧ (∀ f, f < S 1 0 → M 18 f = nI (S 9 f) ∧ M 19 f = nI (S 10 f) ∧ M 20 f = nI (S 11 f)) ∧ (∀ j, (M 23 j).toInt8.toInt32 = M 23 j)
def zSm (S : zSD) (M : zM) : Prop :=
  M 79 1 = nI (S 0 0) ∧ M 79 2 = nI (S 1 0) ∧ M 79 3 = nI (S 2 0) ∧ (∀ i, i < S 0 0 → M 81 i = nI (S 3 i) ∧ M 82 i = nI (S 5 i) ∧ M 83 i = nI (S 6 i) ∧ M 84 i = nI (S 7 i)) ∧ (∀ i, i < S 0 0 → ∀ j, j < S 3 i → M 80 (9 * i + j) = nI (S 4 (9 * i + j))) ∧
  (∀ i, i < S 0 0 → ∃ w, w ≤ 8 ∧ M 86 i = nI w ∧ (∀ k, k < w → ∃ v, v < S 0 0 ∧ M 85 (8 * i + k) = nI v ∧ S 8 (8 * i + v) = k + 1) ∧ (∀ v, v < S 0 0 → S 8 (8 * i + v) ≠ 0 → S 8 (8 * i + v) ≤ w ∧ M 85 (8 * i + (S 8 (8 * i + v) - 1)) = nI v)) ∧
  (∀ f, f < S 1 0 → M 87 (3 * f) = nI (S 9 f) ∧ M 87 (3 * f + 1) = nI (S 10 f) ∧ M 87 (3 * f + 2) = nI (S 11 f))
/-- names, debts, the year -/
abbrev zWD : Type := (Nat → Nat) × (Nat → Int32) × Int32
def zWok (S : zSD) (w : zWD) : Prop := (∀ i, i < 8 → w.1 i < 8) ∧ (∀ i, i < S 0 0 → ∀ j, j < S 0 0 → w.1 i = w.1 j → i = j) ∧ (∀ i, i < S 0 0 → w.1 i < S 0 0) ∧ ∀ i, i < 8 → ∀ j, j < 8 → w.2.1 (8 * j + i) = - w.2.1 (8 * i + j)
/-- in an object of the class's worlds (40, 43, 46) -/
def zWx (c : Nat) (w : zWD) (M : zM) : Prop := (∀ i, i < 8 → M (c + 1) i = nI (w.1 i)) ∧ (∀ k, k < 64 → M (c + 2) k = w.2.1 k) ∧ M c 3 = w.2.2
/-- in a row of the reference (102, 103, 121), from a place on -/
def zWr (r : Nat → Int32) (at_ : Nat) (w : zWD) : Prop := (∀ i, i < 8 → r (at_ + i) = nI (w.1 i)) ∧ (∀ k, k < 64 → r (at_ + 8 + k) = w.2.1 k) ∧ r (at_ + 72) = w.2.2
/-- a swap: names, debts -/
def zWex (S : zSD) (a b : Nat) (w : zWD) : zWD :=
  (fun i => if i = a then w.1 b else if i = b then w.1 a else w.1 i,
   fun k => if k = 8 * a + b then w.2.1 (8 * a + b) + (nI (S 3 (w.1 b)) - nI (S 3 (w.1 a))) else if k = 8 * b + a then - (w.2.1 (8 * a + b) + (nI (S 3 (w.1 b)) - nI (S 3 (w.1 a)))) else w.2.1 k, w.2.2)
/-- easy calls -/
theorem px_fault (M : zM) : F_X11_fault 0 M = zI (M 1 8) M := by
  unfold F_X11_fault
  simp only [gr_0_0, gr_0_1, gr_0_2, gr_0_3, gr_0_4, gr_0_5, gr_0_6, gr_0_7, gr_0_8, gr_0_9, gr_0_10, gr_0_11, gr_0_12, gr_0_13, gr_1_0, gr_3_4, gr_3_5, gr_3_6, gr_3_7, gr_3_8, gr_3_9, gr_3_10, gr_3_11, gr_3_12, gr_3_13, gr_4_0, gr_4_1, gr_4_2, gr_4_3, gr_9_0, gr_9_1, gr_9_2, gr_21_4, gr_21_5, gr_21_6, gr_21_7, gr_21_8, gr_21_9, gr_21_10, gr_21_11, gr_21_12, gr_21_13, gr_22_0, gr_22_1, gr_22_2, gr_22_3, gr_27_0, gr_27_1, gr_27_2, gr_39_0, gr_39_1, gr_40_0, gr_40_1, gr_40_2, gr_43_0, gr_43_1, gr_43_2, gr_46_0, gr_46_1, gr_46_2, gr_49_2, gr_49_3, gr_49_4, gr_49_5, gr_49_6, gr_49_7, gr_56_2, gr_56_3, gr_56_4, gr_56_5, gr_56_6, gr_56_7, gr_63_0, gr_63_1, gr_63_2, gr_63_4, gr_63_5, gr_67_0, gr_67_1, gr_69_0, gr_69_1, gr_69_2, gr_69_4, gr_69_5, gr_73_0, gr_73_1, gr_73_2, gr_73_3, gr_73_4, gr_73_5, gr_73_6]
theorem pm_fault (M : zM) : F_X12_fault 79 M = zI (M 79 17) (zup M 79 0 0) := by
  unfold F_X12_fault
  simp only [zst_eq, zup_at]
  simp
theorem pm_thrown (M : zM) : F_X12_thrown 79 M = zI (M 79 0) M := by
  unfold F_X12_thrown
  rfl
