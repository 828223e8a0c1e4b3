/-! indices, refusals -/
theorem lt8_31 {n : Nat} (h : n ≤ 8) : n < 2 ^ 31 := by omega
theorem px_isle_in {n k : Nat} {M : zM} (h : M 3 0 = nI n) (hn : n ≤ 8) (hk : k < n) : F_X11_needIsle 0 (nI k) M = zV M := by
  unfold F_X11_needIsle
  simp only [zjo_eq, gr_0_1, h]
  rw [zit_f (nI_pos (by omega)), zit_t (nI_lt hk (by omega))]
theorem px_isle_out {n : Nat} {a : Int32} {M : zM} (h : M 3 0 = nI n) (ha : a < 0 ∨ nI n ≤ a) : F_X11_needIsle 0 a M = zE "java/util/NoSuchElementException" M := by
  unfold F_X11_needIsle
  simp only [zjo_eq, gr_0_1, h]
  by_cases h0 : a < 0
  · rw [zit_t h0]
  · rw [zit_f h0, zit_f (fun z => by
      rcases ha with q | q
      · exact h0 q
      · exact Int32.lt_irrefl (Int32.lt_of_lt_of_le z q))]
theorem px_name_in {n k : Nat} {M : zM} (h : M 3 0 = nI n) (hn : n ≤ 8) (hk : k < n) : F_X11_needName 0 (nI k) M = zV M := by
  unfold F_X11_needName
  simp only [zjo_eq, gr_0_1, h]
  rw [zit_f (nI_pos (by omega)), zit_t (nI_lt hk (by omega))]
theorem px_name_out {n : Nat} {a : Int32} {M : zM} (h : M 3 0 = nI n) (ha : a < 0 ∨ nI n ≤ a) : F_X11_needName 0 a M = zE "java/util/NoSuchElementException" M := by
  unfold F_X11_needName
  simp only [zjo_eq, gr_0_1, h]
  by_cases h0 : a < 0
  · rw [zit_t h0]
  · rw [zit_f h0, zit_f (fun z => by
      rcases ha with q | q
      · exact h0 q
      · exact Int32.lt_irrefl (Int32.lt_of_lt_of_le z q))]
theorem px_amount_in {k m : Nat} {M : zM} (hk : k ≤ m) (hm : m < 2 ^ 31) : F_X11_needAmount (nI k) (nI m) M = zV M := by
  unfold F_X11_needAmount
  simp only [zjo_eq]
  rw [zit_f (nI_pos (by omega)), zit_t (nI_le hk hm)]
theorem px_amount_out {a m : Int32} {M : zM} (ha : a < 0 ∨ m < a) : F_X11_needAmount a m M = zE "java/lang/IllegalArgumentException" M := by
  unfold F_X11_needAmount
  simp only [zjo_eq]
  by_cases h0 : a < 0
  · rw [zit_t h0]
  · rw [zit_f h0, zit_f (fun z => by
      rcases ha with q | q
      · exact h0 q
      · exact Int32.lt_irrefl (Int32.lt_of_lt_of_le q z))]
theorem px_unlike_in {a b : Int32} {M : zM} (h : a ≠ b) : F_X11_needUnlike a b M = zV M := by
  unfold F_X11_needUnlike
  rw [zit_f h]
theorem px_unlike_out {a : Int32} {M : zM} : F_X11_needUnlike a a M = zE "java/lang/IllegalArgumentException" M := by
  unfold F_X11_needUnlike
  rw [zit_t rfl]
/-- the reference's -/
theorem pm_right1 {a b : Int32} {M : zM} (h : M 79 0 = 0) (ha : a ≠ 0) : F_X12_right 79 a b M = zI 1 M := by
  unfold F_X12_right
  simp only [zjo_eq]
  rw [zit_t h, zit_f ha, zit_t h, zbo_1, zck_t]
theorem pm_right0 {b : Int32} {M : zM} (h : M 79 0 = 0) (hb : b ≠ 0) : F_X12_right 79 0 b M = zI 0 (zup M 79 0 b) := by
  unfold F_X12_right
  simp only [zjo_eq, zst_eq]
  rw [zit_t h, zit_t trivial, zit_f (by rw [zup_eq]; exact hb), zbo_0, zck_t]
theorem pm_one_in {n k : Nat} {M : zM} (h : M 79 0 = 0) (hn1 : M 79 1 = nI n) (hn : n ≤ 8) (hk : k < n) : F_X12_isOne 79 (nI k) M = zI 1 M := by
  unfold F_X12_isOne
  simp only [zjo_eq, hn1]
  rw [zit_f (nI_pos (by omega)), zit_f (nI_ge hk (by omega)), pm_right1 h (by decide), zbI_I, zbo_1, zck_t]
theorem pm_one_out {n : Nat} {a : Int32} {M : zM} (h : M 79 0 = 0) (hn1 : M 79 1 = nI n) (ha : a < 0 ∨ nI n ≤ a) : F_X12_isOne 79 a M = zI 0 (zup M 79 0 1) := by
  unfold F_X12_isOne
  simp only [zjo_eq, hn1]
  have e : zbI (F_X12_right 79 0 1 M) (fun r1 M3 => zck (zbo r1) (zI r1 M3)) = zI 0 (zup M 79 0 1) := by
    rw [pm_right0 h (by decide), zbI_I, zbo_0, zck_t]
  by_cases h0 : a < 0
  · rw [zit_t h0, e]
  · rw [zit_f h0, zit_t (ha.resolve_left h0), e]
theorem pm_two_in {n j k : Nat} {M : zM} (h : M 79 0 = 0) (hn1 : M 79 1 = nI n) (hn : n ≤ 8) (hj : j < n) (hk : k < n) (hjk : j ≠ k) : F_X12_areTwo 79 (nI j) (nI k) M = zI 1 M := by
  unfold F_X12_areTwo
  simp only [zjo_eq]
  rw [pm_one_in h hn1 hn hj, zbI_I, zit_f (by decide), pm_one_in h hn1 hn hk, zbI_I, zit_f (by decide), zit_f (fun e => hjk ((nI_eq (by omega) (by omega)).mp e)), pm_right1 h (by decide), zbI_I, zit_f (by decide), zbo_1, zck_t]
theorem pm_two_same {n j : Nat} {M : zM} (h : M 79 0 = 0) (hn1 : M 79 1 = nI n) (hn : n ≤ 8) (hj : j < n) : F_X12_areTwo 79 (nI j) (nI j) M = zI 0 (zup M 79 0 2) := by
  unfold F_X12_areTwo
  simp only [zjo_eq]
  rw [pm_one_in h hn1 hn hj, zbI_I, zit_f (by decide), pm_one_in h hn1 hn hj, zbI_I, zit_f (by decide), zit_t trivial, pm_right0 h (by decide), zbI_I, zit_t rfl, zbo_0, zck_t]
theorem pm_two_out1 {n : Nat} {a b : Int32} {M : zM} (h : M 79 0 = 0) (hn1 : M 79 1 = nI n) (ha : a < 0 ∨ nI n ≤ a) : F_X12_areTwo 79 a b M = zI 0 (zup M 79 0 1) := by
  unfold F_X12_areTwo
  simp only [zjo_eq]
  rw [pm_one_out h hn1 ha, zbI_I, zit_t rfl, zbo_0, zck_t]
theorem pm_two_out2 {n j : Nat} {b : Int32} {M : zM} (h : M 79 0 = 0) (hn1 : M 79 1 = nI n) (hn : n ≤ 8) (hj : j < n) (hb : b < 0 ∨ nI n ≤ b) : F_X12_areTwo 79 (nI j) b M = zI 0 (zup M 79 0 1) := by
  unfold F_X12_areTwo
  simp only [zjo_eq]
  rw [pm_one_in h hn1 hn hj, zbI_I, zit_f (by decide), pm_one_out h hn1 hb, zbI_I, zit_t rfl, zbo_0, zck_t]
theorem pm_within_in {k lo hi : Nat} {M : zM} (h1 : lo ≤ k) (h2 : k ≤ hi) (h3 : hi < 2 ^ 31) : F_X12_within (nI k) (nI lo) (nI hi) M = zI 1 M := by
  unfold F_X12_within
  simp only [zjo_eq]
  rw [zit_f (nI_nlt h1 (by omega)), zit_f (nI_nlt h2 h3), zbo_1, zck_t]
theorem pm_within_out {a lo hi : Int32} {M : zM} (h : a < lo ∨ hi < a) : F_X12_within a lo hi M = zI 0 M := by
  unfold F_X12_within
  simp only [zjo_eq]
  by_cases h0 : a < lo
  · rw [zit_t h0, zbo_0, zck_t]
  · rw [zit_f h0, zit_t (h.resolve_left h0), zbo_0, zck_t]
