/-! WHAT AN ACT CHANGES -/
def zqA (q : zSt) (w : zWD) (a : List zWD) (v : List (Nat × Nat)) : zSt := (tS q, tL q, w, a, v, tG q, tT q, tF q, tR q, tC q + 1)
def zqR (q : zSt) (i : Nat) : zSt := (tS q, tL q, tW q, tA q, tV q, tG q, tT q, tF q, upd (tR q) i (tR q i + 1), tC q)
def zqI (q : zSt) : zSt := (tS q, tL q, tW q, tA q, tV q, some (tW q, tA q, tV q), tT q, tF q, tR q, tC q)
theorem zok_A {q : zSt} (h : zok q) (hC : tC q < 600) {w : zWD} {a : List zWD} {v : List (Nat × Nat)} (hk : zHok (tS q) w a v) : zok (zqA q w a v) := ⟨h.1, h.2.1, hk, h.2.2.2.1, h.2.2.2.2.1, h.2.2.2.2.2.1, hC⟩
theorem zmade_up {M M' : zM} {c s k : Nat} (h : zmade M c s k) (e : M' c = M c) : zmade M' c s (k + 1) := by
  unfold zmade at h ⊢
  rw [e]
  rcases h with h | ⟨z, hz, h⟩
  · exact Or.inl h
  · exact Or.inr ⟨z, by omega, h⟩
theorem zmade_no {M M' : zM} {c s k : Nat} (hk : k ≤ 600) (h : zmade M c s k) (e : M' c = M c) : ¬ M' c s = nI (k + 1) := by
  intro hz
  rw [e] at hz
  rcases h with h | ⟨z, hz', h⟩
  · rw [h] at hz
    exact n_eqpn (a := k + 1) (b := 1) (by omega) (by omega) (by omega) hz.symm
  · rw [h] at hz
    have := (nI_eq (by omega) (by omega)).mp hz
    omega
def zXw : List Nat := [0, 40, 41, 42, 49, 50, 51, 52, 53, 54, 55]
theorem zQx_act {q : zSt} {M M' : zM} (h : zQx q M) (hC : tC q < 600) {w : zWD} {a : List zWD} {v : List (Nat × Nat)} (hk : zHok (tS q) w a v) (e : ∀ i, i < 79 → i ∉ zXc → i ∉ zXw → M' i = M i) (e14 : M' 0 14 = M 0 14) (e15 : M' 0 15 = M 0 15 + 1) (hH : zHx (tS q) 40 49 M' w a v) : zQx (zqA q w a v) M' := by
  have hok := zok_A h.1 hC hk
  obtain ⟨ho, ⟨hS, hL, -⟩, hI, ⟨hT1, hT2⟩, hF, hR, k, hk1, hk2, ⟨m1, -⟩, ⟨m2, -⟩, ⟨m3, -⟩⟩ := h
  have e1 := e 1 (by decide) (by decide) (by decide)
  have e2 := e 2 (by decide) (by decide) (by decide)
  have e78 := e 78 (by decide) (by decide) (by decide)
  have e67 := e 67 (by decide) (by decide) (by decide)
  have e69 := e 69 (by decide) (by decide) (by decide)
  have e73 := e 73 (by decide) (by decide) (by decide)
  refine ⟨hok, ⟨zSx_off hS (fun i hi => ?_), zLx_off hL (e 9 (by decide) (by decide) (by decide)) (e 11 (by decide) (by decide) (by decide)), hH⟩, ?_, ⟨by rw [e1]; exact hT1, by rw [e2]; exact hT2⟩, by rw [e1]; exact hF, by rw [e78]; exact hR, k + 1, ?_, ?_, ⟨zmade_up m1 e67, fun z => absurd z (zmade_no ?_ m1 e67)⟩, ⟨zmade_up m2 e69, fun z => absurd z (zmade_no ?_ m2 e69)⟩, ⟨zmade_up m3 e73, fun z => absurd z (zmade_no ?_ m3 e73)⟩⟩
  · revert hi
    revert i
    intro i hi
    simp only [List.mem_cons, List.mem_nil_iff, or_false] at hi
    rcases hi with rfl | rfl | rfl | rfl | rfl | rfl | rfl | rfl | rfl | rfl | rfl
    all_goals exact e _ (by decide) (by decide) (by decide)
  · show (match tG q with | none => M' 0 14 = 0 | some z => M' 0 14 = 1 ∧ zHx (tS q) 46 56 M' z.1 z.2.1 z.2.2)
    rw [e14]
    cases hG : tG q with
    | none => rw [hG] at hI; exact hI
    | some z =>
      rw [hG] at hI
      refine ⟨hI.1, ?_⟩
      have hI2 := hI.2
      unfold zHx zWx at hI2 ⊢
      rw [e 46 (by decide) (by decide) (by decide), e (46 + 1) (by decide) (by decide) (by decide), e (46 + 2) (by decide) (by decide) (by decide), e 56 (by decide) (by decide) (by decide), e (56 + 1) (by decide) (by decide) (by decide), e (56 + 2) (by decide) (by decide) (by decide), e (56 + 3) (by decide) (by decide) (by decide), e (56 + 4) (by decide) (by decide) (by decide), e (56 + 5) (by decide) (by decide) (by decide), e (56 + 6) (by decide) (by decide) (by decide)]
      exact hI2
  · show k + 1 ≤ tC q + 1
    omega
  · rw [e15, hk2, nI_1]
  all_goals omega
def zMww : List Nat := [102, 104, 116]
theorem zQm_act {q : zSt} {M M' : zM} (h : zQm q M) (hC : tC q < 600) {w : zWD} {a : List zWD} {v : List (Nat × Nat)} (hk : zHok (tS q) w a v) (e : ∀ i, 80 ≤ i → i < 124 → i ∉ zMs → i ∉ zMww → M' i = M i) (e79 : ∀ k, k ∈ zMf → k ≠ 50 → k ≠ 64 → M' 79 k = M 79 k) (hH : zHm (M' 102) (M' 104) (M' 116) (M' 79 50) (M' 79 64) w a v) : zQm (zqA q w a v) M' := by
  have hok := zok_A h.1 hC hk
  obtain ⟨ho, ⟨hS, hL, -⟩, hI, ⟨hT1, hT2⟩, hF, hR, k, hk1, hk2, hk3⟩ := h
  refine ⟨hok, ⟨zSm_off hS (fun i hi => ?_) (fun i hi => ?_), zLm_off hL (e79 4 (by decide) (by decide) (by decide)) (e 88 (by decide) (by decide) (by decide) (by decide)), hH⟩, ?_, ⟨?_, ?_⟩, ?_, ?_, k, ?_, ?_, ?_⟩
  · simp only [List.mem_cons, List.mem_nil_iff, or_false] at hi
    rcases hi with rfl | rfl | rfl
    all_goals exact e79 _ (by decide) (by decide) (by decide)
  · simp only [List.mem_cons, List.mem_nil_iff, or_false] at hi
    rcases hi with rfl | rfl | rfl | rfl | rfl | rfl | rfl | rfl
    all_goals exact e _ (by decide) (by decide) (by decide) (by decide)
  · show (match tG q with | none => M' 79 73 = 0 | some z => M' 79 73 = 1 ∧ zHm (M' 121) (M' 122) (M' 123) (M' 79 74) (M' 79 75) z.1 z.2.1 z.2.2)
    rw [e79 73 (by decide) (by decide) (by decide), e79 74 (by decide) (by decide) (by decide), e79 75 (by decide) (by decide) (by decide), e 121 (by decide) (by decide) (by decide) (by decide), e 122 (by decide) (by decide) (by decide) (by decide), e 123 (by decide) (by decide) (by decide) (by decide)]
    exact hI
  · rw [e79 15 (by decide) (by decide) (by decide)]; exact hT1
  · rw [e 89 (by decide) (by decide) (by decide) (by decide)]; exact hT2
  · rw [e79 17 (by decide) (by decide) (by decide)]; exact hF
  · rw [e 90 (by decide) (by decide) (by decide) (by decide)]; exact hR
  · show k ≤ tC q + 1
    omega
  · rw [e79 60 (by decide) (by decide) (by decide)]; exact hk2
  · rw [e 109 (by decide) (by decide) (by decide) (by decide)]; exact hk3
/-- forget -/
theorem op_forget (q : zSt) (ho : zok q) (hC : tC q < 600) : ∃ q', tC q' ≤ tC q + 1 ∧ (∀ M, zQx q M → ∃ M1, F_X11_forget 0 M = zV M1 ∧ zQx q' M1 ∧ ∀ i, 79 ≤ i → M1 i = M i) ∧ (∀ M, zQm q M → ∃ M1, F_X12_forget 79 M = zV M1 ∧ zQm q' M1 ∧ ∀ i, (i < 79 ∨ i = 124) → M1 i = M i) := by
  have hk : zHok (tS q) (tW q) (tA q) [] := ⟨ho.2.2.1.1, ho.2.2.1.2.1, ho.2.2.1.2.2.1, by decide, fun z hz => absurd hz List.not_mem_nil⟩
  refine ⟨zqA q (tW q) (tA q) [], Nat.le_refl _, fun M h => ?_, fun M h => ?_⟩
  · unfold F_X11_forget
    rw [zst_eq, zst_eq, gr_0_7]
    refine ⟨_, rfl, zQx_act h hC hk (fun i h1 h2 h3 => ?_) ?_ ?_ ?_, fun i hi => by rw [zup_ne (by omega), zup_ne (by omega)]⟩
    · rw [zup_ne (fun e => h3 (by rw [e]; decide)), zup_ne (fun e => h3 (by rw [e]; decide))]
    · simp (disch := omega) only [zup_ne, zup_row, upd_ne]
    · simp (disch := omega) only [zup_ne, zup_row, upd_eq]
    · obtain ⟨hW, h0, hA, h1, hV⟩ := qx_H h
      unfold zHx zWx
      simp (disch := omega) only [zup_ne, zup_row, upd_ne, upd_eq]
      exact ⟨hW, h0, hA, rfl, fun i hi => absurd hi (Nat.not_lt_zero _)⟩
  · unfold F_X12_forget
    rw [zst_eq, zst_eq]
    refine ⟨_, rfl, zQm_act h hC hk (fun i h1 h2 h3 h4 => ?_) (fun k h1 h2 h3 => ?_) ?_, fun i hi => by rw [zup_ne (by omega), zup_ne (by omega)]⟩
    · rw [zup_ne (by omega), zup_ne (by omega)]
    · have h4 : k ≠ 0 := fun e => by subst e; revert h1; decide
      simp only [zup_row]
      rw [upd_ne h3, upd_ne h4]
    · obtain ⟨hW, h0, hA, h1, hV⟩ := qm_H h
      unfold zHm
      simp (disch := omega) only [zup_ne, zup_row, upd_ne, upd_eq]
      exact ⟨hW, h0, hA, rfl, fun i hi => absurd hi (Nat.not_lt_zero _)⟩
