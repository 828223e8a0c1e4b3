/-! SALES, the class's -/
/-- couples in the order of two loops -/
def zpi (a : Nat) : Nat → List (Nat × Nat)
  | 0 => []
  | b + 1 => zpi a b ++ (if a < b then [(a, b)] else [])
def zpo (n : Nat) : Nat → List (Nat × Nat)
  | 0 => []
  | a + 1 => zpo n a ++ zpi a n
theorem zpi_eq (a : Nat) : ∀ b, zpi a b = ((List.range b).filter (fun b => decide (a < b))).map (fun b => (a, b))
  | 0 => rfl
  | b + 1 => by
    show zpi a b ++ _ = _
    rw [zpi_eq a b, List.range_succ, List.filter_append, List.map_append]
    congr 1
    by_cases h : a < b
    · rw [if_pos h]
      simp [h]
    · rw [if_neg h]
      simp [h]
theorem zpo_eq (n : Nat) : ∀ a, zpo n a = (List.range a).flatMap (fun a => ((List.range n).filter (fun b => decide (a < b))).map (fun b => (a, b)))
  | 0 => rfl
  | a + 1 => by
    show zpo n a ++ zpi a n = _
    rw [zpo_eq n a, zpi_eq, List.range_succ, List.flatMap_append]
    simp
theorem zpr_eq (n : Nat) : zpr n = zpo n n := (zpo_eq n n).symm
theorem zpi_lo (a : Nat) : ∀ b, b ≤ a + 1 → zpi a b = []
  | 0, _ => rfl
  | b + 1, h => by
    show zpi a b ++ _ = _
    rw [zpi_lo a b (by omega), if_neg (by omega)]
    rfl
theorem zsw_2 {a b : Nat} (hab : a ≠ b) (p : Nat → Nat) : zsw a b (zsw a b p) = p := by
  funext i
  unfold zsw
  by_cases h1 : i = a
  · rw [if_pos h1, if_neg (Ne.symm hab), if_pos rfl, h1]
  · rw [if_neg h1]
    by_cases h2 : i = b
    · rw [if_pos h2, if_pos rfl, h2]
    · rw [if_neg h2, if_neg h1, if_neg h2]
/-- names in range -/
def zpk (n : Nat) (p : Nat → Nat) : Prop := (∀ i, i < 8 → p i < 8) ∧ ∀ i, i < n → p i < n
theorem zpk_sw {n a b : Nat} {p : Nat → Nat} (h8 : n ≤ 8) (h : zpk n p) (ha : a < n) (hb : b < n) : zpk n (zsw a b p) := by
  have e : ∀ i, zsw a b p i = p (if i = a then b else if i = b then a else i) := fun i => by
    unfold zsw
    by_cases h1 : i = a
    · rw [if_pos h1, if_pos h1]
    · rw [if_neg h1, if_neg h1]
      by_cases h2 : i = b
      · rw [if_pos h2, if_pos h2]
      · rw [if_neg h2, if_neg h2]
  exact ⟨fun i hi => by rw [e]; exact h.1 _ (zsg (by omega) (by omega) hi), fun i hi => by rw [e]; exact h.2 _ (zsg ha hb hi)⟩
theorem zfit_iff (p : Nat → Nat) : ∀ v : List (Nat × Nat), zfit v p = true ↔ ∀ j, j < v.length → p (v.getD j (0, 0)).1 = (v.getD j (0, 0)).2
  | [] => ⟨fun _ j hj => absurd hj (Nat.not_lt_zero _), fun _ => rfl⟩
  | z :: v => by
    have ih := zfit_iff p v
    have e : zfit (z :: v) p = ((p z.1 == z.2) && zfit v p) := rfl
    rw [e, Bool.and_eq_true_iff, ih]
    constructor
    · rintro ⟨h1, h2⟩ j hj
      cases j with
      | zero => exact eq_of_beq h1
      | succ j => exact h2 j (by simp only [List.length_cons] at hj; omega)
    · intro h
      exact ⟨beq_iff_eq.mpr (h 0 (by simp only [List.length_cons]; omega)), fun j hj => h (j + 1) (by simp only [List.length_cons]; omega)⟩
theorem zal74 : zal 74 = 8 := by decide +kernel
theorem getD_in {α : Type} (d : α) : ∀ (l : List α) (i : Nat), i < l.length → l.getD i d ∈ l
  | [], i, h => absurd h (Nat.not_lt_zero _)
  | a :: l, 0, _ => List.mem_cons_self
  | a :: l, i + 1, h => List.mem_cons_of_mem _ (getD_in d l i (by simp only [List.length_cons] at h; omega))
section ZRW
variable {S : zSD}
theorem ft_x {M : zM} (ho : zSok S) {v : List (Nat × Nat)} (hv : zVok S v) (h1 : M 49 1 = nI v.length) (hV : zVx (M 54) (M 55) v) {p : Nat → Nat} (hp : zpk (S 0 0) p) (hn : ∀ i, i < 8 → M 74 i = nI (p i)) : F_X3_fit 49 74 M = zI (if zfit v p = true then 1 else 0) M := by
  have h8 := so_n ho
  have hv8 := hv.1
  unfold F_X3_fit
  refine zfor (i := 0) (f := zN) (a := ()) v.length (fun f k (_ : Unit) => F_X3_fit_L2 49 74 (fun (M1 : zM) => zck (zbo 1) (zI 1 M1)) f (nI k) M) (fun k _ => ∀ j, j < k → p (v.getD j (0, 0)).1 = (v.getD j (0, 0)).2) (fun o => o = zI (if zfit v p = true then 1 else 0) M) ?_ ?_ (by omega) (zN_ge (by omega)) (fun j hj => absurd hj (Nat.not_lt_zero _))
  · rintro f k _ hk hI
    obtain ⟨e1, e2⟩ := hV k hk
    obtain ⟨g1, g2⟩ := hv.2 _ (getD_in (0, 0) v k hk)
    have hp1 := hp.1 (v.getD k (0, 0)).1 (by omega)
    show F_X3_fit_L2 49 74 _ (f + 1) _ M = _ ∨ ∃ _, F_X3_fit_L2 49 74 _ (f + 1) _ M = F_X3_fit_L2 49 74 _ f _ M ∧ _
    rw [F_X3_fit_L2, h1, zit_f (nI_ge hk (by omega)), zin_k (k := k) (n := 8) (by omega) (by omega), zck_t, gr_49_6, gr_49_7, zix_k (k := k) (by omega), e1, e2, zal74, zin_k (k := (v.getD k (0, 0)).1) (n := 8) (by omega) (by omega), zck_t, zck_t, zix_k (k := (v.getD k (0, 0)).1) (by omega), hn _ (by omega), nI_1]
    by_cases q : p (v.getD k (0, 0)).1 = (v.getD k (0, 0)).2
    · rw [zit_t (by rw [q])]
      refine Or.inr ⟨(), rfl, fun j hj => ?_⟩
      by_cases hjk : j = k
      · rw [hjk]; exact q
      · exact hI j (by omega)
    · rw [zit_f (fun e => q ((nI_eq (by omega) (by omega)).mp e)), if_neg (fun z => q ((zfit_iff p v).mp z k hk))]
      exact Or.inl rfl
  · rintro f _ hI
    show F_X3_fit_L2 49 74 _ (f + 1) _ M = _
    rw [F_X3_fit_L2, h1, zit_t (nI_le (Nat.le_refl _) (by omega)), if_pos ((zfit_iff p v).mpr hI)]
    rfl
/-- what is found so far -/
def zXr (S : zSD) (k : Nat) (R : List (List Nat × (Nat → Nat))) (M : zM) : Prop := M 73 7 = nI R.length ∧ (∀ z l, R = z :: l → ∀ j, j < k → M 76 j = nI (z.1.getD j 0)) ∧ (M 73 9 = 0 ∨ M 73 9 = 1 ∧ ∀ i j, i < S 0 0 → j < S 0 0 → M 77 (8 * i + j) = nI (R.countP (fun z => z.2 i == j)))
theorem tk_x {M : zM} (hS3 : M 3 0 = nI (S 0 0)) (ho : zSok S) {v : List (Nat × Nat)} (hv : zVok S v) (h1 : M 49 1 = nI v.length) (hV : zVx (M 54) (M 55) v) {p : Nat → Nat} (hp : zpk (S 0 0) p) (hn : ∀ i, i < 8 → M 74 i = nI (p i)) {k : Nat} (hk : k ≤ 3) {s : List Nat} (h75 : ∀ j, j < k → M 75 j = nI (s.getD j 0)) {R : List (List Nat × (Nat → Nat))} (hR : R.length < 100000) (hX : zXr S k R M) : ∃ M', F_X5_take 73 M = zV M' ∧ (zXr S k (if zfit v p = true then R ++ [(s, p)] else R) M' ∧ (∀ z, z ≠ 7 → M' 73 z = M 73 z) ∧ zoff [73, 76, 77] M M') := by
  have h8 := so_n ho
  obtain ⟨x1, x2, x3⟩ := hX
  unfold F_X5_take
  rw [gr_73_2, gr_73_3, ft_x ho hv h1 hV hp hn, zbI_I]
  cases hz : zfit v p with
  | false =>
    rw [if_neg (by decide), zit_t (by decide), if_neg (by decide)]
    exact ⟨M, rfl, ⟨x1, x2, x3⟩, fun _ _ => rfl, zoff_rfl⟩
  | true =>
    rw [if_pos rfl, zit_f (by decide), if_pos rfl, zjo_eq]
    have main : ∀ M1 : zM, M1 73 = M 73 → zoff [76] M M1 → (∀ z l, R ++ [(s, p)] = z :: l → ∀ j, j < k → M1 76 j = nI (z.1.getD j 0)) → ∃ M', zst (zup M1 73 7 (M1 73 7 + 1)) (fun M4 => zjo (fun (M7 : zM) => zV M7) (fun (k2 : zM → zO) => zit ((M4 73 9) = 0) (k2 M4) (F_X5_take_L55 73 (fun (M6 : zM) => k2 M6) zN 0 M4))) = zV M' ∧ (zXr S k (R ++ [(s, p)]) M' ∧ (∀ z, z ≠ 7 → M' 73 z = M 73 z) ∧ zoff [73, 76, 77] M M') := fun M1 e73 o1 hf => by
      rw [zst_eq, zjo_eq, e73, x1, nI_1]
      have e9 : zup M1 73 7 (nI (R.length + 1)) 73 9 = M 73 9 := by rw [zup_row, upd_ne (by omega), e73]
      have el : (R ++ [(s, p)]).length = R.length + 1 := by rw [List.length_append]; rfl
      have o2 : zoff [73, 76, 77] M (zup M1 73 7 (nI (R.length + 1))) := zoff_up (zoff_mono o1 (by decide)) (by decide)
      rw [e9]
      rcases x3 with h0 | ⟨h9, hc⟩
      · rw [zit_t h0]
        refine ⟨_, rfl, ⟨?_, fun z l hzl j hj => ?_, Or.inl ?_⟩, fun z hz7 => ?_, o2⟩
        · rw [zup_row, upd_eq, el]
        · rw [zup_ne (by omega)]
          exact hf z l hzl j hj
        · rw [e9]; exact h0
        · rw [zup_row, upd_ne hz7, e73]
      · rw [zit_f (by rw [h9]; decide)]
        obtain ⟨M2, hM2⟩ : ∃ M2, zup M1 73 7 (nI (R.length + 1)) = M2 := ⟨_, rfl⟩
        rw [hM2] at o2 e9 ⊢
        have key : ∃ M', F_X5_take_L55 73 (fun (M6 : zM) => zV M6) zN 0 M2 = zV M' ∧ ((∀ i j, i < S 0 0 → j < S 0 0 → M' 77 (8 * i + j) = nI ((R ++ [(s, p)]).countP (fun z => z.2 i == j))) ∧ zoff [77] M2 M') := by
          refine zfor (i := 0) (f := zN) (a := M2) (S 0 0) (fun f c (M3 : zM) => F_X5_take_L55 73 (fun (M6 : zM) => zV M6) f (nI c) M3) (fun c M3 => (∀ i j, i < S 0 0 → j < S 0 0 → M3 77 (8 * i + j) = nI (if i < c then (R ++ [(s, p)]).countP (fun z => z.2 i == j) else R.countP (fun z => z.2 i == j))) ∧ zoff [77] M2 M3) (fun o => ∃ M', o = zV M' ∧ ((∀ i j, i < S 0 0 → j < S 0 0 → M' 77 (8 * i + j) = nI ((R ++ [(s, p)]).countP (fun z => z.2 i == j))) ∧ zoff [77] M2 M')) ?_ ?_ (by omega) (zN_ge (by omega)) ⟨fun i j hi hj => ?_, zoff_rfl⟩
          · rintro f c M3 hc' ⟨g1, o3⟩
            refine Or.inr ?_
            have hpc := hp.2 c hc'
            have e74 : M3 74 c = nI (p c) := by rw [o3 74 (by decide), o2 74 (by decide)]; exact hn c (by omega)
            have e30 : M3 3 0 = nI (S 0 0) := by rw [o3 3 (by decide), o2 3 (by decide)]; exact hS3
            show ∃ M4, F_X5_take_L55 73 _ (f + 1) (nI c) M3 = F_X5_take_L55 73 _ f (nI (c + 1)) M4 ∧ _
            have ei : nI c * 8 + nI (p c) = nI (c * 8 + p c) := ix8 c (p c)
            rw [F_X5_take_L55, gr_73_0, gr_40_0, e30, zit_f (nI_ge hc' (by omega)), zin_k (k := c) (n := 8) (by omega) (by omega), zck_t, gr_73_3, gr_73_6, zix_k (k := c) (by omega), e74, ei, zin_k (k := c * 8 + p c) (n := 64) (by omega) (by omega), zck_t, zck_t, zst_eq, zix_k (k := c * 8 + p c) (by omega), nI_1]
            refine ⟨_, rfl, fun i j hi hj => ?_, zoff_up o3 (by decide)⟩
            rw [zup_row]
            have gc := g1 c (p c) hc' hpc
            rw [if_neg (Nat.lt_irrefl _)] at gc
            by_cases e : 8 * i + j = c * 8 + p c
            · obtain ⟨rfl, rfl⟩ : i = c ∧ j = p c := by omega
              rw [e, upd_eq, ← e, gc, nI_1, if_pos (by omega), List.countP_append]
              congr 2
              simp
            · rw [upd_ne e, g1 i j hi hj]
              congr 1
              by_cases hic : i < c
              · rw [if_pos hic, if_pos (by omega)]
              · rw [if_neg hic]
                by_cases hic2 : i < c + 1
                · obtain rfl : i = c := by omega
                  rw [if_pos hic2, List.countP_append]
                  have : (p i == j) = false := by
                    rw [beq_eq_false_iff_ne]
                    omega
                  simp [this]
                · rw [if_neg hic2]
          · rintro f M3 ⟨g1, o3⟩
            have e30 : M3 3 0 = nI (S 0 0) := by rw [o3 3 (by decide), o2 3 (by decide)]; exact hS3
            show ∃ M', F_X5_take_L55 73 _ (f + 1) _ M3 = _ ∧ _
            rw [F_X5_take_L55, gr_73_0, gr_40_0, e30, zit_t (nI_le (Nat.le_refl _) (by omega))]
            exact ⟨M3, rfl, fun i j hi hj => by rw [g1 i j hi hj, if_pos hi], o3⟩
          · rw [if_neg (Nat.not_lt_zero _), ← hM2, zup_ne (by omega), o1 77 (by decide)]
            exact hc i j hi hj
        obtain ⟨M', e', hc', o'⟩ := key
        refine ⟨M', e', ⟨?_, fun z l hzl j hj => ?_, Or.inr ⟨?_, hc'⟩⟩, fun z hz7 => ?_, zoff_trans o2 (zoff_mono o' (by decide))⟩
        · rw [o' 73 (by decide), ← hM2, zup_row, upd_eq, el]
        · rw [o' 76 (by decide), ← hM2, zup_ne (by omega)]
          exact hf z l hzl j hj
        · rw [o' 73 (by decide), e9]; exact h9
        · rw [o' 73 (by decide), ← hM2, zup_row, upd_ne hz7, e73]
    cases R with
    | nil =>
      rw [zit_t (by rw [x1]; rfl), show zcpk 0 0 3 3 3 = true from by decide, zck_t, zst_eq, gr_73_4, gr_73_5]
      dsimp only
      refine main _ (by rw [zupA_ne (by omega)]) (zoff_upA zoff_rfl (by decide)) (fun z l hzl j hj => ?_)
      have ez : z = (s, p) := by
        have := (List.cons.inj hzl).1
        exact this.symm
      rw [zupA_eq, show zix 0 = 0 from by decide, show zix 3 = 3 from by decide, cpy_in (by omega), h75 j hj, ez]
    | cons z0 l0 =>
      rw [zit_f (by rw [x1]; exact nI_ne0 (by simp only [List.length_cons]; omega) (by omega))]
      dsimp only
      refine main M rfl zoff_rfl (fun z l hzl j hj => ?_)
      have ez : z0 = z := (List.cons.inj hzl).1
      rw [← ez]
      exact x2 z0 l0 rfl j hj
end ZRW
