/-! SALES: the class finds its rows, or has them -/
theorem zal77 : zal 77 = 64 := by decide +kernel
/-- the class's half behind its finding: rows' cells and permits' may change -/
def zXk : List Nat := [67, 68, 73, 74, 75, 76, 77]
theorem zQx_rows {q : zSt} {M M' : zM} (h : zQx q M) (e : ∀ i, i < 79 → i ∉ zXc → i ∉ zXk → M' i = M i) {k : Nat} (hk : k ≤ tC q) (hk15 : M 0 15 = nI k) (h67 : zmade M' 67 2 k ∧ (M' 67 2 = nI k → zCp q (M' 68))) (h73 : zmade M' 73 10 k ∧ (M' 73 10 = nI k → zCw q (M' 73) (M' 76) (M' 77))) : zQx q M' := by
  have h1 : zQx q (zupA (zupA (zupA (zupA (zupA (zupA (zupA M' 67 (M 67)) 68 (M 68)) 73 (M 73)) 74 (M 74)) 75 (M 75)) 76 (M 76)) 77 (M 77)) := zQx_off h (fun z h1 h2 => by
    unfold zupA
    by_cases z77 : z = 77
    · rw [if_pos z77, z77]
    · rw [if_neg z77]
      by_cases z76 : z = 76
      · rw [if_pos z76, z76]
      · rw [if_neg z76]
        by_cases z75 : z = 75
        · rw [if_pos z75, z75]
        · rw [if_neg z75]
          by_cases z74 : z = 74
          · rw [if_pos z74, z74]
          · rw [if_neg z74]
            by_cases z73 : z = 73
            · rw [if_pos z73, z73]
            · rw [if_neg z73]
              by_cases z68 : z = 68
              · rw [if_pos z68, z68]
              · rw [if_neg z68]
                by_cases z67 : z = 67
                · rw [if_pos z67, z67]
                · rw [if_neg z67]
                  exact e z h1 h2 (by
                    simp only [zXk, List.mem_cons, List.mem_nil_iff, or_false]
                    omega))
  obtain ⟨ho, hS, hI, hT, hF, hR, k', hk', hk15', -, hr, -⟩ := h1
  unfold zSx zLx zHx zWx at hS
  unfold zHx zWx at hI
  unfold zmade at hr
  simp (disch := omega) only [zupA_ne] at hS hI hT hF hR hk15' hr
  have e0 : M' 0 = M 0 := e 0 (by decide) (by decide) (by decide)
  have ekk : k' = k := by
    rw [e0, hk15] at hk15'
    have := ho.2.2.2.2.2.2
    exact ((nI_eq (by omega) (by omega)).mp hk15').symm
  subst ekk
  exact ⟨ho, hS, hI, hT, hF, hR, k', hk', hk15', h67, hr, h73⟩
section ZFN
variable {q : zSt}
theorem zrf_eq (q : zSt) (k : Nat) : zrf q k = (zrw (tS q) (tL q) (tW q) k (tW q).1).filter (fun z => zfit (tV q) z.2) := rfl
theorem fn_x {M : zM} (h : zQx q M) {k : Nat} (hk3 : k ≤ 3) (t : Bool) {c : Nat} (hc : c ≤ tC q) (h15 : M 0 15 = nI c) : ∃ M', F_X5_find 73 (nI k) (if t = true then 1 else 0) (nI c) M = zV M' ∧ (zQx q M' ∧ M' 0 15 = nI c ∧ M' 73 8 = nI k ∧ zXr (tS q) k (zrf q k) M' ∧ (t = true → M' 73 9 = 1) ∧ ∀ i, 79 ≤ i → M' i = M i) := by
  have ho := qx_o h
  have h8 := qo_n ho
  have hC6 := ho.2.2.2.2.2.2
  obtain ⟨-, -, -, -, -, -, c', hc', hc15, ⟨m67, p67⟩, ⟨m69, p69⟩, ⟨m73, p73⟩⟩ := id h
  have ecc : c' = c := by
    rw [h15] at hc15
    exact ((nI_eq (by omega) (by omega)).mp hc15).symm
  subst ecc
  unfold F_X5_find
  rw [zjo_eq]
  have hit : M 73 10 = nI c' → M 73 8 = nI k → (t = true → M 73 9 = 1) → (zQx q M ∧ M 0 15 = nI c' ∧ M 73 8 = nI k ∧ zXr (tS q) k (zrf q k) M ∧ (t = true → M 73 9 = 1) ∧ ∀ i, 79 ≤ i → M i = M i) := fun a1 a2 a3 => by
    obtain ⟨k', k1, k2, k3, k4, k5⟩ := p73 a1
    have ekk : k' = k := by
      rw [a2] at k2
      exact ((nI_eq (by omega) (by omega)).mp k2).symm
    subst ekk
    exact ⟨h, h15, a2, ⟨k3, k4, k5⟩, a3, fun _ _ => rfl⟩
  have calc' : ∃ M', (fun (M2 : zM) => zst (zup M2 73 10 (nI c')) (fun M3 => zst (zup M3 73 8 (nI k)) (fun M4 => zck (zbo (if t = true then 1 else 0)) (zst (zup M4 73 9 (if t = true then 1 else 0)) (fun M5 => zst (zup M5 73 7 0) (fun M6 => zbV (F_X2_renew (zgr 73 1) (nI c') M6) (fun M7 => zbV (F_J7_fill_53178 (zgr 73 6) 0 M7) (fun M8 => zck (zcpk 0 0 8 8 8) (zst (zupA M8 (zgr 73 3) (va_cpy (M8 (zgr (zgr 73 0) 1)) (M8 (zgr 73 3)) (zix 0) (zix 0) (zix 8))) (fun M9 => zbV (Fr_X5_grow 9 73 0 M9) (fun M10 => zV M10))))))))))) M = zV M' ∧ (zQx q M' ∧ M' 0 15 = nI c' ∧ M' 73 8 = nI k ∧ zXr (tS q) k (zrf q k) M' ∧ (t = true → M' 73 9 = 1) ∧ ∀ i, 79 ≤ i → M' i = M i) := by
    dsimp only
    rw [zst_eq, zst_eq, show zbo (if t = true then 1 else 0) = true from by cases t <;> decide, zck_t, zst_eq, zst_eq, gr_73_1, gr_73_6, gr_73_3, gr_73_0, gr_40_1]
    obtain ⟨M1, hM1⟩ : ∃ M1, zup (zup (zup (zup M 73 10 (nI c')) 73 8 (nI k)) 73 9 (if t = true then 1 else 0)) 73 7 0 = M1 := ⟨_, rfl⟩
    rw [hM1]
    have o1 : zoff [73] M M1 := by
      rw [← hM1]
      exact zoff_up (zoff_up (zoff_up (zoff_up zoff_rfl (by decide)) (by decide)) (by decide)) (by decide)
    have v7 : M1 73 7 = 0 := by rw [← hM1, zup_row, upd_eq]
    have v9 : M1 73 9 = if t = true then 1 else 0 := by rw [← hM1, zup_row, upd_ne (by omega), zup_row, upd_eq]
    have v8 : M1 73 8 = nI k := by rw [← hM1, zup_row, upd_ne (by omega), zup_row, upd_ne (by omega), zup_row, upd_eq]
    have v10 : M1 73 10 = nI c' := by rw [← hM1, zup_row, upd_ne (by omega), zup_row, upd_ne (by omega), zup_row, upd_ne (by omega), zup_row, upd_eq]
    obtain ⟨M2, e2, h67, hp2, o2⟩ := rn_x (S := tS q) (L := tL q) (w := tW q) (M := M1) (k := c') (qo_S ho) (fun hz => by
      rw [o1 68 (by decide)]
      rw [o1 67 (by decide)] at hz
      exact p67 hz)
    rw [e2, zbV_V, fi_x zal77 (by omega), zbV_V, zcp8, zck_t, zst_eq, zi0, zi8]
    obtain ⟨M3, hM3⟩ : ∃ M3, zupA M2 77 (fun i => if i < 64 then 0 else M2 77 i) = M3 := ⟨_, rfl⟩
    rw [hM3]
    have o3 : zoff [77] M2 M3 := by rw [← hM3]; exact zoff_upA zoff_rfl (by decide)
    obtain ⟨M4, hM4⟩ : ∃ M4, zupA M3 74 (va_cpy (M3 41) (M3 74) 0 0 8) = M4 := ⟨_, rfl⟩
    rw [hM4]
    have o4 : zoff [74] M3 M4 := by rw [← hM4]; exact zoff_upA zoff_rfl (by decide)
    have o14 : zoff zXk M M4 := zoff_trans (zoff_mono o1 (by decide)) (zoff_trans (zoff_mono o2 (by decide)) (zoff_trans (zoff_mono o3 (by decide)) (zoff_mono o4 (by decide))))
    have f73 : ∀ z, M4 73 z = M1 73 z := fun z => by rw [o4 73 (by decide), o3 73 (by decide), o2 73 (by decide)]
    have hS4 : zSx (tS q) M4 := zSx_off (qx_S h) (fun i hi => o14 i (fun hz => by
      simp only [zXk, List.mem_cons, List.mem_nil_iff, or_false] at hi hz
      omega))
    have hL4 : zLx (tL q) M4 := zLx_off (qx_L h) (o14 9 (by decide)) (o14 11 (by decide))
    have hW4 : zWx 40 (tW q) M4 := by
      have := qx_W h
      unfold zWx at this ⊢
      rw [o14 40 (by decide), o14 (40 + 1) (by decide), o14 (40 + 2) (by decide)]
      exact this
    obtain ⟨-, -, -, hH1, hHV⟩ := qx_H h
    have hG4 : zGc (tS q) (tL q) (tW q) (tV q) M4 := ⟨hS4, hL4, hW4, by rw [o4 68 (by decide), o3 68 (by decide)]; exact hp2, by rw [o14 49 (by decide)]; exact hH1, by rw [o14 54 (by decide), o14 55 (by decide)]; exact hHV⟩
    have hp4 : zpk (tS q 0 0) (tW q).1 := ⟨(qo_W ho).1, (qo_W ho).2.2.1⟩
    obtain ⟨M5, e5, d1, d2, d3, d4, d5, d6⟩ := gr_x (k := k) (w := tW q) (qo_S ho) (qo_L ho) ho.2.2.1.2.2.2 hk3 k 0 (by omega) 9 (by omega) M4 (tW q).1 [] [] hG4 hp4 (fun i hi => by
      rw [← hM4, zupA_eq, cpy_in hi, o3 41 (by decide), o2 41 (by decide), o1 41 (by decide)]
      exact x_n h i hi) rfl (fun j hj => absurd hj (Nat.not_lt_zero _)) (by rw [f73, v8]) ⟨by rw [f73, v7]; rfl, fun z l hzl => (nomatch hzl), by
      cases t with
      | false => exact Or.inl (by rw [f73, v9]; rfl)
      | true => exact Or.inr ⟨by rw [f73, v9]; rfl, fun i j hi hj => by
        rw [o4 77 (by decide), ← hM3, zupA_eq, if_pos (by omega)]
        rfl⟩⟩ (by
      have : 28 ^ k ≤ 28 ^ 3 := Nat.pow_le_pow_right (by decide) hk3
      simp only [List.length_nil]
      omega)
    rw [show (0 : Int32) = nI 0 from rfl, e5, zbV_V]
    have eR : ([] : List (List Nat × (Nat → Nat))) ++ ((zrw (tS q) (tL q) (tW q) k (tW q).1).filter (fun z => zfit (tV q) z.2)).map (fun z => (([] : List Nat) ++ z.1, z.2)) = zrf q k := by
      rw [List.nil_append, zrf_eq]
      exact List.map_id' _
    rw [eR] at d5
    have g8 : M5 73 8 = nI k := by rw [d4 8 (by omega), f73, v8]
    have g9 : M5 73 9 = if t = true then 1 else 0 := by rw [d4 9 (by omega), f73, v9]
    have g10 : M5 73 10 = nI c' := by rw [d4 10 (by omega), f73, v10]
    have o5 : ∀ i, i ∉ zGl → i ∉ zXk → M5 i = M i := fun i h1 h2 => by rw [d6 i h1, o14 i h2]
    refine ⟨M5, rfl, zQx_rows h (fun i h1 h2 h3 => o5 i (fun hz => ?_) h3) hc' h15 ⟨?_, fun _ => d1.2.2.2.1⟩ ⟨?_, fun _ => ⟨k, hk3, g8, d5⟩⟩, ?_, g8, d5, fun ht => by rw [g9, ht]; rfl, fun i hi => o5 i (by simp only [zGl, List.mem_cons, List.mem_nil_iff, or_false]; omega) (by simp only [zXk, List.mem_cons, List.mem_nil_iff, or_false]; omega)⟩
    · simp only [zGl, List.mem_cons, List.mem_nil_iff, or_false] at hz
      rcases hz with rfl | rfl | rfl | rfl | rfl | rfl | rfl | rfl
      · exact h2 (by decide)
      · exact h2 (by decide)
      all_goals exact h3 (by decide)
    · refine Or.inr ⟨c', Nat.le_refl _, ?_⟩
      rw [d6 67 (by decide), o4 67 (by decide), o3 67 (by decide)]
      exact h67
    · exact Or.inr ⟨c', Nat.le_refl _, g10⟩
    · rw [o5 0 (by decide) (by decide)]
      exact h15
  by_cases a1 : M 73 10 = nI c'
  · rw [zit_t a1]
    by_cases a2 : M 73 8 = nI k
    · rw [zit_t a2, zjo_eq]
      have hb9 : M 73 9 = 0 ∨ M 73 9 = 1 := by
        obtain ⟨k', k1, k2, k3, k4, k5⟩ := p73 a1
        rcases k5 with k5 | ⟨k5, -⟩
        · exact Or.inl k5
        · exact Or.inr k5
      rcases hb9 with h9 | h9
      · rw [zit_t h9]
        cases t with
        | false =>
          rw [zit_t (by decide)]
          exact ⟨M, rfl, hit a1 a2 (fun z => absurd z (by decide))⟩
        | true =>
          rw [zit_f (by decide)]
          exact calc'
      · rw [zit_f (by rw [h9]; decide)]
        exact ⟨M, rfl, hit a1 a2 (fun _ => h9)⟩
    · rw [zit_f a2]
      exact calc'
  · rw [zit_f a1]
    exact calc'
end ZFN
