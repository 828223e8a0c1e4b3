/-! ACTS ARE KEPT -/
def zkp (l : List zWD) : List zWD := if l.length < 40 then l else l.dropLast
theorem zkp_len {l : List zWD} (h : l.length ≤ 40) : (zkp l).length ≤ 39 := by
  unfold zkp
  by_cases h1 : l.length < 40
  · rw [if_pos h1]; omega
  · rw [if_neg h1, List.length_dropLast]; omega
theorem zkp_mem {l : List zWD} {a : zWD} (h : a ∈ zkp l) : a ∈ l := by
  unfold zkp at h
  by_cases h1 : l.length < 40
  · rw [if_pos h1] at h; exact h
  · rw [if_neg h1] at h; exact List.dropLast_subset l h
theorem zAx_cg {S : zSD} {k1 k2 k3 k4 j1 j2 j3 j4 : Nat → Int32} : ∀ (l : List zWD) (w : zWD), (∀ i, i < l.length → j1 i = k1 i ∧ j2 i = k2 i ∧ j3 i = k3 i ∧ j4 i = k4 i) → zAx S k1 k2 k3 k4 w l → zAx S j1 j2 j3 j4 w l
  | [], _, _, _ => trivial
  | a :: l, w, he, h => by
    obtain ⟨e1, e2, e3, e4⟩ := he l.length (Nat.lt_succ_self _)
    unfold zAx at h ⊢
    rw [e1, e2, e3, e4]
    exact ⟨h.1, h.2.1, zAx_cg l a (fun i hi => he i (Nat.lt_succ_of_lt hi)) h.2.2⟩
theorem zAx_sh {S : zSD} {k1 k2 k3 k4 : Nat → Int32} : ∀ (l : List zWD) (w : zWD), zAx S k1 k2 k3 k4 w l → zAx S (fun i => k1 (i + 1)) (fun i => k2 (i + 1)) (fun i => k3 (i + 1)) (fun i => k4 (i + 1)) w l.dropLast
  | [], _, _ => trivial
  | [_], _, _ => trivial
  | a :: b :: l, w, h => by
    have ih := zAx_sh (b :: l) a h.2.2
    have e : ((b :: l).dropLast).length + 1 = (b :: l).length := by rw [List.length_dropLast]; rfl
    show zAx S _ _ _ _ w (a :: (b :: l).dropLast)
    unfold zAx at h ⊢
    simp only [e]
    exact ⟨h.1, h.2.1, ih⟩
theorem zAm_cg {r r' : Nat → Int32} : ∀ l : List zWD, (∀ i, i < 73 * l.length → r' i = r i) → zAm r l → zAm r' l
  | [], _, _ => trivial
  | a :: l, he, h => by
    have hl : (a :: l).length = l.length + 1 := rfl
    refine ⟨⟨fun i hi => ?_, fun k hk => ?_, ?_⟩, zAm_cg l (fun i hi => he i (by omega)) h.2⟩
    · rw [he _ (by omega)]; exact h.1.1 i hi
    · rw [he _ (by omega)]; exact h.1.2.1 k hk
    · rw [he _ (by omega)]; exact h.1.2.2
theorem zAm_sh {r : Nat → Int32} : ∀ l : List zWD, zAm r l → zAm (fun i => r (i + 73)) l.dropLast
  | [], _ => trivial
  | [_], _ => trivial
  | a :: b :: l, h => by
    have e : 73 * ((b :: l).dropLast).length + 73 = 73 * (b :: l).length := by
      rw [List.length_dropLast]
      show 73 * l.length + 73 = 73 * (l.length + 1)
      omega
    refine ⟨⟨fun i hi => ?_, fun k hk => ?_, ?_⟩, zAm_sh (b :: l) h.2⟩
    · show r (73 * ((b :: l).dropLast).length + i + 73) = _
      rw [← h.1.1 i hi]; congr 1; omega
    · show r (73 * ((b :: l).dropLast).length + 8 + k + 73) = _
      rw [← h.1.2.1 k hk]; congr 1; omega
    · show r (73 * ((b :: l).dropLast).length + 72 + 73) = _
      rw [← h.1.2.2]; congr 1; omega
/-- the class -/
theorem ad_x {S : zSD} {M : zM} {w : zWD} {l : List zWD} (hl : l.length ≤ 40) (h0 : M 49 0 = nI l.length) (hA : zAx S (M 50) (M 51) (M 52) (M 53) w l) (k i j v : Int32) : ∃ M', F_X3_add 49 k i j v M = zV M' ∧ (M' 49 0 = nI ((zkp l).length + 1) ∧ M' 49 1 = M 49 1 ∧ zAx S (M' 50) (M' 51) (M' 52) (M' 53) w (zkp l) ∧ (M' 50 (zkp l).length = k ∧ M' 51 (zkp l).length = i ∧ M' 52 (zkp l).length = j ∧ M' 53 (zkp l).length = v) ∧ zoff [49, 50, 51, 52, 53] M M') := by
  unfold F_X3_add
  by_cases h4 : l.length < 40
  · have e : zkp l = l := if_pos h4
    rw [e]
    simp (disch := omega) only [zbI_I, zbI_E, zbV_V, zbV_E, zbJ_J, zbH_I, zbH_E, zlt_eq, zltL_eq, zst_eq, zjo_eq, zck_t, zbo_0, zbo_1, zbo_n0, zbo_n1, c_lt_t, c_lt_f, c_le_t, c_le_f, c_eq_t, c_eq_f, c_T, c_F, d_ltpn, d_ltnp, d_ltnn_t, d_ltnn_f, d_lepn, d_lenp, d_eqpn, d_eqnp, d_eqnn_t, d_eqnn_f, li_40, li_1, gr_49_2, gr_49_3, gr_49_4, gr_49_5, zup_ne, zup_row, upd_ne, h0, zin_k, zix_k, nI_add]
    refine ⟨_, rfl, ?_, ?_, zAx_cg l w (fun z hz => ?_) hA, ⟨?_, ?_, ?_, ?_⟩, fun z hz => ?_⟩
    · simp (disch := omega) only [zup_row, upd_eq]
    · simp (disch := omega) only [zup_ne, zup_row, upd_ne]
    · simp (disch := omega) only [zup_ne, zup_row, upd_ne]
      trivial
    · simp (disch := omega) only [zup_ne, zup_row, upd_eq]
    · simp (disch := omega) only [zup_ne, zup_row, upd_eq]
    · simp (disch := omega) only [zup_ne, zup_row, upd_eq]
    · simp (disch := omega) only [zup_ne, zup_row, upd_eq]
    · simp only [List.mem_cons, List.mem_nil_iff, or_false, not_or] at hz
      rw [zup_ne hz.1, zup_ne hz.2.2.2.2, zup_ne hz.2.2.2.1, zup_ne hz.2.2.1, zup_ne hz.2.1]
  · have h40 : l.length = 40 := by omega
    have e : zkp l = l.dropLast := if_neg h4
    have e39 : (zkp l).length = 39 := by rw [e, List.length_dropLast]; omega
    have cp : zcpk 1 0 (nI 39) 40 40 = true := by decide
    have z39 : zix (nI 39) = 39 := by decide
    have z1 : zix 1 = 1 := by decide
    have z0 : zix 0 = 0 := by decide
    unfold F_X3_dropOldest
    simp (disch := omega) only [zbV_V, zlt_eq, zst_eq, zjo_eq, zck_t, c_lt_t, c_lt_f, c_le_t, c_le_f, c_eq_t, c_eq_f, c_T, c_F, d_ltpn, d_ltnp, d_ltnn_t, d_ltnn_f, d_lepn, d_lenp, d_eqpn, d_eqnp, d_eqnn_t, d_eqnn_f, li_40, li_39, gr_49_2, gr_49_3, gr_49_4, gr_49_5, zup_ne, zup_row, zupA_ne, zupA_eq, upd_ne, upd_eq, h0, cp, z39, z1, z0]
    simp (disch := omega) only [zin_k, zix_k, li_1, nI_add, zck_t]
    rw [e39]
    refine ⟨_, rfl, ?_, ?_, ?_, ⟨?_, ?_, ?_, ?_⟩, fun z hz => ?_⟩
    · simp (disch := omega) only [zup_row, upd_eq]
    · simp (disch := omega) only [zup_ne, zup_row, upd_ne, zupA_ne]
    · rw [e]
      refine zAx_cg (k1 := fun i => M 50 (i + 1)) (k2 := fun i => M 51 (i + 1)) (k3 := fun i => M 52 (i + 1)) (k4 := fun i => M 53 (i + 1)) _ w (fun z hz => ?_) (zAx_sh l w hA)
      rw [← e, e39] at hz
      simp (disch := omega) only [zup_ne, zup_row, upd_ne, zupA_ne, zupA_eq]
      unfold va_cpy
      rw [if_pos ⟨by omega, by omega⟩, if_pos ⟨by omega, by omega⟩, if_pos ⟨by omega, by omega⟩, if_pos ⟨by omega, by omega⟩]
      rw [show 1 + (z - 0) = z + 1 from by omega]
      exact ⟨rfl, rfl, rfl, rfl⟩
    · simp (disch := omega) only [zup_ne, zup_row, upd_eq]
    · simp (disch := omega) only [zup_ne, zup_row, upd_eq]
    · simp (disch := omega) only [zup_ne, zup_row, upd_eq]
    · simp (disch := omega) only [zup_ne, zup_row, upd_eq]
    · simp only [List.mem_cons, List.mem_nil_iff, or_false, not_or] at hz
      simp only [zup_ne hz.1, zup_ne hz.2.2.2.2, zup_ne hz.2.2.2.1, zup_ne hz.2.2.1, zup_ne hz.2.1, zupA_ne hz.2.2.2.2, zupA_ne hz.2.2.2.1, zupA_ne hz.2.2.1, zupA_ne hz.2.1]
/-- the reference: rows move down, the row of now comes on top -/
theorem kp_m1 (K : zM → zO) (M : zM) : F_X12_keeps_L12 79 K zN 73 M = K (zupA M 104 (fun i => if i + 73 < 2920 then M 104 (i + 73) else M 104 i)) := by
  have e0 : M = zupA M 104 (fun i => if i + 73 < 73 then M 104 (i + 73) else M 104 i) := by
    exact (zupA_self M 104).symm.trans (congrArg (zupA M 104) (funext fun i => (if_neg (by omega)).symm))
  have key := zfor (i := 73) (f := zN) (a := ()) 2920 (fun f k (_ : Unit) => F_X12_keeps_L12 79 K f (nI k) (zupA M 104 (fun i => if i + 73 < k then M 104 (i + 73) else M 104 i))) (fun k _ => 73 ≤ k) (fun o => o = K (zupA M 104 (fun i => if i + 73 < 2920 then M 104 (i + 73) else M 104 i))) (by
    rintro f k _ hk h73
    refine Or.inr ⟨(), ?_, by omega⟩
    show F_X12_keeps_L12 79 K (f + 1) _ _ = F_X12_keeps_L12 79 K f _ _
    rw [F_X12_keeps_L12]
    simp (disch := omega) only [zbI_I, zbI_E, zbV_V, zbV_E, zbJ_J, zbH_I, zbH_E, zlt_eq, zltL_eq, zst_eq, zjo_eq, zck_t, zbo_0, zbo_1, zbo_n0, zbo_n1, c_lt_t, c_lt_f, c_le_t, c_le_f, c_eq_t, c_eq_f, c_T, c_F, d_ltpn, d_ltnp, d_ltnn_t, d_ltnn_f, d_lepn, d_lenp, d_eqpn, d_eqnp, d_eqnn_t, d_eqnn_f, li_2920, li_73, li_1, gr_79_49, s_sub, zin_k, zix_k, nI_add, zup_upA, zupA_eq]
    congr 1
    congr 1
    funext i
    by_cases h : i = k - 73
    · rw [h, upd_eq, if_neg (by omega), if_pos (by omega)]
      congr 1
      omega
    · rw [upd_ne h]
      by_cases h2 : i + 73 < k
      · rw [if_pos h2, if_pos (by omega)]
      · rw [if_neg h2, if_neg (by omega)]) (by
    rintro f _ h73
    show F_X12_keeps_L12 79 K (f + 1) _ _ = _
    rw [F_X12_keeps_L12]
    simp (disch := omega) only [c_lt_t, c_lt_f, c_le_t, c_le_f, c_eq_t, c_eq_f, c_T, c_F, d_ltpn, d_ltnp, d_ltnn_t, d_ltnn_f, d_lepn, d_lenp, d_eqpn, d_eqnp, d_eqnn_t, d_eqnn_f, li_2920]) (by omega) (by unfold zN; omega) (Nat.le_refl _)
  rw [← e0] at key
  exact key
theorem kp_m2 (K : zM → zO) (M : zM) {a : Nat} (ha : M 79 50 = nI a) (h4 : a < 40) : F_X12_keeps_L52 79 K zN 0 M = K (zupA M 104 (fun i => if 73 * a ≤ i ∧ i < 73 * a + 73 then M 102 (i - 73 * a) else M 104 i)) := by
  have e0 : M = zupA M 104 (fun i => if 73 * a ≤ i ∧ i < 73 * a + 0 then M 102 (i - 73 * a) else M 104 i) := by
    exact (zupA_self M 104).symm.trans (congrArg (zupA M 104) (funext fun i => (if_neg (by omega)).symm))
  have key := zfor (i := 0) (f := zN) (a := ()) 73 (fun f k (_ : Unit) => F_X12_keeps_L52 79 K f (nI k) (zupA M 104 (fun i => if 73 * a ≤ i ∧ i < 73 * a + k then M 102 (i - 73 * a) else M 104 i))) (fun _ _ => True) (fun o => o = K (zupA M 104 (fun i => if 73 * a ≤ i ∧ i < 73 * a + 73 then M 102 (i - 73 * a) else M 104 i))) (by
    rintro f k _ hk -
    refine Or.inr ⟨(), ?_, trivial⟩
    show F_X12_keeps_L52 79 K (f + 1) _ _ = F_X12_keeps_L52 79 K f _ _
    rw [F_X12_keeps_L52]
    simp (disch := omega) only [zbI_I, zbI_E, zbV_V, zbV_E, zbJ_J, zbH_I, zbH_E, zlt_eq, zltL_eq, zst_eq, zjo_eq, zck_t, zbo_0, zbo_1, zbo_n0, zbo_n1, c_lt_t, c_lt_f, c_le_t, c_le_f, c_eq_t, c_eq_f, c_T, c_F, d_ltpn, d_ltnp, d_ltnn_t, d_ltnn_f, d_lepn, d_lenp, d_eqpn, d_eqnp, d_eqnn_t, d_eqnn_f, li_73, li_1, gr_79_49, gr_79_47, zupA_ne, ha, pk_mul, nI_add, zin_k, zix_k, zup_upA]
    congr 1
    congr 1
    funext i
    by_cases h : i = 73 * a + k
    · rw [h, upd_eq, if_pos (by omega)]
      congr 1
      omega
    · rw [upd_ne h]
      by_cases h2 : 73 * a ≤ i ∧ i < 73 * a + k
      · rw [if_pos h2, if_pos (by omega)]
      · rw [if_neg h2, if_neg (by omega)]) (by
    rintro f _ -
    show F_X12_keeps_L52 79 K (f + 1) _ _ = _
    rw [F_X12_keeps_L52]
    simp (disch := omega) only [c_lt_t, c_lt_f, c_le_t, c_le_f, c_eq_t, c_eq_f, c_T, c_F, d_ltpn, d_ltnp, d_ltnn_t, d_ltnn_f, d_lepn, d_lenp, d_eqpn, d_eqnp, d_eqnn_t, d_eqnn_f, li_73]) (by omega) (by unfold zN; omega) trivial
  rw [← e0] at key
  exact key
theorem kp_m {M : zM} {w : zWD} {l : List zWD} (hl : l.length ≤ 40) (h0 : M 79 50 = nI l.length) (hA : zAm (M 104) l) (hW : zWr (M 102) 0 w) : ∃ M', F_X12_keeps 79 M = zV M' ∧ (M' 79 50 = nI ((zkp l).length + 1) ∧ zAm (M' 104) (w :: zkp l) ∧ (∀ k, k ≠ 50 → M' 79 k = M 79 k) ∧ zoff [79, 104] M M') := by
  have main : ∀ (M1 : zM) (l1 : List zWD), l1.length ≤ 39 → M1 79 50 = nI l1.length → zAm (M1 104) l1 → zWr (M1 102) 0 w → ∃ M', F_X12_keeps_L52 79 (fun (M6 : zM) => zst (zup M6 79 50 ((M6 79 50) + 1)) (fun M7 => zV M7)) zN 0 M1 = zV M' ∧ (M' 79 50 = nI (l1.length + 1) ∧ zAm (M' 104) (w :: l1) ∧ (∀ k, k ≠ 50 → M' 79 k = M1 79 k) ∧ zoff [79, 104] M1 M') := by
    intro M1 l1 h1 h2 h3 h4
    rw [kp_m2 _ M1 h2 (by omega), zst_eq]
    refine ⟨_, rfl, ?_, ?_, fun k hk => ?_, fun z hz => ?_⟩
    · simp (disch := omega) only [zup_row, upd_eq, zupA_ne, h2, nI_1]
    · simp (disch := omega) only [zup_ne, zupA_eq]
      refine ⟨⟨fun i hi => ?_, fun k hk => ?_, ?_⟩, zAm_cg l1 (fun i hi => if_neg (by omega)) h3⟩
      · show (if 73 * l1.length ≤ 73 * l1.length + i ∧ _ then M1 102 (73 * l1.length + i - 73 * l1.length) else _) = _
        rw [if_pos (by omega), ← h4.1 i hi]
        congr 1
        omega
      · show (if 73 * l1.length ≤ 73 * l1.length + 8 + k ∧ _ then M1 102 (73 * l1.length + 8 + k - 73 * l1.length) else _) = _
        rw [if_pos (by omega), ← h4.2.1 k hk]
        congr 1
        omega
      · show (if 73 * l1.length ≤ 73 * l1.length + 72 ∧ _ then M1 102 (73 * l1.length + 72 - 73 * l1.length) else _) = _
        rw [if_pos (by omega), ← h4.2.2]
        congr 1
        omega
    · rw [zup_row, upd_ne hk, zupA_ne (by omega)]
    · simp only [List.mem_cons, List.mem_nil_iff, or_false, not_or] at hz
      rw [zup_ne hz.1, zupA_ne hz.2]
  unfold F_X12_keeps
  rw [zjo_eq]
  by_cases h4 : l.length < 40
  · rw [zit_f (by rw [h0]; exact fun e => by have := (nI_eq (b := 40) (by omega) (by omega)).mp e; omega), show zkp l = l from if_pos h4]
    exact main M l (by omega) h0 hA hW
  · have h40 : l.length = 40 := by omega
    have e : zkp l = l.dropLast := if_neg h4
    have e39 : (l.dropLast).length = 39 := by rw [List.length_dropLast]; omega
    rw [zit_t (by rw [h0, h40]; rfl), kp_m1, zst_eq, e]
    obtain ⟨M', r1, r2, r3, r4, r5⟩ := main (zup (zupA M 104 (fun i => if i + 73 < 2920 then M 104 (i + 73) else M 104 i)) 79 50 ((zupA M 104 (fun i => if i + 73 < 2920 then M 104 (i + 73) else M 104 i)) 79 50 - 1)) l.dropLast (by omega) (by
      rw [zup_row, upd_eq, zupA_ne (by omega), h0, h40, e39]
      rfl) (by
      rw [zup_ne (by omega), zupA_eq]
      refine zAm_cg (r := fun i => M 104 (i + 73)) _ (fun i hi => if_pos (by omega)) (zAm_sh l hA)) (by
      rw [zup_ne (by omega), zupA_ne (by omega)]
      exact hW)
    refine ⟨M', r1, r2, r3, fun k hk => ?_, fun z hz => ?_⟩
    · rw [r4 k hk, zup_row, upd_ne hk, zupA_ne (by omega)]
    · rw [r5 z hz]
      simp only [List.mem_cons, List.mem_nil_iff, or_false, not_or] at hz
      rw [zup_ne hz.1, zupA_ne hz.2]
