/-! a new SEA: both take it over -/
theorem zck_tt (b c : Bool) (hb : b = true) (hc : c = true) (X : zO) : zck (b && c) X = X := by rw [hb, hc]; rfl
theorem cps_x {M : zM} {z : Nat} (hz : z ≤ 700) (h273 : M 27 3 = nI z) (h274 : zbo (M 27 4) = true) (hby : ∀ j, (M 23 j).toInt8.toInt32 = M 23 j) : ∃ M', F_X6_copy 3 21 M = zV M' ∧ (M' 3 0 = M 21 0 ∧ M' 3 1 = M 21 1 ∧ M' 3 2 = M 21 2 ∧ (∀ i, i < 72 → M' 5 i = M 23 i) ∧ (∀ i, i < 8 → M' 6 i = M 24 i) ∧ (∀ i, i < z → M' 11 i = M 29 i) ∧ M' 9 3 = nI z ∧ M' 9 4 = M 27 4 ∧ (∀ i, i < 8 → M' 13 i = M 31 i ∧ M' 14 i = M 32 i ∧ M' 15 i = M 33 i) ∧ (∀ i, i < 64 → M' 17 i = M 35 i) ∧ (∀ i, i < 12 → M' 18 i = M 36 i ∧ M' 19 i = M 37 i ∧ M' 20 i = M 38 i) ∧ zoff [3, 5, 6, 9, 11, 13, 14, 15, 16, 17, 18, 19, 20] M M') := by
  unfold F_X6_copy F_X9_copy F_X0_copy
  rw [zst_eq, zst_eq, zst_eq, gr_3_4, gr_21_4, gr_4_0, gr_22_0, gr_4_1, gr_22_1, gr_3_5, gr_21_5, gr_9_1, gr_27_1, gr_3_6, gr_21_6, gr_3_7, gr_21_7, gr_3_8, gr_21_8, gr_3_9, gr_21_9, gr_3_10, gr_21_10, gr_3_11, gr_21_11, gr_3_12, gr_21_12, gr_3_13, gr_21_13]
  obtain ⟨N1, hN1⟩ : ∃ N1, zup M 3 0 (M 21 0) = N1 := ⟨_, rfl⟩
  rw [hN1]
  have o1 : zoff [3] M N1 := by rw [← hN1]; exact zoff_up zoff_rfl (by decide)
  obtain ⟨N2, hN2⟩ : ∃ N2, zup N1 3 1 (N1 21 1) = N2 := ⟨_, rfl⟩
  rw [hN2]
  have o2 : zoff [3] N1 N2 := by rw [← hN2]; exact zoff_up zoff_rfl (by decide)
  obtain ⟨N3, hN3⟩ : ∃ N3, zup N2 3 2 (N2 21 2) = N3 := ⟨_, rfl⟩
  rw [hN3]
  have o3 : zoff [3] N2 N3 := by rw [← hN3]; exact zoff_up zoff_rfl (by decide)
  have s3 : ∀ c, c ∉ [3] → N3 c = M c := fun c hc => by rw [o3 c hc, o2 c hc, o1 c hc]
  rw [show zcpk 0 0 72 72 72 = true from by decide, show zby (N3 23) (zix 0) (zix 72) = true from decide_eq_true (fun i _ => by rw [s3 23 (by decide)]; exact hby _), Bool.and_self, zck_t, zst_eq]
  obtain ⟨N4, hN4⟩ : ∃ N4, zupA N3 5 (va_cpy (N3 23) (N3 5) (zix 0) (zix 0) (zix 72)) = N4 := ⟨_, rfl⟩
  rw [hN4]
  have o4 : zoff [5] N3 N4 := by rw [← hN4]; exact zoff_upA zoff_rfl (by decide)
  rw [show zcpk 0 0 8 8 8 = true from by decide, show zcpk 0 0 64 64 64 = true from by decide, show zcpk 0 0 12 12 12 = true from by decide, zck_t, zst_eq]
  obtain ⟨N5, hN5⟩ : ∃ N5, zupA N4 6 (va_cpy (N4 24) (N4 6) (zix 0) (zix 0) (zix 8)) = N5 := ⟨_, rfl⟩
  rw [hN5]
  have o5 : zoff [6] N4 N5 := by rw [← hN5]; exact zoff_upA zoff_rfl (by decide)
  have s5 : ∀ c, c ∉ [3, 5, 6] → N5 c = M c := fun c hc => by
    simp only [List.mem_cons, List.mem_nil_iff, or_false, not_or] at hc
    rw [o5 c (by simp; omega), o4 c (by simp; omega), s3 c (by simp; omega)]
  rw [zbV_V, s5 27 (by decide), h273, show zcpk 0 0 (nI z) 700 700 = true from decide_eq_true ⟨by decide, by decide, (nI_nlt (Nat.zero_le _) (by omega) : ¬ nI z < nI 0), by rw [zix_k (k := z) (by omega), show zix 0 = 0 from by decide]; omega, by rw [zix_k (k := z) (by omega), show zix 0 = 0 from by decide]; omega⟩, zck_t, zst_eq, zix_k (k := z) (by omega)]
  obtain ⟨N6, hN6⟩ : ∃ N6, zupA N5 11 (va_cpy (N5 29) (N5 11) (zix 0) (zix 0) z) = N6 := ⟨_, rfl⟩
  rw [hN6]
  have o6 : zoff [11] N5 N6 := by rw [← hN6]; exact zoff_upA zoff_rfl (by decide)
  have s6 : ∀ c, c ∉ [3, 5, 6, 11] → N6 c = M c := fun c hc => by
    simp only [List.mem_cons, List.mem_nil_iff, or_false, not_or] at hc
    rw [o6 c (by simp; omega), s5 c (by simp; omega)]
  rw [zst_eq, s6 27 (by decide), h273]
  obtain ⟨N7, hN7⟩ : ∃ N7, zup N6 9 3 (nI z) = N7 := ⟨_, rfl⟩
  rw [hN7]
  have o7 : zoff [9] N6 N7 := by rw [← hN7]; exact zoff_up zoff_rfl (by decide)
  have s7 : ∀ c, c ∉ [3, 5, 6, 9, 11] → N7 c = M c := fun c hc => by
    simp only [List.mem_cons, List.mem_nil_iff, or_false, not_or] at hc
    rw [o7 c (by simp; omega), s6 c (by simp; omega)]
  rw [s7 27 (by decide), h274, zck_t, zst_eq]
  obtain ⟨N8, hN8⟩ : ∃ N8, zup N7 9 4 (M 27 4) = N8 := ⟨_, rfl⟩
  rw [hN8]
  have o8 : zoff [9] N7 N8 := by rw [← hN8]; exact zoff_up zoff_rfl (by decide)
  rw [zbV_V, zck_t, zst_eq]
  obtain ⟨N9, hN9⟩ : ∃ N9, zupA N8 13 (va_cpy (N8 31) (N8 13) (zix 0) (zix 0) (zix 8)) = N9 := ⟨_, rfl⟩
  rw [hN9]
  have o9 : zoff [13] N8 N9 := by rw [← hN9]; exact zoff_upA zoff_rfl (by decide)
  rw [zck_t, zst_eq]
  obtain ⟨N10, hN10⟩ : ∃ N10, zupA N9 14 (va_cpy (N9 32) (N9 14) (zix 0) (zix 0) (zix 8)) = N10 := ⟨_, rfl⟩
  rw [hN10]
  have o10 : zoff [14] N9 N10 := by rw [← hN10]; exact zoff_upA zoff_rfl (by decide)
  rw [zck_t, zst_eq]
  obtain ⟨N11, hN11⟩ : ∃ N11, zupA N10 15 (va_cpy (N10 33) (N10 15) (zix 0) (zix 0) (zix 8)) = N11 := ⟨_, rfl⟩
  rw [hN11]
  have o11 : zoff [15] N10 N11 := by rw [← hN11]; exact zoff_upA zoff_rfl (by decide)
  rw [zck_t, zst_eq]
  obtain ⟨N12, hN12⟩ : ∃ N12, zupA N11 16 (va_cpy (N11 34) (N11 16) (zix 0) (zix 0) (zix 8)) = N12 := ⟨_, rfl⟩
  rw [hN12]
  have o12 : zoff [16] N11 N12 := by rw [← hN12]; exact zoff_upA zoff_rfl (by decide)
  rw [zck_t, zst_eq]
  obtain ⟨N13, hN13⟩ : ∃ N13, zupA N12 17 (va_cpy (N12 35) (N12 17) (zix 0) (zix 0) (zix 64)) = N13 := ⟨_, rfl⟩
  rw [hN13]
  have o13 : zoff [17] N12 N13 := by rw [← hN13]; exact zoff_upA zoff_rfl (by decide)
  rw [zck_t, zst_eq]
  obtain ⟨N14, hN14⟩ : ∃ N14, zupA N13 18 (va_cpy (N13 36) (N13 18) (zix 0) (zix 0) (zix 12)) = N14 := ⟨_, rfl⟩
  rw [hN14]
  have o14 : zoff [18] N13 N14 := by rw [← hN14]; exact zoff_upA zoff_rfl (by decide)
  rw [zck_t, zst_eq]
  obtain ⟨N15, hN15⟩ : ∃ N15, zupA N14 19 (va_cpy (N14 37) (N14 19) (zix 0) (zix 0) (zix 12)) = N15 := ⟨_, rfl⟩
  rw [hN15]
  have o15 : zoff [19] N14 N15 := by rw [← hN15]; exact zoff_upA zoff_rfl (by decide)
  rw [zck_t, zst_eq]
  obtain ⟨N16, hN16⟩ : ∃ N16, zupA N15 20 (va_cpy (N15 38) (N15 20) (zix 0) (zix 0) (zix 12)) = N16 := ⟨_, rfl⟩
  rw [hN16]
  have o16 : zoff [20] N15 N16 := by rw [← hN16]; exact zoff_upA zoff_rfl (by decide)
  have z0 : zix 0 = 0 := by decide
  refine ⟨N16, rfl, ?_, ?_, ?_, fun i hi => ?_, fun i hi => ?_, fun i hi => ?_, ?_, ?_, fun i hi => ⟨?_, ?_, ?_⟩, fun i hi => ?_, fun i hi => ⟨?_, ?_, ?_⟩, fun c hc => ?_⟩
  · rw [o16 3 (by decide), o15 3 (by decide), o14 3 (by decide), o13 3 (by decide), o12 3 (by decide), o11 3 (by decide), o10 3 (by decide), o9 3 (by decide), o8 3 (by decide), o7 3 (by decide), o6 3 (by decide), o5 3 (by decide), o4 3 (by decide), ← hN3, zup_row, upd_ne (by decide), ← hN2, zup_row, upd_ne (by decide), ← hN1, zup_row, upd_eq]
  · rw [o16 3 (by decide), o15 3 (by decide), o14 3 (by decide), o13 3 (by decide), o12 3 (by decide), o11 3 (by decide), o10 3 (by decide), o9 3 (by decide), o8 3 (by decide), o7 3 (by decide), o6 3 (by decide), o5 3 (by decide), o4 3 (by decide), ← hN3, zup_row, upd_ne (by decide), ← hN2, zup_row, upd_eq, o1 21 (by decide)]
  · rw [o16 3 (by decide), o15 3 (by decide), o14 3 (by decide), o13 3 (by decide), o12 3 (by decide), o11 3 (by decide), o10 3 (by decide), o9 3 (by decide), o8 3 (by decide), o7 3 (by decide), o6 3 (by decide), o5 3 (by decide), o4 3 (by decide), ← hN3, zup_row, upd_eq, o2 21 (by decide), o1 21 (by decide)]
  · rw [o16 5 (by decide), o15 5 (by decide), o14 5 (by decide), o13 5 (by decide), o12 5 (by decide), o11 5 (by decide), o10 5 (by decide), o9 5 (by decide), o8 5 (by decide), o7 5 (by decide), o6 5 (by decide), o5 5 (by decide), ← hN4, zupA_eq, z0, show zix 72 = 72 from by decide, cpy_in hi, o3 23 (by decide), o2 23 (by decide), o1 23 (by decide)]
  · rw [o16 6 (by decide), o15 6 (by decide), o14 6 (by decide), o13 6 (by decide), o12 6 (by decide), o11 6 (by decide), o10 6 (by decide), o9 6 (by decide), o8 6 (by decide), o7 6 (by decide), o6 6 (by decide), ← hN5, zupA_eq, z0, show zix 8 = 8 from by decide, cpy_in hi, o4 24 (by decide), o3 24 (by decide), o2 24 (by decide), o1 24 (by decide)]
  · rw [o16 11 (by decide), o15 11 (by decide), o14 11 (by decide), o13 11 (by decide), o12 11 (by decide), o11 11 (by decide), o10 11 (by decide), o9 11 (by decide), o8 11 (by decide), o7 11 (by decide), ← hN6, zupA_eq, z0, cpy_in hi, o5 29 (by decide), o4 29 (by decide), o3 29 (by decide), o2 29 (by decide), o1 29 (by decide)]
  · rw [o16 9 (by decide), o15 9 (by decide), o14 9 (by decide), o13 9 (by decide), o12 9 (by decide), o11 9 (by decide), o10 9 (by decide), o9 9 (by decide), ← hN8, zup_row, upd_ne (by decide), ← hN7, zup_row, upd_eq]
  · rw [o16 9 (by decide), o15 9 (by decide), o14 9 (by decide), o13 9 (by decide), o12 9 (by decide), o11 9 (by decide), o10 9 (by decide), o9 9 (by decide), ← hN8, zup_row, upd_eq]
  · rw [o16 13 (by decide), o15 13 (by decide), o14 13 (by decide), o13 13 (by decide), o12 13 (by decide), o11 13 (by decide), o10 13 (by decide), ← hN9, zupA_eq, z0, show zix 8 = 8 from by decide, cpy_in hi, o8 31 (by decide), o7 31 (by decide), o6 31 (by decide), o5 31 (by decide), o4 31 (by decide), o3 31 (by decide), o2 31 (by decide), o1 31 (by decide)]
  · rw [o16 14 (by decide), o15 14 (by decide), o14 14 (by decide), o13 14 (by decide), o12 14 (by decide), o11 14 (by decide), ← hN10, zupA_eq, z0, show zix 8 = 8 from by decide, cpy_in hi, o9 32 (by decide), o8 32 (by decide), o7 32 (by decide), o6 32 (by decide), o5 32 (by decide), o4 32 (by decide), o3 32 (by decide), o2 32 (by decide), o1 32 (by decide)]
  · rw [o16 15 (by decide), o15 15 (by decide), o14 15 (by decide), o13 15 (by decide), o12 15 (by decide), ← hN11, zupA_eq, z0, show zix 8 = 8 from by decide, cpy_in hi, o10 33 (by decide), o9 33 (by decide), o8 33 (by decide), o7 33 (by decide), o6 33 (by decide), o5 33 (by decide), o4 33 (by decide), o3 33 (by decide), o2 33 (by decide), o1 33 (by decide)]
  · rw [o16 17 (by decide), o15 17 (by decide), o14 17 (by decide), ← hN13, zupA_eq, z0, show zix 64 = 64 from by decide, cpy_in hi, o12 35 (by decide), o11 35 (by decide), o10 35 (by decide), o9 35 (by decide), o8 35 (by decide), o7 35 (by decide), o6 35 (by decide), o5 35 (by decide), o4 35 (by decide), o3 35 (by decide), o2 35 (by decide), o1 35 (by decide)]
  · rw [o16 18 (by decide), o15 18 (by decide), ← hN14, zupA_eq, z0, show zix 12 = 12 from by decide, cpy_in hi, o13 36 (by decide), o12 36 (by decide), o11 36 (by decide), o10 36 (by decide), o9 36 (by decide), o8 36 (by decide), o7 36 (by decide), o6 36 (by decide), o5 36 (by decide), o4 36 (by decide), o3 36 (by decide), o2 36 (by decide), o1 36 (by decide)]
  · rw [o16 19 (by decide), ← hN15, zupA_eq, z0, show zix 12 = 12 from by decide, cpy_in hi, o14 37 (by decide), o13 37 (by decide), o12 37 (by decide), o11 37 (by decide), o10 37 (by decide), o9 37 (by decide), o8 37 (by decide), o7 37 (by decide), o6 37 (by decide), o5 37 (by decide), o4 37 (by decide), o3 37 (by decide), o2 37 (by decide), o1 37 (by decide)]
  · rw [← hN16, zupA_eq, z0, show zix 12 = 12 from by decide, cpy_in hi, o15 38 (by decide), o14 38 (by decide), o13 38 (by decide), o12 38 (by decide), o11 38 (by decide), o10 38 (by decide), o9 38 (by decide), o8 38 (by decide), o7 38 (by decide), o6 38 (by decide), o5 38 (by decide), o4 38 (by decide), o3 38 (by decide), o2 38 (by decide), o1 38 (by decide)]
  · simp only [List.mem_cons, List.mem_nil_iff, or_false, not_or] at hc
    rw [o16 c (by simp; omega), o15 c (by simp; omega), o14 c (by simp; omega), o13 c (by simp; omega), o12 c (by simp; omega), o11 c (by simp; omega), o10 c (by simp; omega), o9 c (by simp; omega), o8 c (by simp; omega), o7 c (by simp; omega), o6 c (by simp; omega), o5 c (by simp; omega), o4 c (by simp; omega), o3 c (by simp; omega), o2 c (by simp; omega), o1 c (by simp; omega)]
theorem bgn_x {M : zM} : ∃ M', F_X10_begin 40 M = zV M' ∧ ((∀ i, i < 8 → M' 41 i = nI i) ∧ (∀ k, k < 64 → M' 42 k = 0) ∧ M' 40 3 = 0 ∧ zoff [40, 41, 42] M M') := by
  unfold F_X10_begin
  refine zfor (i := 0) (f := zN) (a := M) 8 (fun f i (M1 : zM) => F_X10_begin_L2 40 (fun (M2 : zM) => zbV (F_J7_fill_53178 (zgr 40 2) 0 M2) (fun M3 => zst (zup M3 40 3 0) (fun M4 => zV M4))) f (nI i) M1) (fun i M1 => (∀ j, j < i → M1 41 j = nI j) ∧ zoff [41] M M1) (fun o => ∃ M', o = zV M' ∧ ((∀ i, i < 8 → M' 41 i = nI i) ∧ (∀ k, k < 64 → M' 42 k = 0) ∧ M' 40 3 = 0 ∧ zoff [40, 41, 42] M M')) ?_ ?_ (by omega) (zN_ge (by omega)) ⟨fun j hj => absurd hj (Nat.not_lt_zero _), zoff_rfl⟩
  · rintro f i M1 hi ⟨i1, i2⟩
    refine Or.inr ?_
    show ∃ M2, F_X10_begin_L2 40 _ (f + 1) (nI i) M1 = F_X10_begin_L2 40 _ f (nI (i + 1)) M2 ∧ _
    rw [F_X10_begin_L2, zit_f (show ¬ (8 : Int32) ≤ nI i from (nI_ge (by omega) (by omega) : ¬ nI 8 ≤ nI i)), zin_k (k := i) (n := 8) hi (by omega), zck_t, zst_eq, gr_40_1, zix_k (k := i) (by omega), nI_1]
    refine ⟨_, rfl, fun j hj => ?_, zoff_up i2 (by decide)⟩
    rw [zup_row]
    by_cases e : j = i
    · rw [e, upd_eq]
    · rw [upd_ne e, i1 j (by omega)]
  · rintro f M1 ⟨i1, i2⟩
    show ∃ M2, F_X10_begin_L2 40 _ (f + 1) (nI 8) M1 = _ ∧ _
    rw [F_X10_begin_L2, zit_t (by decide), gr_40_2, fi_x (a := 42) (n := 64) (by decide) (by omega), zbV_V, zst_eq]
    refine ⟨_, rfl, fun i hi => ?_, fun k hk => ?_, by rw [zup_row, upd_eq], zoff_up (zoff_upA (zoff_mono i2 (by decide)) (by decide)) (by decide)⟩
    · rw [zup_ne (by decide), zupA_ne (by decide)]
      exact i1 i hi
    · rw [zup_ne (by decide), zupA_eq, if_pos hk]
section ZSE
variable {B : Nat → Nat} {n : Nat}
/-- the class reads a text -/
theorem rdr_x (ht : zTxt B n) {M : zM} (h2 : ∀ k, k < n → M 2 k = (nI (B k)).toInt8.toInt32) (hby : ∀ j, (M 23 j).toInt8.toInt32 = M 23 j) : ∃ M', F_X7_read 39 (nI n) M = zI (nI (zlns B n 700 ((0, 0), zdr0)).1.1) M' ∧ (zXss B n (zlns B n 700 ((0, 0), zdr0)) M' ∧ (∀ k, k < 2 → M' 1 k = M 1 k) ∧ zoff [1, 21, 23, 24, 27, 29, 31, 32, 33, 34, 35, 36, 37, 38] M M') := by
  have hn := ht.1
  unfold F_X7_read F_X8_open
  rw [gr_39_0, gr_39_1, zst_eq, zst_eq, zst_eq, zst_eq]
  obtain ⟨M1, hM1⟩ : ∃ M1, zup (zup (zup (zup M 1 2 (nI n)) 1 5 0) 1 7 0) 1 8 (-1) = M1 := ⟨_, rfl⟩
  rw [hM1]
  have o1 : zoff [1] M M1 := by rw [← hM1]; exact zoff_up (zoff_up (zoff_up (zoff_up zoff_rfl (by decide)) (by decide)) (by decide)) (by decide)
  have a2 : M1 1 2 = nI n := by rw [← hM1, zup_row, upd_ne (by decide), zup_row, upd_ne (by decide), zup_row, upd_ne (by decide), zup_row, upd_eq]
  have a5 : M1 1 5 = nI 0 := by rw [← hM1, zup_row, upd_ne (by decide), zup_row, upd_ne (by decide), zup_row, upd_eq]; rfl
  have a6 : M1 1 7 = 0 := by rw [← hM1, zup_row, upd_ne (by decide), zup_row, upd_eq]
  have a7 : M1 1 8 = -1 := by rw [← hM1, zup_row, upd_eq]
  have a01 : ∀ k, k < 2 → M1 1 k = M 1 k := fun k hk => by rw [← hM1, zup_row, upd_ne (by omega), zup_row, upd_ne (by omega), zup_row, upd_ne (by omega), zup_row, upd_ne (by omega)]
  have p1 : zTp B n M1 := ⟨a2, fun k hk => by rw [o1 2 (by decide)]; exact h2 k hk⟩
  obtain ⟨M2, e2, m3, m4, m5, m6, m7, o2, mv⟩ := stp_x ht p1 a6 (Nat.zero_le n) a5
  have t2 : zTpx B n (0, 0) M2 := ⟨zTo_p p1 o2, by rw [m6, a6]; rfl, by show 0 ≤ 5; omega, by rw [m7, a7]; rfl, m3, m4, m5, mv⟩
  rw [e2, zbV_V, zbV_V]
  unfold F_X6_clear F_X0_clear
  rw [zst_eq, zst_eq, zst_eq, zbo_0, zck_t, zst_eq, gr_21_5, zst_eq, zck_t, zst_eq, zbV_V, gr_21_9, fi_x (a := 34) (n := 8) (by decide) (by omega), zbV_V, gr_21_10, fi_x (a := 35) (n := 64) (by decide) (by omega), zbV_V, zbV_V]
  obtain ⟨M3, hM3⟩ : ∃ M3, zup (zup (zup (zup (zup (zup M2 21 0 0) 21 1 0) 21 2 3) 21 3 0) 27 3 0) 27 4 0 = M3 := ⟨_, rfl⟩
  rw [hM3]
  have b0 : M3 21 0 = nI 0 ∧ M3 21 1 = nI 0 ∧ M3 21 2 = nI 3 ∧ M3 21 3 = 0 ∧ M3 27 3 = nI 0 ∧ M3 27 4 = 0 := by
    rw [← hM3]
    refine ⟨?_, ?_, ?_, ?_, ?_, ?_⟩
    · rw [zup_ne (by decide), zup_ne (by decide), zup_row, upd_ne (by decide), zup_row, upd_ne (by decide), zup_row, upd_ne (by decide), zup_row, upd_eq]; rfl
    · rw [zup_ne (by decide), zup_ne (by decide), zup_row, upd_ne (by decide), zup_row, upd_ne (by decide), zup_row, upd_eq]; rfl
    · rw [zup_ne (by decide), zup_ne (by decide), zup_row, upd_ne (by decide), zup_row, upd_eq]; rfl
    · rw [zup_ne (by decide), zup_ne (by decide), zup_row, upd_eq]
    · rw [zup_row, upd_ne (by decide), zup_row, upd_eq]; rfl
    · rw [zup_row, upd_eq]
  have o3 : zoff [21, 27] M2 M3 := by
    rw [← hM3]
    exact zoff_up (zoff_up (zoff_up (zoff_up (zoff_up (zoff_up zoff_rfl (by decide)) (by decide)) (by decide)) (by decide)) (by decide)) (by decide)
  obtain ⟨M4, hM4⟩ : ∃ M4, zupA (zupA M3 34 (fun i => if i < 8 then 0 else M3 34 i)) 35 (fun i => if i < 64 then 0 else zupA M3 34 (fun i => if i < 8 then 0 else M3 34 i) 35 i) = M4 := ⟨_, rfl⟩
  rw [hM4]
  have o4 : zoff [34, 35] M3 M4 := by rw [← hM4]; exact zoff_upA (zoff_upA zoff_rfl (by decide)) (by decide)
  have s4 : zXss B n ((0, 0), zdr0) M4 := by
    refine ⟨zTpx_cg t2 (by rw [o4 1 (by decide), o3 1 (by decide)]) (by rw [o4 2 (by decide), o3 2 (by decide)]), ⟨⟨0, by omega, by rw [o4 21 (by decide)]; exact b0.1, fun i hi => absurd hi (Nat.not_lt_zero _)⟩, ⟨0, by omega, by rw [o4 21 (by decide)]; exact b0.2.1⟩, ⟨0, by omega, by rw [o4 27 (by decide)]; exact b0.2.2.2.2.1⟩, fun j => by rw [o4 23 (by decide), o3 23 (by decide), o2.2 23 (by decide), o1 23 (by decide)]; exact hby j⟩, fun _ => ?_⟩
    refine ⟨by rw [o4 21 (by decide)]; exact b0.1, by rw [o4 21 (by decide)]; exact b0.2.1, by rw [o4 21 (by decide)]; exact b0.2.2.1, by rw [o4 21 (by decide)]; exact b0.2.2.2.1, ⟨by rw [o4 27 (by decide)]; exact b0.2.2.2.2.2, by rw [o4 27 (by decide)]; exact b0.2.2.2.2.1⟩, fun i hi => absurd hi (Nat.not_lt_zero _), fun i hi => absurd hi (Nat.not_lt_zero _), fun i hi => ?_, fun k hk => ?_, fun f hf => absurd hf (Nat.not_lt_zero _)⟩
    · rw [← hM4, zupA_ne (by decide), zupA_eq, if_pos hi]
      show (0 : Int32) = nI (if 12 = 2 ∧ i = 0 then 3 else 0)
      rw [if_neg (by omega)]
      rfl
    · rw [← hM4, zupA_eq, if_pos hk]
      show (0 : Int32) = nI (if 8 = 2 ∧ k = 0 then 3 else 0)
      rw [if_neg (by omega)]
      rfl
  obtain ⟨M5, e5, x5, o5⟩ := rda_x ht (fun (M5 : zM) => zI (M5 1 7) M5) 700 ((0, 0), zdr0) zN M4 (by omega) (zN_ge (by omega)) s4 (fun _ => zDk_0)
  rw [show F_X7_read_L17 39 (fun (M5 : zM) => zI (M5 1 7) M5) zN 0 M4 = _ from e5]
  refine ⟨M5, by rw [x5.1.2.1], x5, fun k hk => ?_, zoff_trans (zoff_mono o1 (by decide)) (zoff_trans (zoff_mono o2.2 (by decide)) (zoff_trans (zoff_mono o3 (by decide)) (zoff_trans (zoff_mono o4 (by decide)) o5.2)))⟩
  rw [o5.1 k (by omega), o4 1 (by decide), o3 1 (by decide), o2.1 k (by omega), a01 k hk]
end ZSE
