/-! a new SEA: the call -/
section ZSM
variable {B : Nat → Nat} {n : Nat}
theorem l94_m {M : zM} (K : zM → zO) : ∃ M', F_X12_sea_L94 79 K zN 0 M = K M' ∧ ((∀ i, i < 8 → M' 97 i = 0) ∧ zoff [97] M M') := by
  refine zfor (i := 0) (f := zN) (a := M) 8 (fun f i (M1 : zM) => F_X12_sea_L94 79 K f (nI i) M1) (fun i M1 => (∀ j, j < i → M1 97 j = 0) ∧ zoff [97] M M1) (fun o => ∃ M', o = K M' ∧ ((∀ i, i < 8 → M' 97 i = 0) ∧ zoff [97] M M')) ?_ ?_ (by omega) (zN_ge (by omega)) ⟨fun j hj => absurd hj (Nat.not_lt_zero _), zoff_rfl⟩
  · rintro f i M1 hi ⟨i1, i2⟩
    refine Or.inr ?_
    show ∃ M2, F_X12_sea_L94 79 K (f + 1) (nI i) M1 = F_X12_sea_L94 79 K f (nI (i + 1)) M2 ∧ _
    rw [F_X12_sea_L94, zit_f (show ¬ (8 : Int32) ≤ nI i from (nI_ge (by omega) (by omega) : ¬ nI 8 ≤ nI i)), zin_k (k := i) (n := 8) hi (by omega), zck_t, zst_eq, gr_79_42, zix_k (k := i) (by omega), nI_1]
    refine ⟨_, rfl, fun j hj => ?_, zoff_up i2 (by decide)⟩
    rw [zup_row]
    by_cases e : j = i
    · rw [e, upd_eq]
    · rw [upd_ne e, i1 j (by omega)]
  · rintro f M1 ⟨i1, i2⟩
    show ∃ M2, F_X12_sea_L94 79 K (f + 1) (nI 8) M1 = _ ∧ _
    rw [F_X12_sea_L94, zit_t (by decide)]
    exact ⟨M1, rfl, i1, i2⟩
theorem l302_m {M : zM} (K : zM → zO) : ∃ M', F_X12_sea_L302 79 K zN 0 M = K M' ∧ ((∀ i, i < 73 → M' 102 i = if i < 8 then nI i else 0) ∧ zoff [102] M M') := by
  refine zfor (i := 0) (f := zN) (a := M) 73 (fun f i (M1 : zM) => F_X12_sea_L302 79 K f (nI i) M1) (fun i M1 => (∀ j, j < i → M1 102 j = if j < 8 then nI j else 0) ∧ zoff [102] M M1) (fun o => ∃ M', o = K M' ∧ ((∀ i, i < 73 → M' 102 i = if i < 8 then nI i else 0) ∧ zoff [102] M M')) ?_ ?_ (by omega) (zN_ge (by omega)) ⟨fun j hj => absurd hj (Nat.not_lt_zero _), zoff_rfl⟩
  · rintro f i M1 hi ⟨i1, i2⟩
    refine Or.inr ?_
    show ∃ M2, F_X12_sea_L302 79 K (f + 1) (nI i) M1 = F_X12_sea_L302 79 K f (nI (i + 1)) M2 ∧ _
    rw [F_X12_sea_L302, zit_f (show ¬ (73 : Int32) ≤ nI i from (nI_ge (by omega) (by omega) : ¬ nI 73 ≤ nI i)), zjo_eq]
    have go : ∀ v : Int32, v = (if i < 8 then nI i else 0) → ∃ M2, zck (zin (nI i) 73) (zst (zup M1 (zgr 79 47) (zix (nI i)) v) (fun M38 => F_X12_sea_L302 79 K f (nI i + 1) M38)) = F_X12_sea_L302 79 K f (nI (i + 1)) M2 ∧ ((∀ j, j < i + 1 → M2 102 j = if j < 8 then nI j else 0) ∧ zoff [102] M M2) := fun v hv => by
      rw [zin_k (k := i) (n := 73) hi (by omega), zck_t, zst_eq, gr_79_47, zix_k (k := i) (by omega), nI_1]
      refine ⟨_, rfl, fun j hj => ?_, zoff_up i2 (by decide)⟩
      rw [zup_row]
      by_cases e : j = i
      · rw [e, upd_eq, hv]
      · rw [upd_ne e, i1 j (by omega)]
    by_cases c : 8 ≤ i
    · rw [zit_t (show (8 : Int32) ≤ nI i from nI_le (a := 8) c (by omega))]
      exact go 0 (by rw [if_neg (by omega)])
    · rw [zit_f (show ¬ (8 : Int32) ≤ nI i from (nI_ge (by omega) (by omega) : ¬ nI 8 ≤ nI i))]
      exact go (nI i) (by rw [if_pos (by omega)])
  · rintro f M1 ⟨i1, i2⟩
    show ∃ M2, F_X12_sea_L302 79 K (f + 1) (nI 73) M1 = _ ∧ _
    rw [F_X12_sea_L302, zit_t (by decide)]
    exact ⟨M1, rfl, i1, i2⟩
/-- the reference reads a text -/
theorem rdr_m (ht : zTxt B n) {M : zM} (h89 : ∀ k, k < n → M 89 k = nI (B k)) (f15 : M 79 15 = 0) (f17 : M 79 17 = -1) (f16 : M 79 16 = 0) (f19 : M 79 19 = nI n) (f20 : M 79 20 = 0) (f27 : M 79 27 = 0) (f28 : M 79 28 = 0) (f29 : M 79 29 = 3) (f30 : M 79 30 = -1) (f31 : M 79 31 = 0) (f32 : M 79 32 = 0) (f33 : M 79 33 = 0) (K : zM → zO) : ∃ M', F_X12_sea_L94 79 (fun (M18 : zM) => zbV (F_X12_goes 79 M18) (fun M19 => F_X12_sea_L117 79 K zN M19)) zN 0 M = K M' ∧ (zMss B n (zlns B n 700 ((0, 0), zdr0)) M' ∧ zMx M M') := by
  obtain ⟨M1, e1, a1, o1⟩ := l94_m (M := M) (fun (M18 : zM) => zbV (F_X12_goes 79 M18) (fun M19 => F_X12_sea_L117 79 K zN M19))
  have q1 : zTq B n M1 := ⟨by rw [o1 79 (by decide), f19], fun k hk => by rw [o1 89 (by decide)]; exact h89 k hk⟩
  obtain ⟨M2, e2, t2, o2⟩ := gos_m ht q1 (Nat.zero_le n) (by rw [o1 79 (by decide), f20]; rfl)
  have p2 := zMp_o o2
  have k2 : ∀ k, k < 16 ∨ k = 18 ∨ k = 19 ∨ 26 < k → k ≠ 1026 → M2 79 k = M 79 k := fun k hk hk2 => by rw [p2.1 k hk hk2, o1 79 (by decide)]
  have s2 : zMss B n ((0, 0), zdr0) M2 := by
    refine ⟨⟨zMo_q q1 o2, by rw [o2.1 16 (by omega) (by omega), o1 79 (by decide), f16]; rfl, by show 0 ≤ 5; omega, by rw [o2.1 17 (by omega) (by omega), o1 79 (by decide), f17]; rfl, t2⟩, fun _ => ⟨⟨by rw [k2 27 (by omega) (by omega), f27]; rfl, by rw [k2 28 (by omega) (by omega), f28]; rfl, by rw [k2 29 (by omega) (by omega), f29]; rfl, ⟨by rw [k2 30 (by omega) (by omega), f30], by rw [k2 33 (by omega) (by omega), f33]; rfl⟩, by rw [k2 31 (by omega) (by omega), f31]; rfl, fun i hi => absurd hi (Nat.not_lt_zero _), fun i hi => absurd hi (Nat.not_lt_zero _), fun i hi => ?_, fun i hi k hk => ?_, fun i hi v hv h => ?_, fun f hf => absurd hf (Nat.not_lt_zero _)⟩, 0, by omega, by rw [k2 32 (by omega) (by omega), f32]; rfl, fun j hj => ?_⟩⟩
    · rw [p2.2 97 (by decide), a1 i hi]
      show (0 : Int32) = nI (if 12 = 2 ∧ i = 0 then 3 else 0)
      rw [if_neg (by omega)]
      rfl
    · exfalso
      have : zdr0.1 12 i = 0 := by
        show (if 12 = 2 ∧ i = 0 then 3 else 0) = 0
        rw [if_neg (by omega)]
      have hk' : k < zdr0.1 12 i := hk
      omega
    · exfalso
      apply h
      show (if 8 = 2 ∧ 8 * i + v = 0 then 3 else 0) = 0
      rw [if_neg (by omega)]
    · rw [bzero_b]
      have : zdr0.1 12 j = 0 := by
        show (if 12 = 2 ∧ j = 0 then 3 else 0) = 0
        rw [if_neg (by omega)]
      dsimp only
      exact (decide_eq_false (by omega)).symm
  obtain ⟨M3, e3, x3, o3⟩ := rda_m ht K 700 ((0, 0), zdr0) zN M2 (zN_ge (by omega)) s2 (fun _ => ⟨zDk_0, by omega⟩)
  refine ⟨M3, ?_, x3, zMx_tr (zMx_o (zoff_mono o1 (by decide))) (zMx_tr (zMx_p p2) o3)⟩
  rw [e1, e2, zbV_V, e3]
end ZSM
theorem cpm_m {M : zM} : ∃ M', zst (zup M 79 1 (M 79 27)) (fun M24 => zst (zup M24 79 2 (M24 79 28)) (fun M25 => zst (zup M25 79 3 (M25 79 29)) (fun M26 => zst (zup M26 79 4 (M26 79 30)) (fun M27 => zbV (F_X12_copies 79 (zgr 79 36) (zgr 79 5) M27) (fun M28 => zbV (F_X12_copies 79 (zgr 79 37) (zgr 79 6) M28) (fun M29 => zbV (F_X12_copies 79 (zgr 79 38) (zgr 79 7) M29) (fun M30 => zbV (F_X12_copies 79 (zgr 79 39) (zgr 79 8) M30) (fun M31 => zbV (F_X12_copies 79 (zgr 79 40) (zgr 79 9) M31) (fun M32 => zbV (F_X12_copies 79 (zgr 79 41) (zgr 79 10) M32) (fun M33 => zbV (F_X12_copies 79 (zgr 79 42) (zgr 79 11) M33) (fun M34 => zbV (F_X12_copies 79 (zgr 79 43) (zgr 79 12) M34) (fun M35 => zbV (F_X12_copies 79 (zgr 79 44) (zgr 79 13) M35) (fun M36 => F_X12_sea_L302 79 (fun (M39 : zM) => zst (zup M39 79 50 0) (fun M40 => zst (zup M40 79 64 0) (fun M41 => zck (zbo 0) (zst (zup M41 79 73 0) (fun M42 => zI 0 M42))))) zN 0 M36)))))))))))))  = zI 0 M' ∧ (M' 79 1 = M 79 27 ∧ M' 79 2 = M 79 28 ∧ M' 79 3 = M 79 29 ∧ M' 79 4 = M 79 30 ∧ M' 79 50 = 0 ∧ M' 79 64 = 0 ∧ M' 79 73 = 0 ∧ (∀ i, i < 72 → M' 80 i = M 91 i) ∧ (∀ i, i < 8 → M' 81 i = M 92 i ∧ M' 82 i = M 93 i ∧ M' 83 i = M 94 i ∧ M' 84 i = M 95 i ∧ M' 86 i = M 97 i) ∧ (∀ i, i < 64 → M' 85 i = M 96 i) ∧ (∀ i, i < 36 → M' 87 i = M 98 i) ∧ (∀ i, i < 1900 → M' 88 i = M 99 i) ∧ (∀ i, i < 73 → M' 102 i = if i < 8 then nI i else 0) ∧ (∀ k, k ∉ [1, 2, 3, 4, 50, 64, 73] → M' 79 k = M 79 k) ∧ zoff [79, 80, 81, 82, 83, 84, 85, 86, 87, 88, 102] M M') := by
  rw [zst_eq, zst_eq, zst_eq, zst_eq, gr_79_36, gr_79_5, gr_79_37, gr_79_6, gr_79_38, gr_79_7, gr_79_39, gr_79_8, gr_79_40, gr_79_9, gr_79_41, gr_79_10, gr_79_42, gr_79_11, gr_79_43, gr_79_12, gr_79_44, gr_79_13]
  obtain ⟨N0, hN0⟩ : ∃ N0, zup (zup (zup (zup M 79 1 (M 79 27)) 79 2 (zup M 79 1 (M 79 27) 79 28)) 79 3 (zup (zup M 79 1 (M 79 27)) 79 2 (zup M 79 1 (M 79 27) 79 28) 79 29)) 79 4 (zup (zup (zup M 79 1 (M 79 27)) 79 2 (zup M 79 1 (M 79 27) 79 28)) 79 3 (zup (zup M 79 1 (M 79 27)) 79 2 (zup M 79 1 (M 79 27) 79 28) 79 29) 79 30) = N0 := ⟨_, rfl⟩
  rw [hN0]
  have o0 : zoff [79] M N0 := by rw [← hN0]; exact zoff_up (zoff_up (zoff_up (zoff_up zoff_rfl (by decide)) (by decide)) (by decide)) (by decide)
  have r0 : N0 79 1 = M 79 27 ∧ N0 79 2 = M 79 28 ∧ N0 79 3 = M 79 29 ∧ N0 79 4 = M 79 30 := by
    rw [← hN0]
    refine ⟨?_, ?_, ?_, ?_⟩
    · rw [zup_row, upd_ne (by decide), zup_row, upd_ne (by decide), zup_row, upd_ne (by decide), zup_row, upd_eq]
    · rw [zup_row, upd_ne (by decide), zup_row, upd_ne (by decide), zup_row, upd_eq, zup_row, upd_ne (by decide)]
    · rw [zup_row, upd_ne (by decide), zup_row, upd_eq, zup_row, upd_ne (by decide), zup_row, upd_ne (by decide)]
    · rw [zup_row, upd_eq, zup_row, upd_ne (by decide), zup_row, upd_ne (by decide), zup_row, upd_ne (by decide)]
  have k0 : ∀ k, k ≠ 1 → k ≠ 2 → k ≠ 3 → k ≠ 4 → N0 79 k = M 79 k := fun k h1 h2 h3 h4 => by rw [← hN0, zup_row, upd_ne h4, zup_row, upd_ne h3, zup_row, upd_ne h2, zup_row, upd_ne h1]
  rw [cp_m (a := 91) (b := 80) (n := 72) (by decide) (by decide) (by omega) (by decide), zbV_V]
  obtain ⟨N1, hN1⟩ : ∃ N1, zupA N0 80 (fun i => if i < 72 then N0 91 i else N0 80 i) = N1 := ⟨_, rfl⟩
  rw [hN1]
  have o1 : zoff [80] N0 N1 := by rw [← hN1]; exact zoff_upA zoff_rfl (by decide)
  rw [cp_m (a := 92) (b := 81) (n := 8) (by decide) (by decide) (by omega) (by decide), zbV_V]
  obtain ⟨N2, hN2⟩ : ∃ N2, zupA N1 81 (fun i => if i < 8 then N1 92 i else N1 81 i) = N2 := ⟨_, rfl⟩
  rw [hN2]
  have o2 : zoff [81] N1 N2 := by rw [← hN2]; exact zoff_upA zoff_rfl (by decide)
  rw [cp_m (a := 93) (b := 82) (n := 8) (by decide) (by decide) (by omega) (by decide), zbV_V]
  obtain ⟨N3, hN3⟩ : ∃ N3, zupA N2 82 (fun i => if i < 8 then N2 93 i else N2 82 i) = N3 := ⟨_, rfl⟩
  rw [hN3]
  have o3 : zoff [82] N2 N3 := by rw [← hN3]; exact zoff_upA zoff_rfl (by decide)
  rw [cp_m (a := 94) (b := 83) (n := 8) (by decide) (by decide) (by omega) (by decide), zbV_V]
  obtain ⟨N4, hN4⟩ : ∃ N4, zupA N3 83 (fun i => if i < 8 then N3 94 i else N3 83 i) = N4 := ⟨_, rfl⟩
  rw [hN4]
  have o4 : zoff [83] N3 N4 := by rw [← hN4]; exact zoff_upA zoff_rfl (by decide)
  rw [cp_m (a := 95) (b := 84) (n := 8) (by decide) (by decide) (by omega) (by decide), zbV_V]
  obtain ⟨N5, hN5⟩ : ∃ N5, zupA N4 84 (fun i => if i < 8 then N4 95 i else N4 84 i) = N5 := ⟨_, rfl⟩
  rw [hN5]
  have o5 : zoff [84] N4 N5 := by rw [← hN5]; exact zoff_upA zoff_rfl (by decide)
  rw [cp_m (a := 96) (b := 85) (n := 64) (by decide) (by decide) (by omega) (by decide), zbV_V]
  obtain ⟨N6, hN6⟩ : ∃ N6, zupA N5 85 (fun i => if i < 64 then N5 96 i else N5 85 i) = N6 := ⟨_, rfl⟩
  rw [hN6]
  have o6 : zoff [85] N5 N6 := by rw [← hN6]; exact zoff_upA zoff_rfl (by decide)
  rw [cp_m (a := 97) (b := 86) (n := 8) (by decide) (by decide) (by omega) (by decide), zbV_V]
  obtain ⟨N7, hN7⟩ : ∃ N7, zupA N6 86 (fun i => if i < 8 then N6 97 i else N6 86 i) = N7 := ⟨_, rfl⟩
  rw [hN7]
  have o7 : zoff [86] N6 N7 := by rw [← hN7]; exact zoff_upA zoff_rfl (by decide)
  rw [cp_m (a := 98) (b := 87) (n := 36) (by decide) (by decide) (by omega) (by decide), zbV_V]
  obtain ⟨N8, hN8⟩ : ∃ N8, zupA N7 87 (fun i => if i < 36 then N7 98 i else N7 87 i) = N8 := ⟨_, rfl⟩
  rw [hN8]
  have o8 : zoff [87] N7 N8 := by rw [← hN8]; exact zoff_upA zoff_rfl (by decide)
  rw [cp_m (a := 99) (b := 88) (n := 1900) (by decide) (by decide) (by omega) (by decide), zbV_V]
  obtain ⟨N9, hN9⟩ : ∃ N9, zupA N8 88 (fun i => if i < 1900 then N8 99 i else N8 88 i) = N9 := ⟨_, rfl⟩
  rw [hN9]
  have o9 : zoff [88] N8 N9 := by rw [← hN9]; exact zoff_upA zoff_rfl (by decide)
  obtain ⟨N10, e10, l10, o10⟩ := l302_m (M := N9) (fun (M39 : zM) => zst (zup M39 79 50 0) (fun M40 => zst (zup M40 79 64 0) (fun M41 => zck (zbo 0) (zst (zup M41 79 73 0) (fun M42 => zI 0 M42)))))
  rw [e10, zst_eq, zst_eq, zbo_0, zck_t, zst_eq]
  obtain ⟨N11, hN11⟩ : ∃ N11, zup (zup (zup N10 79 50 0) 79 64 0) 79 73 0 = N11 := ⟨_, rfl⟩
  rw [hN11]
  have o11 : zoff [79] N10 N11 := by rw [← hN11]; exact zoff_up (zoff_up (zoff_up zoff_rfl (by decide)) (by decide)) (by decide)
  have k11 : ∀ k, k ≠ 50 → k ≠ 64 → k ≠ 73 → N11 79 k = N0 79 k := fun k h1 h2 h3 => by rw [← hN11, zup_row, upd_ne h3, zup_row, upd_ne h2, zup_row, upd_ne h1, o10 79 (by decide), o9 79 (by decide), o8 79 (by decide), o7 79 (by decide), o6 79 (by decide), o5 79 (by decide), o4 79 (by decide), o3 79 (by decide), o2 79 (by decide), o1 79 (by decide)]
  refine ⟨N11, rfl, by rw [k11 1 (by decide) (by decide) (by decide)]; exact r0.1, by rw [k11 2 (by decide) (by decide) (by decide)]; exact r0.2.1, by rw [k11 3 (by decide) (by decide) (by decide)]; exact r0.2.2.1, by rw [k11 4 (by decide) (by decide) (by decide)]; exact r0.2.2.2, ?_, ?_, ?_, fun i hi => ?_, fun i hi => ⟨?_, ?_, ?_, ?_, ?_⟩, fun i hi => ?_, fun i hi => ?_, fun i hi => ?_, fun i hi => by rw [o11 102 (by decide)]; exact l10 i hi, fun k hk => ?_, fun c hc => ?_⟩
  · rw [← hN11, zup_row, upd_ne (by decide), zup_row, upd_ne (by decide), zup_row, upd_eq]
  · rw [← hN11, zup_row, upd_ne (by decide), zup_row, upd_eq]
  · rw [← hN11, zup_row, upd_eq]
  · rw [o11 80 (by decide), o10 80 (by decide), o9 80 (by decide), o8 80 (by decide), o7 80 (by decide), o6 80 (by decide), o5 80 (by decide), o4 80 (by decide), o3 80 (by decide), o2 80 (by decide), ← hN1, zupA_eq, if_pos hi, o0 91 (by decide)]
  · rw [o11 81 (by decide), o10 81 (by decide), o9 81 (by decide), o8 81 (by decide), o7 81 (by decide), o6 81 (by decide), o5 81 (by decide), o4 81 (by decide), o3 81 (by decide), ← hN2, zupA_eq, if_pos hi, o1 92 (by decide), o0 92 (by decide)]
  · rw [o11 82 (by decide), o10 82 (by decide), o9 82 (by decide), o8 82 (by decide), o7 82 (by decide), o6 82 (by decide), o5 82 (by decide), o4 82 (by decide), ← hN3, zupA_eq, if_pos hi, o2 93 (by decide), o1 93 (by decide), o0 93 (by decide)]
  · rw [o11 83 (by decide), o10 83 (by decide), o9 83 (by decide), o8 83 (by decide), o7 83 (by decide), o6 83 (by decide), o5 83 (by decide), ← hN4, zupA_eq, if_pos hi, o3 94 (by decide), o2 94 (by decide), o1 94 (by decide), o0 94 (by decide)]
  · rw [o11 84 (by decide), o10 84 (by decide), o9 84 (by decide), o8 84 (by decide), o7 84 (by decide), o6 84 (by decide), ← hN5, zupA_eq, if_pos hi, o4 95 (by decide), o3 95 (by decide), o2 95 (by decide), o1 95 (by decide), o0 95 (by decide)]
  · rw [o11 86 (by decide), o10 86 (by decide), o9 86 (by decide), o8 86 (by decide), ← hN7, zupA_eq, if_pos hi, o6 97 (by decide), o5 97 (by decide), o4 97 (by decide), o3 97 (by decide), o2 97 (by decide), o1 97 (by decide), o0 97 (by decide)]
  · rw [o11 85 (by decide), o10 85 (by decide), o9 85 (by decide), o8 85 (by decide), o7 85 (by decide), ← hN6, zupA_eq, if_pos hi, o5 96 (by decide), o4 96 (by decide), o3 96 (by decide), o2 96 (by decide), o1 96 (by decide), o0 96 (by decide)]
  · rw [o11 87 (by decide), o10 87 (by decide), o9 87 (by decide), ← hN8, zupA_eq, if_pos hi, o7 98 (by decide), o6 98 (by decide), o5 98 (by decide), o4 98 (by decide), o3 98 (by decide), o2 98 (by decide), o1 98 (by decide), o0 98 (by decide)]
  · rw [o11 88 (by decide), o10 88 (by decide), ← hN9, zupA_eq, if_pos hi, o8 99 (by decide), o7 99 (by decide), o6 99 (by decide), o5 99 (by decide), o4 99 (by decide), o3 99 (by decide), o2 99 (by decide), o1 99 (by decide), o0 99 (by decide)]
  · simp only [List.mem_cons, List.mem_nil_iff, or_false, not_or] at hk
    rw [k11 k (by omega) (by omega) (by omega), k0 k (by omega) (by omega) (by omega) (by omega)]
  · simp only [List.mem_cons, List.mem_nil_iff, or_false, not_or] at hc
    rw [o11 c (by simp; omega), o10 c (by simp; omega), o9 c (by simp; omega), o8 c (by simp; omega), o7 c (by simp; omega), o6 c (by simp; omega), o5 c (by simp; omega), o4 c (by simp; omega), o3 c (by simp; omega), o2 c (by simp; omega), o1 c (by simp; omega), o0 c (by simp; omega)]
