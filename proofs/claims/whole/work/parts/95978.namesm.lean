/-! the reference reads names -/
section ZMN
variable {B : Nat → Nat} {n : Nat}
theorem nmt_m (ht : zTxt B n) {i : Nat} {g : zDr} {M12 : zM} (h1 : zTmx B n (0, i) M12) (hd : zDmm g M12) (hg : zDk g) (h8 : g.1 0 0 < 8) (hw : tkk B n i = 257) (hl9 : tkl B n i ≤ 9) : ∃ M', zbI (F_X12_isGood 79 M12) (fun r4 M13 => zit (r4 = 0) (zV M13) (zck (zin (nI (g.1 0 0)) 8) (zst (zup M13 (zgr 79 37) (zix (nI (g.1 0 0))) (M13 79 23)) (fun M14 => F_X12_readsName_L114 79 (nI (g.1 0 0)) (fun (M17 : zM) => zbV (F_X12_goes 79 M17) (fun M18 => zbI (F_X12_number 79 0 60 M18) (fun r6 M19 => zck (zin (nI (g.1 0 0)) 8) (zst (zup M19 (zgr 79 38) (zix (nI (g.1 0 0))) r6) (fun M20 => zbI (F_X12_number 79 0 60 M20) (fun r7 M21 => zck (zin (nI (g.1 0 0)) 8) (zst (zup M21 (zgr 79 39) (zix (nI (g.1 0 0))) r7) (fun M22 => zbI (F_X12_isGood 79 M22) (fun r8 M23 => zjo (fun (w1 : Int32) (M25 : zM) => zjo (fun (w2 : Int32) (M26 : zM) => zck (zin (nI (g.1 0 0)) 8) (zst (zup M26 (zgr 79 40) (zix (nI (g.1 0 0))) w2) (fun M27 => zck (zin (nI (g.1 0 0)) 8) (zjo (fun (M29 : zM) => zbI (F_X12_isGood 79 M29) (fun r10 M30 => zjo (fun (M32 : zM) => zV M32) (fun (k7 : zM → zO) => zit (r10 = 0) (k7 M30) (zst (zup M30 79 27 ((M30 79 27) + 1)) (fun M31 => k7 M31))))) (fun (k6 : zM → zO) => zit ((M27 (zgr 79 40) (zix (nI (g.1 0 0)))) ≤ 0) (k6 M27) (zbV (F_X12_goes 79 M27) (fun M28 => k6 M28))))))) (fun (k5 : Int32 → zM → zO) => zit (w1 = 8) (k5 1 M25) (zit (w1 = 9) (k5 2 M25) (k5 0 M25)))) (fun (k4 : Int32 → zM → zO) => zit (r8 = 0) (k4 (-1) M23) (zbI (F_X12_knownWord 79 M23) (fun r9 M24 => k4 r9 M24)))))))))))) zN 0 M14)))) = zV M' ∧ (zMss B n ((znm2 B n (0, i + 1)).1, zSnm g.1 (tkl B n i) (fun j => B (tkst B n i + j) - 96) (znm2 B n (0, i + 1)).2.1 (znm2 B n (0, i + 1)).2.2.1 (znm2 B n (0, i + 1)).2.2.2, g.2) M' ∧ zMx M12 M') := by
  have hn := ht.1
  rw [gd_m h1, zbI_I, if_pos rfl, zit_f (by decide), zin_k (k := g.1 0 0) (n := 8) h8 (by omega), zck_t, zst_eq, gr_79_37, zix_k (k := g.1 0 0) (by omega), slg_m h1]
  dsimp only
  obtain ⟨M3, hM3⟩ : ∃ M3, zup M12 92 (g.1 0 0) (nI (tkl B n i)) = M3 := ⟨_, rfl⟩
  rw [hM3]
  have o3 : zoff [92] M12 M3 := by rw [← hM3]; exact zoff_up zoff_rfl (by decide)
  have t3 := zTmx_o h1 (zoff_mono o3 (by decide))
  obtain ⟨M4, e4, l1, l2, o4⟩ := ltl_m ht t3 hw hl9 h8 (fun (M17 : zM) => zbV (F_X12_goes 79 M17) (fun M18 => zbI (F_X12_number 79 0 60 M18) (fun r6 M19 => zck true (zst (zup M19 (zgr 79 38) (g.1 0 0) r6) (fun M20 => zbI (F_X12_number 79 0 60 M20) (fun r7 M21 => zck true (zst (zup M21 (zgr 79 39) (g.1 0 0) r7) (fun M22 => zbI (F_X12_isGood 79 M22) (fun r8 M23 => zjo (fun (w1 : Int32) (M25 : zM) => zjo (fun (w2 : Int32) (M26 : zM) => zck true (zst (zup M26 (zgr 79 40) (g.1 0 0) w2) (fun M27 => zck true (zjo (fun (M29 : zM) => zbI (F_X12_isGood 79 M29) (fun r10 M30 => zjo (fun (M32 : zM) => zV M32) (fun (k7 : zM → zO) => zit (r10 = 0) (k7 M30) (zst (zup M30 79 27 ((M30 79 27) + 1)) (fun M31 => k7 M31))))) (fun (k6 : zM → zO) => zit ((M27 (zgr 79 40) (g.1 0 0)) ≤ 0) (k6 M27) (zbV (F_X12_goes 79 M27) (fun M28 => k6 M28))))))) (fun (k5 : Int32 → zM → zO) => zit (w1 = 8) (k5 1 M25) (zit (w1 = 9) (k5 2 M25) (k5 0 M25)))) (fun (k4 : Int32 → zM → zO) => zit (r8 = 0) (k4 (-1) M23) (zbI (F_X12_knownWord 79 M23) (fun r9 M24 => k4 r9 M24))))))))))))
  rw [e4]
  have t4 := zTmx_o t3 (zoff_mono o4 (by decide))
  obtain ⟨M5, e5, t5, o5⟩ := goz_m ht t4
  obtain ⟨r6, M6, e6, v6, t6, o6⟩ := nu_m ht t5 (lo := 0) (hi := 60) (by omega) (by omega)
  rw [e5, zbV_V, show F_X12_number 79 0 60 M5 = zI r6 M6 from e6, zbI_I, zck_t, zst_eq, gr_79_38]
  obtain ⟨M7, hM7⟩ : ∃ M7, zup M6 93 (g.1 0 0) r6 = M7 := ⟨_, rfl⟩
  rw [hM7]
  have o7 : zoff [93] M6 M7 := by rw [← hM7]; exact zoff_up zoff_rfl (by decide)
  have t7 := zTmx_o t6 (zoff_mono o7 (by decide))
  obtain ⟨p4, hp4⟩ : ∃ p4, zstp (zsn B n 0 60 (0, i + 1)) = p4 := ⟨_, rfl⟩
  rw [hp4] at t7
  obtain ⟨r7, M8, e8, v8, t8, o8⟩ := nu_m ht t7 (lo := 0) (hi := 60) (by omega) (by omega)
  rw [show F_X12_number 79 0 60 M7 = zI r7 M8 from e8, zbI_I, zck_t, zst_eq, gr_79_39]
  obtain ⟨M9, hM9⟩ : ∃ M9, zup M8 94 (g.1 0 0) r7 = M9 := ⟨_, rfl⟩
  rw [hM9]
  have o9 : zoff [94] M8 M9 := by rw [← hM9]; exact zoff_up zoff_rfl (by decide)
  obtain ⟨p5, hp5⟩ : ∃ p5, zstp (zsn B n 0 60 p4) = p5 := ⟨_, rfl⟩
  rw [hp5] at t8
  have t9 := zTmx_o t8 (zoff_mono o9 (by decide))
  have hz := znm2_g (B := B) (n := n) (p := (0, i + 1))
  unfold znm2 at hz ⊢
  dsimp only at hz ⊢
  rw [hp4] at hz ⊢
  rw [hp5] at hz ⊢
  obtain ⟨d, hd'⟩ : ∃ d, (if zwd B n p5 = 8 then 1 else if zwd B n p5 = 9 then 2 else 0) = d := ⟨_, rfl⟩
  rw [hd'] at hz ⊢
  -- behind the sort
  have tail : ∀ w2 : Nat, w2 = d → ∃ M', zck true (zst (zup M9 (zgr 79 40) (g.1 0 0) (nI w2)) (fun M27 => zck true (zjo (fun (M29 : zM) => zbI (F_X12_isGood 79 M29) (fun r10 M30 => zjo (fun (M32 : zM) => zV M32) (fun (k7 : zM → zO) => zit (r10 = 0) (k7 M30) (zst (zup M30 79 27 ((M30 79 27) + 1)) (fun M31 => k7 M31))))) (fun (k6 : zM → zO) => zit ((M27 (zgr 79 40) (g.1 0 0)) ≤ 0) (k6 M27) (zbV (F_X12_goes 79 M27) (fun M28 => k6 M28)))))) = zV M' ∧ (zMss B n (if d = 0 then p5 else zstp p5, zSnm g.1 (tkl B n i) (fun j => B (tkst B n i + j) - 96) (tkv B n (i + 1)) (tkv B n p4.2) d, g.2) M' ∧ zMx M12 M') := fun w2 hw2 => by
    subst hw2
    rw [zck_t, zst_eq, gr_79_40, zck_t, zjo_eq]
    obtain ⟨M10, hM10⟩ : ∃ M10, zup M9 95 (g.1 0 0) (nI w2) = M10 := ⟨_, rfl⟩
    rw [hM10]
    have o10 : zoff [95] M9 M10 := by rw [← hM10]; exact zoff_up zoff_rfl (by decide)
    have t10 := zTmx_o t9 (zoff_mono o10 (by decide))
    have f95 : M10 95 (g.1 0 0) = nI w2 := by rw [← hM10, zup_row, upd_eq]
    have hd2 : w2 ≤ 2 := by
      rw [← hd']
      split
      · omega
      · split <;> omega
    rw [f95]
    have rows : ∀ M11 : zM, zMp M10 M11 → (∀ c, c ∉ [79, 91, 92, 93, 94, 95] → M11 c = M12 c) ∧ (∀ k, k < 16 ∨ k = 18 ∨ k = 19 ∨ 26 < k → k ≠ 1026 → M11 79 k = M12 79 k) ∧ (∀ c, c ∈ [92, 93, 94, 95] → ∀ j, j ≠ g.1 0 0 → M11 c j = M12 c j) ∧ M11 92 (g.1 0 0) = nI (tkl B n i) ∧ M11 93 (g.1 0 0) = r6 ∧ M11 94 (g.1 0 0) = r7 ∧ M11 95 (g.1 0 0) = nI w2 ∧ M11 91 = M4 91 := fun M11 o11 => by
      have g11 : ∀ c, c ≠ 79 → M11 c = M10 c := fun c hc => o11.2 c (by simp; omega)
      have g8 : ∀ c, c ≠ 79 → M8 c = M7 c := fun c hc => o8.2 c (by simp; omega)
      have g6 : ∀ c, c ≠ 79 → M6 c = M5 c := fun c hc => o6.2 c (by simp; omega)
      have g5 : ∀ c, c ≠ 79 → M5 c = M4 c := fun c hc => o5.2 c (by simp; omega)
      refine ⟨fun c hc => ?_, fun k hk hk2 => ?_, fun c hc j hj => ?_, ?_, ?_, ?_, ?_, ?_⟩
      · simp only [List.mem_cons, List.mem_nil_iff, or_false, not_or] at hc
        rw [g11 c (by omega), o10 c (by simp; omega), o9 c (by simp; omega), g8 c (by omega), o7 c (by simp; omega), g6 c (by omega), g5 c (by omega), o4 c (by simp; omega), o3 c (by simp; omega)]
      · rw [o11.1 k hk hk2, o10 79 (by decide), o9 79 (by decide), o8.1 k hk hk2, o7 79 (by decide), o6.1 k hk hk2, o5.1 k (by omega) hk2, o4 79 (by decide), o3 79 (by decide)]
      · simp only [List.mem_cons, List.mem_nil_iff, or_false] at hc
        rcases hc with rfl | rfl | rfl | rfl
        · rw [g11 92 (by decide), o10 92 (by decide), o9 92 (by decide), g8 92 (by decide), o7 92 (by decide), g6 92 (by decide), g5 92 (by decide), o4 92 (by decide), ← hM3, zup_row, upd_ne hj]
        · rw [g11 93 (by decide), o10 93 (by decide), o9 93 (by decide), g8 93 (by decide), ← hM7, zup_row, upd_ne hj, g6 93 (by decide), g5 93 (by decide), o4 93 (by decide), o3 93 (by decide)]
        · rw [g11 94 (by decide), o10 94 (by decide), ← hM9, zup_row, upd_ne hj, g8 94 (by decide), o7 94 (by decide), g6 94 (by decide), g5 94 (by decide), o4 94 (by decide), o3 94 (by decide)]
        · rw [g11 95 (by decide), ← hM10, zup_row, upd_ne hj, o9 95 (by decide), g8 95 (by decide), o7 95 (by decide), g6 95 (by decide), g5 95 (by decide), o4 95 (by decide), o3 95 (by decide)]
      · rw [g11 92 (by decide), o10 92 (by decide), o9 92 (by decide), g8 92 (by decide), o7 92 (by decide), g6 92 (by decide), g5 92 (by decide), o4 92 (by decide), ← hM3, zup_row, upd_eq]
      · rw [g11 93 (by decide), o10 93 (by decide), o9 93 (by decide), g8 93 (by decide), ← hM7, zup_row, upd_eq]
      · rw [g11 94 (by decide), o10 94 (by decide), ← hM9, zup_row, upd_eq]
      · rw [g11 95 (by decide), f95]
      · rw [g11 91 (by decide), o10 91 (by decide), o9 91 (by decide), g8 91 (by decide), o7 91 (by decide), g6 91 (by decide), g5 91 (by decide)]
    -- the last
    have fin : ∀ (p6 : Nat × Nat) (M11 : zM), p6 = (if w2 = 0 then p5 else zstp p5) → zTmx B n p6 M11 → zMp M10 M11 → ∃ M', zbI (F_X12_isGood 79 M11) (fun r10 M30 => zjo (fun (M32 : zM) => zV M32) (fun (k7 : zM → zO) => zit (r10 = 0) (k7 M30) (zst (zup M30 79 27 ((M30 79 27) + 1)) (fun M31 => k7 M31)))) = zV M' ∧ (zMss B n (if w2 = 0 then p5 else zstp p5, zSnm g.1 (tkl B n i) (fun j => B (tkst B n i + j) - 96) (tkv B n (i + 1)) (tkv B n p4.2) w2, g.2) M' ∧ zMx M12 M') := fun p6 M11 hp6 t11 o11 => by
      obtain ⟨R1, R2, R3, R4, R5, R6, R7, R8⟩ := rows M11 o11
      rw [gd_m t11, zbI_I, zjo_eq]
      by_cases c6 : p6.1 = 0
      · rw [if_pos c6, zit_f (by decide), zst_eq]
        have d27 : M11 79 27 = nI (g.1 0 0) := by rw [R2 27 (by omega) (by omega)]; exact hd.1.1
        rw [d27, nI_1]
        obtain ⟨M13, hM13⟩ : ∃ M13, zup M11 79 27 (nI (g.1 0 0 + 1)) = M13 := ⟨_, rfl⟩
        rw [hM13]
        have o13 : ∀ c, c ≠ 79 → M13 c = M11 c := fun c hc => by rw [← hM13, zup_ne hc]
        have k13 : ∀ k, k ≠ 27 → M13 79 k = M11 79 k := fun k hk => by rw [← hM13, zup_row, upd_ne hk]
        have k27 : M13 79 27 = nI (g.1 0 0 + 1) := by rw [← hM13, zup_row, upd_eq]
        rw [← hp6] at hz
        obtain ⟨z1, z2, z3, z4, z5, z6⟩ := hz c6
        refine ⟨M13, rfl, ⟨?_, fun _ => ?_⟩, ⟨fun k hk hk2 => by rw [k13 k (by omega), R2 k (by omega) hk2], fun c hc => ?_⟩⟩
        · rw [← hp6]
          exact zTmx_cg t11 (fun k hk => k13 k (by omega)) (o13 89 (by decide))
        · obtain ⟨⟨D1, D2, D3, D4, D5, D6, D7, D8, D9, D10, D11⟩, D12⟩ := hd
          have eo : ∀ r k, r ≠ 0 → r ≠ 3 → r ≠ 4 → r ≠ 5 → r ≠ 6 → r ≠ 7 → zSnm g.1 (tkl B n i) (fun j => B (tkst B n i + j) - 96) (tkv B n (i + 1)) (tkv B n p4.2) w2 r k = g.1 r k := fun r k k0 k3 k4 k5 k6 k7 => zSnm_o k0 (by omega) (by omega)
          unfold zDmm zDmn zTw
          dsimp only
          have e8 : ∀ k, zSnm g.1 (tkl B n i) (fun j => B (tkst B n i + j) - 96) (tkv B n (i + 1)) (tkv B n p4.2) w2 8 k = g.1 8 k := fun k => eo 8 k (by omega) (by omega) (by omega) (by omega) (by omega) (by omega)
          have e12 : ∀ k, zSnm g.1 (tkl B n i) (fun j => B (tkst B n i + j) - 96) (tkv B n (i + 1)) (tkv B n p4.2) w2 12 k = g.1 12 k := fun k => eo 12 k (by omega) (by omega) (by omega) (by omega) (by omega) (by omega)
          simp only [e8, e12]
          rw [zSnm_0, eo 1 0 (by omega) (by omega) (by omega) (by omega) (by omega) (by omega), eo 2 0 (by omega) (by omega) (by omega) (by omega) (by omega) (by omega), k27, k13 28 (by decide), k13 29 (by decide), k13 30 (by decide), k13 31 (by decide), k13 32 (by decide), k13 33 (by decide), R2 28 (by omega) (by omega), R2 29 (by omega) (by omega), R2 30 (by omega) (by omega), R2 31 (by omega) (by omega), R2 32 (by omega) (by omega), R2 33 (by omega) (by omega), o13 96 (by decide), o13 97 (by decide), o13 98 (by decide), o13 99 (by decide), R1 96 (by decide), R1 97 (by decide), R1 98 (by decide), R1 99 (by decide), o13 91 (by decide), o13 92 (by decide), o13 93 (by decide), o13 94 (by decide), o13 95 (by decide)]
          refine ⟨⟨rfl, D2, D3, D4, D5, fun k hk => ?_, fun k hk j hj => ?_, D8, D9, D10, fun f hf => ?_⟩, D12⟩
          · by_cases e : k = g.1 0 0
            · obtain ⟨s5, s6, s7⟩ := zSnm_5 (S := g.1) (l := tkl B n i) (t := fun j => B (tkst B n i + j) - 96) (x := tkv B n (i + 1)) (y := tkv B n p4.2) (d := w2)
              rw [e, zSnm_3, s5, s6, s7, R4, R5, R6, R7, v6 z2, v8 z3]
              exact ⟨rfl, rfl, rfl, rfl⟩
            · rw [zSnm_o (by omega) (fun _ => e) (by omega), zSnm_o (by omega) (fun _ => e) (by omega), zSnm_o (by omega) (fun _ => e) (by omega), zSnm_o (by omega) (fun _ => e) (by omega), R3 92 (by decide) k e, R3 93 (by decide) k e, R3 94 (by decide) k e, R3 95 (by decide) k e]
              exact D6 k (by omega)
          · by_cases e : k = g.1 0 0
            · rw [e] at hj ⊢
              rw [zSnm_3] at hj
              rw [zSnm_4, R8]
              exact l1 j hj
            · rw [zSnm_o (by omega) (fun _ => e) (by omega)] at hj
              have h9 := so_i hg.1 k (by omega)
              rw [zSnm_o (by omega) (by omega) (fun _ => by omega), R8, l2 _ (by omega), o3 91 (by decide)]
              exact D7 k (by omega) j hj
          · rw [eo 9 f (by omega) (by omega) (by omega) (by omega) (by omega) (by omega), eo 10 f (by omega) (by omega) (by omega) (by omega) (by omega) (by omega), eo 11 f (by omega) (by omega) (by omega) (by omega) (by omega) (by omega)]
            exact D11 f hf
        · simp only [List.mem_cons, List.mem_nil_iff, or_false, not_or] at hc
          rw [o13 c (by omega), R1 c (by simp; omega)]
      · rw [if_neg c6, zit_t rfl]
        refine ⟨M11, rfl, ⟨by rw [← hp6]; exact t11, fun z => ?_⟩, ⟨fun k hk hk2 => R2 k (by omega) hk2, fun c hc => ?_⟩⟩
        · dsimp only at z
          rw [← hp6] at z
          exact absurd z c6
        · simp only [List.mem_cons, List.mem_nil_iff, or_false, not_or] at hc
          exact R1 c (by simp; omega)
    by_cases c0 : w2 = 0
    · rw [zit_t (show nI w2 ≤ (0 : Int32) from by rw [c0]; decide)]
      exact fin p5 M10 (by rw [if_pos c0]) t10 zMp_rfl
    · have hp5g : p5.1 = 0 := by
        by_cases z : p5.1 = 0
        · exact z
        · rw [zwd_f z, if_neg (by omega), if_neg (by omega)] at hd'
          exact absurd hd'.symm c0
      have t10' : zTmx B n (0, p5.2) M10 := by
        rw [← hp5g]
        exact t10
      obtain ⟨M11, e11, t11, o11⟩ := goz_m ht t10'
      rw [zit_f (show ¬ nI w2 ≤ (0 : Int32) from (nI_ge (by omega) (by omega) : ¬ nI w2 ≤ nI 0)), e11, zbV_V]
      exact fin (0, p5.2 + 1) M11 (by rw [if_neg c0, zstp_0 hp5g]) t11 (zMp_o o11)
  rw [gd_m t9, zbI_I, zjo_eq]
  by_cases c5 : p5.1 = 0
  · rw [if_pos c5, zit_f (by decide), kw_m ht t9, zbI_I]
    dsimp only
    rw [zjo_eq]
    have k8 := kwI (tkw_le (B := B) (n := n) p5.2) (c := 8) (by omega)
    have k9 := kwI (tkw_le (B := B) (n := n) p5.2) (c := 9) (by omega)
    rw [zwd_0 c5] at hd'
    by_cases w8 : tkw B n p5.2 = 8
    · rw [if_pos w8] at hd'
      rw [zit_t (show (if tkw B n p5.2 < 17 then nI (tkw B n p5.2) else -1) = (8 : Int32) from k8.mpr w8)]
      exact tail 1 hd'
    · rw [if_neg w8] at hd'
      rw [zit_f (show ¬ (if tkw B n p5.2 < 17 then nI (tkw B n p5.2) else -1) = (8 : Int32) from fun z => w8 (k8.mp z))]
      by_cases w9 : tkw B n p5.2 = 9
      · rw [if_pos w9] at hd'
        rw [zit_t (show (if tkw B n p5.2 < 17 then nI (tkw B n p5.2) else -1) = (9 : Int32) from k9.mpr w9)]
        exact tail 2 hd'
      · rw [if_neg w9] at hd'
        rw [zit_f (show ¬ (if tkw B n p5.2 < 17 then nI (tkw B n p5.2) else -1) = (9 : Int32) from fun z => w9 (k9.mp z))]
        exact tail 0 hd'
  · rw [zwd_f c5, if_neg (by omega), if_neg (by omega)] at hd'
    rw [if_neg c5, zit_t rfl]
    dsimp only
    rw [zjo_eq, zit_f (by decide), zit_f (by decide)]
    exact tail 0 hd'
theorem nmn_m (ht : zTxt B n) {p : Nat × Nat} {g : zDr} {M : zM} (h : zMss B n (p, g) M) (hp : p.1 = 0) (hg : zDk g) : ∃ M', F_X12_readsName 79 M = zV M' ∧ (zMss B n (zname B n p g) M' ∧ zMx M M') := by
  obtain ⟨f0, i⟩ := p
  dsimp only at hp
  subst hp
  obtain ⟨h1, h2⟩ := id h
  have hd : zDmm g M := h2 rfl
  have h8 := so_n hg.1
  have hn := ht.1
  have h27 : M 79 27 = nI (g.1 0 0) := hd.1.1
  unfold F_X12_readsName zname
  rw [zjo_eq, h27]
  by_cases c8 : 8 ≤ g.1 0 0
  · have e8 : g.1 0 0 = 8 := by omega
    obtain ⟨M1, e1, t1, k1, o1⟩ := wr_m h1 (w := 2) (by omega) (by omega)
    have hf : (zrfs 2 ((0, i), g).1).1 ≠ 0 := by rw [zrfs_0 rfl]; simp
    rw [zit_t (show nI (g.1 0 0) = (8 : Int32) from by rw [e8]; rfl), show F_X12_wrong 79 2 M = zV M1 from e1, zbV_V]
    try dsimp only
    rw [gd_m t1, zbI_I, if_neg hf, zit_t rfl, if_pos c8]
    exact ⟨M1, rfl, ⟨t1, fun z => absurd z hf⟩, zMx_p (zMp_w k1 o1)⟩
  · rw [zit_f (show ¬ nI (g.1 0 0) = (8 : Int32) from fun z => by have := (nI_eq (b := 8) (by omega) (by omega)).mp z; omega)]
    try dsimp only
    rw [gd_m h1, zbI_I, if_pos rfl, zit_f (by decide), if_neg c8]
    obtain ⟨M1, e1, t1, o1⟩ := goz_m ht h1
    have d1 := zDmm_p hd (zMp_o o1)
    have h27' : M1 79 27 = nI (g.1 0 0) := d1.1.1
    rw [e1, zbV_V, zlt_eq, zjo_eq, h27']
    have ep : zstp (0, i) = (0, i + 1) := zstp_0 rfl
    rw [ep]
    dsimp only
    -- behind a fault
    have bad : ∀ (w : Nat) (M2 : zM) (K : zM → zO), w ≠ 0 → zTmx B n (w, i + 1) M2 → zMx M M2 → zwrd B n g.1 (0, i + 1) = (w, i + 1) → (K M2 = zV M2) → ∃ M', F_X12_readsName_L63 79 (nI (g.1 0 0)) K zN 0 M2 = zV M' ∧ (zMss B n ((znm2 B n (zstp (zwrd B n g.1 (0, i + 1)))).1, zSnm g.1 (tkl B n (i + 1)) (fun j => B (tkst B n (i + 1) + j) - 96) (znm2 B n (zstp (zwrd B n g.1 (0, i + 1)))).2.1 (znm2 B n (zstp (zwrd B n g.1 (0, i + 1)))).2.2.1 (znm2 B n (zstp (zwrd B n g.1 (0, i + 1)))).2.2.2, g.2) M' ∧ zMx M M') := fun w M2 K hw t2 x2 ew hK => by
      have hz : (znm2 B n (zstp (zwrd B n g.1 (0, i + 1)))).1 = (w, i + 1) := by
        rw [ew, zstp_f (by exact hw), znm2_f (by exact hw)]
      obtain ⟨f, hf⟩ : ∃ f, zN = f + 1 := ⟨999999, rfl⟩
      have e : F_X12_readsName_L63 79 (nI (g.1 0 0)) K zN 0 M2 = K M2 := by
        rw [hf, F_X12_readsName_L63]
        by_cases c0 : nI (g.1 0 0) ≤ 0
        · rw [zit_t c0]
        · rw [zit_f c0, gd_m t2, zbI_I, if_neg (by exact hw), zit_t rfl]
      rw [e, hK]
      refine ⟨M2, rfl, ⟨?_, fun z => ?_⟩, x2⟩
      · dsimp only
        rw [hz]
        exact t2
      · dsimp only at z
        rw [hz] at z
        exact absurd z hw
    have kf : ∀ (w : Nat) (M2 : zM) (X : zM → zO), w ≠ 0 → zTmx B n (w, i + 1) M2 → zbI (F_X12_isGood 79 M2) (fun r4 M13 => zit (r4 = 0) (zV M13) (X M13)) = zV M2 := fun w M2 X hw t2 => by
      rw [gd_m t2, zbI_I, if_neg (by exact hw), zit_t rfl]
    have ekn : zkn B n (0, i + 1) = tkk B n (i + 1) := zkn_0 rfl
    by_cases c1 : tkk B n (i + 1) = 257
    · rw [zit_t ((s1_m t1).mpr c1), slg_m t1]
      dsimp only
      have hl := tkl_le (B := B) ht (i + 1)
      by_cases c9 : 9 < tkl B n (i + 1)
      · obtain ⟨M2, e2, t2, k2, o2⟩ := wr_m t1 (w := 2) (by omega) (by omega)
        rw [zrfs_0 rfl] at t2
        rw [zit_f (show ¬ nI (tkl B n (i + 1)) ≤ (9 : Int32) from (nI_ge c9 (by omega) : ¬ nI (tkl B n (i + 1)) ≤ nI 9)), show F_X12_wrong 79 2 M1 = zV M2 from e2, zbV_V]
        refine bad 2 M2 _ (by omega) t2 (zMx_p (zMp_tr (zMp_o o1) (zMp_w k2 o2))) ?_ (kf 2 M2 _ (by omega) t2)
        unfold zwrd
        rw [ekn, if_neg (show ¬ tkk B n (i + 1) ≠ 257 from by omega), if_pos c9, zrfs_0 rfl, if_neg (by simp)]
      · rw [zit_t (show nI (tkl B n (i + 1)) ≤ (9 : Int32) from nI_le (b := 9) (by omega) (by omega))]
        have ew : zwrd B n g.1 (0, i + 1) = (if zax (zsame B n g.1 (i + 1)) (g.1 0 0) = true then (4, i + 1) else (0, i + 1)) := by
          unfold zwrd
          rw [ekn, if_neg (show ¬ tkk B n (i + 1) ≠ 257 from by omega), if_neg (show ¬ 9 < tkl B n ((0, i + 1) : Nat × Nat).2 from c9)]
          by_cases cz : zax (zsame B n g.1 (i + 1)) (g.1 0 0) = true
          · rw [if_pos ⟨rfl, cz⟩, if_pos cz]
          · rw [if_neg (fun z => cz z.2), if_neg cz]
        have hd92 := d1.1.2.2.2.2.2.1
        have hd91 := d1.1.2.2.2.2.2.2.1
        obtain ⟨M2, e2, t2, o2⟩ := dup_m ht t1 c1 (by omega) hg.1 (fun k hk => (hd92 k hk).1) hd91 (fun (M12 : zM) => zbI (F_X12_isGood 79 M12) (fun r4 M13 => zit (r4 = 0) (zV M13) (zck (zin (nI (g.1 0 0)) 8) (zst (zup M13 (zgr 79 37) (zix (nI (g.1 0 0))) (M13 79 23)) (fun M14 => F_X12_readsName_L114 79 (nI (g.1 0 0)) (fun (M17 : zM) => zbV (F_X12_goes 79 M17) (fun M18 => zbI (F_X12_number 79 0 60 M18) (fun r6 M19 => zck (zin (nI (g.1 0 0)) 8) (zst (zup M19 (zgr 79 38) (zix (nI (g.1 0 0))) r6) (fun M20 => zbI (F_X12_number 79 0 60 M20) (fun r7 M21 => zck (zin (nI (g.1 0 0)) 8) (zst (zup M21 (zgr 79 39) (zix (nI (g.1 0 0))) r7) (fun M22 => zbI (F_X12_isGood 79 M22) (fun r8 M23 => zjo (fun (w1 : Int32) (M25 : zM) => zjo (fun (w2 : Int32) (M26 : zM) => zck (zin (nI (g.1 0 0)) 8) (zst (zup M26 (zgr 79 40) (zix (nI (g.1 0 0))) w2) (fun M27 => zck (zin (nI (g.1 0 0)) 8) (zjo (fun (M29 : zM) => zbI (F_X12_isGood 79 M29) (fun r10 M30 => zjo (fun (M32 : zM) => zV M32) (fun (k7 : zM → zO) => zit (r10 = 0) (k7 M30) (zst (zup M30 79 27 ((M30 79 27) + 1)) (fun M31 => k7 M31))))) (fun (k6 : zM → zO) => zit ((M27 (zgr 79 40) (zix (nI (g.1 0 0)))) ≤ 0) (k6 M27) (zbV (F_X12_goes 79 M27) (fun M28 => k6 M28))))))) (fun (k5 : Int32 → zM → zO) => zit (w1 = 8) (k5 1 M25) (zit (w1 = 9) (k5 2 M25) (k5 0 M25)))) (fun (k4 : Int32 → zM → zO) => zit (r8 = 0) (k4 (-1) M23) (zbI (F_X12_knownWord 79 M23) (fun r9 M24 => k4 r9 M24)))))))))))) zN 0 M14)))))
        rw [← ew] at t2
        have x12 := zMp_tr (zMp_o o1) o2
        refine Exists.elim (⟨M2, e2⟩ : ∃ M2', _ = _) (fun _ _ => ?_)
        rw [e2]
        by_cases cz : zax (zsame B n g.1 (i + 1)) (g.1 0 0) = true
        · rw [if_pos cz] at ew
          rw [ew] at t2
          have hz : (znm2 B n (zstp (zwrd B n g.1 (0, i + 1)))).1 = (4, i + 1) := by
            rw [ew, zstp_f (by simp), znm2_f (by simp)]
          rw [kf 4 M2 _ (by omega) t2]
          refine ⟨M2, rfl, ⟨?_, fun z => ?_⟩, zMx_p x12⟩
          · dsimp only
            rw [hz]
            exact t2
          · dsimp only at z
            rw [hz] at z
            exact absurd z (by simp)
        · rw [if_neg cz] at ew
          rw [ew] at t2 ⊢
          have eq1 : zstp (0, i + 1) = (0, i + 2) := zstp_0 rfl
          rw [eq1]
          obtain ⟨M3, e3, x3, o3⟩ := nmt_m ht t2 (zDmm_p d1 o2) hg (by omega) c1 (by omega)
          exact ⟨M3, e3, x3, zMx_tr (zMx_p x12) o3⟩
    · obtain ⟨M2, e2, t2, k2, o2⟩ := wr_m t1 (w := 1) (by omega) (by omega)
      rw [zrfs_0 rfl] at t2
      rw [zit_f (fun z => c1 ((s1_m t1).mp z)), show F_X12_wrong 79 1 M1 = zV M2 from e2, zbV_V]
      refine bad 1 M2 _ (by omega) t2 (zMx_p (zMp_tr (zMp_o o1) (zMp_w k2 o2))) ?_ (kf 1 M2 _ (by omega) t2)
      unfold zwrd
      rw [ekn, if_pos c1, zrfs_0 rfl, if_neg (by simp)]
end ZMN
