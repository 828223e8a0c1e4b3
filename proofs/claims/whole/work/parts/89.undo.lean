/-! year, undo -/
theorem op_year (q : zSt) (ho : zok q) (hC : tC q < 600) : zOp 0 (F_X11_year 0) (F_X12_year 79) zNSE zIAE q := by
  have hf12 := so_f (qo_S ho)
  have hw' : zWok (tS q) (zWyr (tS q) (tL q) (tW q)) := zWyr_ok (qo_S ho) (qo_W ho)
  obtain ⟨b1, b2, b3⟩ := zyr_ok (L := tL q) (qo_S ho) (qo_W ho) (tS q 1 0) (Nat.le_refl _)
  have hY : ∀ M, F_X12_year 79 M = F_X12_year 79 (zup M 79 0 0) := fun M => by unfold F_X12_year; rw [zup_idem]
  have hp : 2 ^ (tS q 1 0) ≤ 2 ^ 12 := Nat.pow_le_pow_right (by decide) hf12
  refine zop_self hY ⟨zqA q (zWyr (tS q) (tL q) (tW q)) (tW q :: zkp (tA q)) (tV q), nI (zyr (tS q) (tL q) (tW q) (tS q 1 0)).2.1, Nat.le_refl _, fun M h => ?_, fun M h h0 => ?_⟩
  · obtain ⟨hW, c0, hA, c1, hVx⟩ := qx_H h
    unfold F_X11_year
    rw [zst_eq, gr_0_4, gr_0_7]
    have u1 : ∀ i, i ≠ 0 → zup M 0 15 (M 0 15 + 1) i = M i := fun i hi => zup_ne hi
    have hS1 : zSx (tS q) (zup M 0 15 (M 0 15 + 1)) := zSx_off (qx_S h) (fun i hi => u1 i (fun e => by subst e; revert hi; decide))
    have hL1 : zLx (tL q) (zup M 0 15 (M 0 15 + 1)) := zLx_off (qx_L h) (u1 9 (by omega)) (u1 11 (by omega))
    have hW1 : zWx 40 (tW q) (zup M 0 15 (M 0 15 + 1)) := by
      unfold zWx
      rw [u1 40 (by omega), u1 (40 + 1) (by omega), u1 (40 + 2) (by omega)]
      exact hW
    obtain ⟨M1, e1, hW2, o1⟩ := py_x (L := tL q) (Or.inl rfl) hS1 (qo_S ho) (qo_L ho) hL1 hW1 (qo_W ho)
    rw [e1, zbI_I]
    have f1 : ∀ i, i ∉ [0, 10, 12, 40, 41, 42] → M1 i = M i := fun i hi => by
      simp only [List.mem_cons, List.mem_nil_iff, or_false, not_or] at hi
      rw [o1 i (by simp only [List.mem_cons, List.mem_nil_iff, or_false, not_or]; exact hi.2), u1 i hi.1]
    obtain ⟨M2, e2, d0, d1, d2, ⟨d3, d4, d5, d6⟩, o2⟩ := ad_x (S := tS q) (M := M1) (w := tW q) (l := tA q) ho.2.2.1.2.1 (by rw [f1 49 (by decide)]; exact c0) (by
      rw [f1 50 (by decide), f1 51 (by decide), f1 52 (by decide), f1 53 (by decide)]
      exact hA) 1 0 0 (nI (zyr (tS q) (tL q) (tW q) (tS q 1 0)).1)
    rw [e2, zbV_V, bc_F, zbI_I, bc_yr (qo_S ho) (qo_W ho) _ (Nat.le_refl _)]
    have f2 : ∀ i, i ∉ [49, 50, 51, 52, 53] → M2 i = M1 i := o2
    refine ⟨M2, rfl, zQx_act h hC (zHok_A ho hw') (fun i h1 h2 h3 => ?_) ?_ ?_ ⟨?_, ?_, ?_, ?_, ?_⟩, fun i hi => ?_⟩
    · have h4 : i ∉ [49, 50, 51, 52, 53] := fun hz => h3 (by simp only [List.mem_cons, List.mem_nil_iff, or_false] at hz; rcases hz with rfl | rfl | rfl | rfl | rfl <;> decide)
      have h5 : i ∉ [0, 10, 12, 40, 41, 42] := fun hz => by
        simp only [List.mem_cons, List.mem_nil_iff, or_false] at hz
        rcases hz with rfl | rfl | rfl | rfl | rfl | rfl
        · exact h3 (by decide)
        · exact h2 (by decide)
        · exact h2 (by decide)
        · exact h3 (by decide)
        · exact h3 (by decide)
        · exact h3 (by decide)
      rw [f2 i h4, f1 i h5]
    · rw [f2 0 (by decide), o1 0 (by decide), zup_row, upd_ne (by omega)]
    · rw [f2 0 (by decide), o1 0 (by decide), zup_row, upd_eq]
    · unfold zWx
      rw [f2 40 (by decide), f2 (40 + 1) (by decide), f2 (40 + 2) (by decide)]
      exact hW2
    · rw [d0]
      rfl
    · refine ⟨qo_W ho, Or.inr (Or.inl ⟨d3, ⟨_, by omega, d6⟩, ?_⟩), d2⟩
      rw [show M2 (49 + 4) (zkp (tA q)).length = nI (zyr (tS q) (tL q) (tW q) (tS q 1 0)).1 from d6]
      have e5 : ((zWyr (tS q) (tL q) (tW q)).1, (zWyr (tS q) (tL q) (tW q)).2.1, (zWyr (tS q) (tL q) (tW q)).2.2 - 1) = (zyr (tS q) (tL q) (tW q) (tS q 1 0)).2.2 := by
        show ((zyr (tS q) (tL q) (tW q) (tS q 1 0)).2.2.1, (zyr (tS q) (tL q) (tW q) (tS q 1 0)).2.2.2.1, (tW q).2.2 + 1 - 1) = _
        rw [Int32.add_sub_cancel, ← b3]
      rw [e5]
      exact yb_yr (qo_S ho) (qo_W ho) _ (Nat.le_refl _) _ (by omega) (fun _ _ => rfl)
    · rw [d1, f1 49 (by decide)]
      exact c1
    · rw [f2 (49 + 5) (by decide), f2 (49 + 6) (by decide), f1 (49 + 5) (by decide), f1 (49 + 6) (by decide)]
      exact hVx
    · rw [f2 i (by simp only [List.mem_cons, List.mem_nil_iff, or_false]; omega), f1 i (by simp only [List.mem_cons, List.mem_nil_iff, or_false]; omega)]
  · obtain ⟨hW, c0, hA, c1, hVm⟩ := qm_H h
    obtain ⟨M2, e2, d0, d1, d2, o2⟩ := kp_m ho.2.2.1.2.1 c0 hA hW
    have f2 : ∀ i, i ∉ [79, 104] → M2 i = M i := o2
    unfold F_X12_year
    rw [zst_eq, zup_same h0, e2, zbV_V, gr_79_47]
    have hS2 : zSm (tS q) M2 := zSm_off (qm_S h) (fun z hz => d2 z (fun e => by subst e; revert hz; decide)) (fun i hi => f2 i (fun hz => by
      simp only [List.mem_cons, List.mem_nil_iff, or_false] at hi hz
      omega))
    have hL2 : zLm (tL q) M2 := zLm_off (qm_L h) (d2 4 (by omega)) (f2 88 (by decide))
    have hW2 : zWr (M2 102) 0 (tW q) := by
      rw [f2 102 (by decide)]
      exact hW
    obtain ⟨M3, e3, hW3, o3⟩ := yo_m (Or.inl rfl) hS2 (qo_S ho) (qo_L ho) hL2 hW2 (qo_W ho)
    rw [e3, zbI_I]
    have f3 : ∀ i, i ∉ [105, 106, 102] → M3 i = M2 i := o3
    refine ⟨M3, rfl, ?_, zQm_act h hC (zHok_A ho hw') (fun i h1 h2 h3 h4 => ?_) (fun z h1 h2 h3 => ?_) ⟨hW3, ?_, ?_, ?_, ?_⟩, fun i hi => ?_⟩
    · rw [f3 79 (by decide), d2 0 (by omega), h0]
    · rw [f3 i (fun hz => by
        simp only [List.mem_cons, List.mem_nil_iff, or_false] at hz
        rcases hz with rfl | rfl | rfl
        · exact h3 (by decide)
        · exact h3 (by decide)
        · exact h4 (by decide)), f2 i (fun hz => by simp only [List.mem_cons, List.mem_nil_iff, or_false] at hz; rcases hz with rfl | rfl <;> first | omega | exact h4 (by decide))]
    · rw [f3 79 (by decide), d2 z h2]
    · rw [f3 79 (by decide), d0]
      rfl
    · rw [f3 104 (by decide)]
      exact d1
    · rw [f3 79 (by decide), d2 64 (by omega)]
      exact c1
    · rw [f3 116 (by decide), f2 116 (by decide)]
      exact hVm
    · rw [f3 i (by simp only [List.mem_cons, List.mem_nil_iff, or_false]; omega), f2 i (by simp only [List.mem_cons, List.mem_nil_iff, or_false]; omega)]
/-- a year back -/
theorem tb_x {S : zSD} {w : zWD} {M : zM} (hS : zSx S M) (ho : zSok S) (hW : zWx 40 w M) (hk : zWok S w) (H : Int32) : ∃ M', F_X10_takeYearBack 40 H M = zV M' ∧ (zWx 40 (zWyb S H (S 1 0) (w.1, w.2.1, w.2.2 - 1)) M' ∧ zoff [40, 41, 42] M M') := by
  have hf := so_f ho
  have hn := so_n ho
  unfold F_X10_takeYearBack
  rw [zst_eq, zlt_eq, gr_40_0, zup_ne (by omega), sx_f hS]
  refine zdown (i := S 1 0) (f := zN) (a := zup M 40 3 (M 40 3 - 1)) (fun n d (M1 : zM) => F_X10_takeYearBack_L20 40 H (fun (M4 : zM) => zV M4) n (nI d - 1) M1) (fun d M1 => d ≤ S 1 0 ∧ ∃ u, zWx 40 u M1 ∧ zWok S u ∧ zWyb S H d u = zWyb S H (S 1 0) (w.1, w.2.1, w.2.2 - 1) ∧ zoff [40, 41, 42] M M1) (fun o => ∃ M', o = zV M' ∧ (zWx 40 (zWyb S H (S 1 0) (w.1, w.2.1, w.2.2 - 1)) M' ∧ zoff [40, 41, 42] M M')) ?_ ?_ (zN_ge (by omega)) ⟨Nat.le_refl _, (w.1, w.2.1, w.2.2 - 1), ⟨fun i hi => ?_, fun k hk8 => ?_, ?_⟩, hk, rfl, zoff_up zoff_rfl (by decide)⟩
  · rintro n d M1 ⟨hd, u, hu, hku, eu, o1⟩
    refine Or.inr ?_
    obtain ⟨-, g2, g3, g4⟩ := so_g ho d (by omega)
    have hS1 : zSx S M1 := zSx_off hS (fun i hi => o1 i (fun hz => by
      simp only [List.mem_cons, List.mem_nil_iff, or_false] at hi hz
      omega))
    show ∃ M2, F_X10_takeYearBack_L20 40 H _ (n + 1) (nI (d + 1) - 1) M1 = F_X10_takeYearBack_L20 40 H _ n (nI d - 1) M2 ∧ _
    rw [nI_pred, F_X10_takeYearBack_L20, zit_f (nI_pos (by omega)), Int32.sub_eq_add_neg]
    simp only [zjo_eq]
    replace eu : zWyb S H d (if (H >>> (nI d &&& 31)) &&& 1 = 1 then zWex S (S 10 d) (S 11 d) u else u) = _ := eu
    by_cases hb : (H >>> (nI d &&& 31)) &&& 1 = 1
    · rw [if_pos hb] at eu
      rw [zit_t hb]
      simp (disch := omega) only [zck_t, zin_k, zix_k, gr_40_0, gr_3_12, gr_3_13, sx_10 hS1, sx_11 hS1]
      obtain ⟨M2, e2, h2, o2⟩ := ex_x (Or.inl rfl) hS1 ho hu hku g2 g3 g4
      rw [e2, zbI_I]
      exact ⟨M2, rfl, by omega, _, h2, zWex_ok ho hku g2 g3 g4, eu, zoff_trans o1 (zoff_mono o2 (by decide))⟩
    · rw [if_neg hb] at eu
      rw [zit_f hb]
      exact ⟨M1, rfl, by omega, u, hu, hku, eu, o1⟩
  · rintro n M1 ⟨hd, u, hu, hku, eu, o1⟩
    show ∃ M', F_X10_takeYearBack_L20 40 H _ (n + 1) (nI 0 - 1) M1 = _ ∧ _
    rw [F_X10_takeYearBack_L20, zit_t (by decide)]
    refine ⟨M1, rfl, ?_, o1⟩
    rw [← eu]
    exact hu
  · rw [zup_ne (by omega)]
    exact hW.1 i hi
  · rw [zup_ne (by omega)]
    exact hW.2.1 k hk8
  · rw [zup_row, upd_eq, hW.2.2]
theorem op_undo (q : zSt) (ho : zok q) (hC : tC q < 600) : zOp 0 (F_X11_undo 0) (F_X12_undo 79) zNSE zIAE q := by
  have hY : ∀ M, F_X12_undo 79 M = F_X12_undo 79 (zup M 79 0 0) := fun M => by unfold F_X12_undo; rw [zup_idem]
  have hn := qo_n ho
  cases hl : tA q with
  | nil =>
    refine zop_self hY (zop0_ret (r := -1) (fun M h => ⟨M, ?_, zoff_rfl⟩) (fun M h h0 => ⟨M, ?_, zoff_rfl⟩))
    · obtain ⟨hW, c0, hA, c1, hVx⟩ := qx_H h
      rw [hl] at c0
      unfold F_X11_undo
      rw [gr_0_7, zit_t (by rw [c0]; rfl)]
    · obtain ⟨hW, c0, hA, c1, hVm⟩ := qm_H h
      rw [hl] at c0
      unfold F_X12_undo
      rw [zst_eq, zup_same h0, zit_t (by rw [c0]; rfl)]
  | cons a l =>
    have hHk := ho.2.2.1
    rw [hl] at hHk
    have hl40 : l.length + 1 ≤ 40 := hHk.2.1
    have ha : zWok (tS q) a := hHk.2.2.1 a List.mem_cons_self
    have hk' : zHok (tS q) a l (tV q) := ⟨ha, by omega, fun b hb => hHk.2.2.1 b (List.mem_cons_of_mem _ hb), hHk.2.2.2⟩
    refine zop_self hY ⟨zqA q a l (tV q), nI l.length, Nat.le_refl _, fun M h => ?_, fun M h h0 => ?_⟩
    · obtain ⟨hW, c0, hA, c1, hVx⟩ := qx_H h
      rw [hl] at c0 hA
      obtain ⟨-, hkind, hA2⟩ := hA
      replace c0 : M 49 0 = nI (l.length + 1) := c0
      unfold F_X11_undo F_X3_undoLast
      rw [gr_0_7, gr_0_4, zit_f (by rw [c0]; exact nI_ne0 (by omega) (by omega))]
      have u0 : zup M 0 15 (M 0 15 + 1) 49 0 = nI (l.length + 1) := by rw [zup_ne (by omega)]; exact c0
      rw [zst_eq, zit_t (by rw [u0]; exact nI_lt (a := 0) (by omega) (by omega)), zst_eq, u0, nI_pred]
      obtain ⟨M2, hM2⟩ : ∃ M2, zup (zup M 0 15 (M 0 15 + 1)) 49 0 (nI l.length) = M2 := ⟨_, rfl⟩
      rw [hM2]
      have v0 : M2 49 0 = nI l.length := by rw [← hM2, zup_row, upd_eq]
      have v1 : M2 49 1 = M 49 1 := by rw [← hM2, zup_row, upd_ne (by omega), zup_ne (by omega)]
      have v2 : ∀ i, i ≠ 0 → i ≠ 49 → M2 i = M i := fun i h1 h2 => by rw [← hM2, zup_ne h2, zup_ne h1]
      have v14 : M2 0 14 = M 0 14 := by rw [← hM2, zup_ne (by omega), zup_row, upd_ne (by omega)]
      have v15 : M2 0 15 = M 0 15 + 1 := by rw [← hM2, zup_ne (by omega), zup_row, upd_eq]
      have hS2 : zSx (tS q) M2 := zSx_off (qx_S h) (fun i hi => v2 i (fun e => by subst e; revert hi; decide) (fun e => by subst e; revert hi; decide))
      have hW2 : zWx 40 (tW q) M2 := by
        unfold zWx
        rw [v2 40 (by omega) (by omega), v2 (40 + 1) (by omega) (by omega), v2 (40 + 2) (by omega) (by omega)]
        exact hW
      have fin : ∀ M3, zWx 40 a M3 → zoff [40, 41, 42] M2 M3 → zQx (zqA q a l (tV q)) M3 ∧ ∀ i, 79 ≤ i → M3 i = M i := fun M3 h3 o3 => by
        have g : ∀ i, i ∉ [40, 41, 42] → i ≠ 0 → i ≠ 49 → M3 i = M i := fun i h1 h2 h3 => by rw [o3 i h1, v2 i h2 h3]
        refine ⟨zQx_act h hC hk' (fun i h1 h2 h4 => ?_) ?_ ?_ ⟨h3, ?_, ?_, ?_, ?_⟩, fun i hi => ?_⟩
        · refine g i (fun hz => h4 ?_) (fun e => h4 (by rw [e]; decide)) (fun e => h4 (by rw [e]; decide))
          simp only [List.mem_cons, List.mem_nil_iff, or_false] at hz
          rcases hz with rfl | rfl | rfl <;> decide
        · rw [o3 0 (by decide), v14]
        · rw [o3 0 (by decide), v15]
        · rw [o3 49 (by decide), v0]
        · rw [g (49 + 1) (by decide) (by omega) (by omega), g (49 + 2) (by decide) (by omega) (by omega), g (49 + 3) (by decide) (by omega) (by omega), g (49 + 4) (by decide) (by omega) (by omega)]
          exact hA2
        · rw [o3 49 (by decide), v1]
          exact c1
        · rw [g (49 + 5) (by decide) (by omega) (by omega), g (49 + 6) (by decide) (by omega) (by omega)]
          exact hVx
        · exact g i (by simp only [List.mem_cons, List.mem_nil_iff, or_false]; omega) (by omega) (by omega)
      simp (disch := omega) only [zjo_eq, v0, zin_k, zix_k, zck_t, gr_49_2, gr_49_3, gr_49_4, gr_49_5]
      rcases hkind with ⟨k0, i, j, hi, hj, hij, k2, k3, he⟩ | ⟨k0, -, he⟩ | ⟨k0, i, j, hi, hj, hij, k2, k3, he⟩
      · rw [zit_t (by rw [v2 50 (by omega) (by omega)]; exact k0), v2 51 (by omega) (by omega), v2 52 (by omega) (by omega), show M 51 l.length = nI i from k2, show M 52 l.length = nI j from k3]
        obtain ⟨M3, e3, h3, o3⟩ := ex_x (Or.inl rfl) hS2 (qo_S ho) hW2 (qo_W ho) hi hj hij
        rw [e3, zbI_I, zbV_V]
        have := fin M3 (zWx_eq he h3) (zoff_mono o3 (by decide))
        exact ⟨M3, by rw [o3 49 (by decide), v0], this.1, this.2⟩
      · rw [zit_f (by rw [v2 50 (by omega) (by omega), show M 50 l.length = 1 from k0]; decide), zit_t (by rw [v2 50 (by omega) (by omega)]; exact k0), v2 53 (by omega) (by omega)]
        obtain ⟨M3, e3, h3, o3⟩ := tb_x hS2 (qo_S ho) hW2 (qo_W ho) (M 53 l.length)
        rw [e3, zbV_V, zbV_V]
        have := fin M3 (zWx_eq he h3) o3
        exact ⟨M3, by rw [o3 49 (by decide), v0], this.1, this.2⟩
      · rw [zit_f (by rw [v2 50 (by omega) (by omega), show M 50 l.length = 2 from k0]; decide), zit_f (by rw [v2 50 (by omega) (by omega), show M 50 l.length = 2 from k0]; decide), v2 51 (by omega) (by omega), v2 52 (by omega) (by omega), v2 53 (by omega) (by omega), show M 51 l.length = nI i from k2, show M 52 l.length = nI j from k3]
        obtain ⟨M3, e3, h3, o3⟩ := sd_x hW2 (a := i) (b := j) (by omega) (by omega) (M 53 l.length)
        rw [e3, zbV_V, zbV_V]
        have := fin M3 (zWx_eq he h3) (zoff_mono o3 (by decide))
        exact ⟨M3, by rw [o3 49 (by decide), v0], this.1, this.2⟩
    · obtain ⟨hW, c0, hA, c1, hVm⟩ := qm_H h
      rw [hl] at c0 hA
      replace c0 : M 79 50 = nI (l.length + 1) := c0
      unfold F_X12_undo
      rw [zst_eq, zup_same h0, zit_f (by rw [c0]; exact nI_ne0 (by omega) (by omega)), zst_eq, c0, nI_pred]
      obtain ⟨M2, hM2⟩ : ∃ M2, zup M 79 50 (nI l.length) = M2 := ⟨_, rfl⟩
      rw [hM2]
      have v0 : M2 79 50 = nI l.length := by rw [← hM2, zup_row, upd_eq]
      have v1 : ∀ k, k ≠ 50 → M2 79 k = M 79 k := fun k hk => by rw [← hM2, zup_row, upd_ne hk]
      have v2 : ∀ i, i ≠ 79 → M2 i = M i := fun i h1 => by rw [← hM2, zup_ne h1]
      have e0 : M2 = zupA M2 102 (fun i => if i < 0 then M2 104 (73 * l.length + i) else M2 102 i) := by
        exact (zupA_self M2 102).symm.trans (congrArg (zupA M2 102) (funext fun i => (if_neg (by omega)).symm))
      have key := zfor (i := 0) (f := zN) (a := ()) 73 (fun n k (_ : Unit) => F_X12_undo_L26 79 (fun (M4 : zM) => zI (M4 79 50) M4) n (nI k) (zupA M2 102 (fun i => if i < k then M2 104 (73 * l.length + i) else M2 102 i))) (fun _ _ => True) (fun o => o = zI (nI l.length) (zupA M2 102 (fun i => if i < 73 then M2 104 (73 * l.length + i) else M2 102 i))) (by
        rintro n k _ hk -
        refine Or.inr ⟨(), ?_, trivial⟩
        show F_X12_undo_L26 79 _ (n + 1) _ _ = F_X12_undo_L26 79 _ n _ _
        rw [F_X12_undo_L26]
        simp (disch := omega) only [zbI_I, zbI_E, zbV_V, zbV_E, zbJ_J, zbH_I, zbH_E, zlt_eq, zltL_eq, zst_eq, zjo_eq, zck_t, zbo_0, zbo_1, zbo_n0, zbo_n1, c_lt_t, c_lt_f, c_le_t, c_le_f, c_eq_t, c_eq_f, c_T, c_F, d_ltpn, d_ltnp, d_ltnn_t, d_ltnn_f, d_lepn, d_lenp, d_eqpn, d_eqnp, d_eqnn_t, d_eqnn_f, li_73, li_1, gr_79_49, gr_79_47, zupA_ne, v0, pk_mul, nI_add, zin_k, zix_k, zup_upA]
        congr 1
        congr 1
        funext i
        by_cases h : i = k
        · rw [h, upd_eq, if_pos (by omega)]
        · rw [upd_ne h]
          by_cases h2 : i < k
          · rw [if_pos h2, if_pos (by omega)]
          · rw [if_neg h2, if_neg (by omega)]) (by
        rintro n _ -
        show F_X12_undo_L26 79 _ (n + 1) _ _ = _
        rw [F_X12_undo_L26]
        simp (disch := omega) only [c_lt_t, c_lt_f, c_le_t, c_le_f, c_eq_t, c_eq_f, c_T, c_F, d_ltpn, d_ltnp, d_ltnn_t, d_ltnn_f, d_lepn, d_lenp, d_eqpn, d_eqnp, d_eqnn_t, d_eqnn_f, li_73, zupA_ne, v0]) (by omega) (by unfold zN; omega) trivial
      rw [← e0] at key
      refine ⟨_, key, ?_, zQm_act h hC hk' (fun i h1 h2 h3 h4 => ?_) (fun z h1 h2 h3 => ?_) ⟨⟨fun i hi => ?_, fun k hk8 => ?_, ?_⟩, ?_, ?_, ?_, ?_⟩, fun i hi => ?_⟩
      · rw [zupA_ne (by omega), v1 0 (by omega), h0]
      · rw [zupA_ne (fun e => h4 (by rw [e]; decide)), v2 i (by omega)]
      · rw [zupA_ne (by omega), v1 z h2]
      · rw [zupA_eq, Nat.zero_add, if_pos (by omega), v2 104 (by omega)]
        exact hA.1.1 i hi
      · rw [zupA_eq, Nat.zero_add, if_pos (by omega), v2 104 (by omega), ← Nat.add_assoc]
        exact hA.1.2.1 k hk8
      · rw [zupA_eq, Nat.zero_add, if_pos (by omega), v2 104 (by omega)]
        exact hA.1.2.2
      · rw [zupA_ne (by omega), v0]
      · rw [zupA_ne (by omega), v2 104 (by omega)]
        exact hA.2
      · rw [zupA_ne (by omega), v1 64 (by omega)]
        exact c1
      · rw [zupA_ne (by omega), v2 116 (by omega)]
        exact hVm
      · rw [zupA_ne (by omega), v2 i (by omega)]
