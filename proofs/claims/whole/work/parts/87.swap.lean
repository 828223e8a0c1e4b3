/-! swap, forgive -/
theorem zqx_scr {q : zSt} {M M' : zM} {l : List Nat} (h : zQx q M) (o : zoff l M M') (hl : ∀ i ∈ l, i ∈ zXc) : zQx q M' := zQx_off h (fun i _ hi => o i (fun hz => hi (hl i hz)))
theorem zqm_scr {q : zSt} {M M' : zM} {l : List Nat} (h : zQm q M) (o : zoff l M M') (hl : ∀ i ∈ l, i ∈ zMs) : zQm q M' := zQm_off h (fun i _ _ hi => o i (fun hz => hi (hl i hz))) (fun k _ => by rw [o 79 (fun hz => absurd (hl 79 hz) (by decide))])
theorem zHok_A {q : zSt} (ho : zok q) {w : zWD} (hw : zWok (tS q) w) : zHok (tS q) w (tW q :: zkp (tA q)) (tV q) := ⟨hw, by
  have := zkp_len ho.2.2.1.2.1
  show (zkp (tA q)).length + 1 ≤ 40
  omega, fun b hb => by
  rcases List.mem_cons.mp hb with rfl | hb
  · exact qo_W ho
  · exact ho.2.2.1.2.2.1 b (zkp_mem hb), ho.2.2.1.2.2.2⟩
theorem op_swap (q : zSt) (ho : zok q) (hC : tC q < 600) (a b : Int32) : zOp 1 (F_X11_swap 0 a b) (F_X12_swap 79 a b) zNSE zIAE q := by
  have hn := qo_n ho
  have hY : ∀ M, F_X12_swap 79 a b M = F_X12_swap 79 a b (zup M 79 0 0) := fun M => by unfold F_X12_swap; rw [zup_idem]
  rcases zci hn a with ⟨j, hj, rfl⟩ | ha
  · rcases zci hn b with ⟨k, hk, rfl⟩ | hb
    · have refx : ∀ M M1, zQx q M → zoff [10, 12] M M1 → ∃ M2, zck (zin 1 3) (zck (zin 1 3) (zst (zup M1 78 (zix 1) ((M1 78 (zix 1)) + 1)) (fun M8 => zI (-99) M8))) = zI (-99) M2 ∧ zQx (zqR q 1) M2 ∧ ∀ i, 79 ≤ i → M2 i = M i := fun M M1 h o => by
        refine ⟨zup M1 78 1 (M1 78 1 + 1), rfl, zQx_ref (zqx_scr h o (by decide)) (by omega) (fun z h1 h2 h3 => zup_ne h3) (by rw [zup_row]), fun i hi => ?_⟩
        rw [zup_ne (by omega), o i (by simp only [List.mem_cons, List.mem_nil_iff, or_false]; omega)]
      have refm : ∀ M M1, zQm q M → M 79 0 = 0 → zoff [105, 106] M M1 → ∃ M2, zbI (F_X12_refuses 79 1 (-99) M1) (fun r4 M8 => zI r4 M8) = zI (-99) M2 ∧ M2 79 0 = 0 ∧ zQm (zqR q 1) M2 ∧ ∀ i, (i < 79 ∨ i = 124) → M2 i = M i := fun M M1 h h0 o => by
        unfold F_X12_refuses
        rw [gr_79_18]
        refine ⟨zup M1 90 1 (M1 90 1 + 1), rfl, ?_, zQm_ref (zqm_scr h o (by decide)) (by omega) (fun z h1 h2 h3 h4 => zup_ne h4) (fun k _ => by rw [zup_ne (by omega)]) (by rw [zup_row]), fun i hi => ?_⟩
        · rw [zup_ne (by omega), o 79 (by decide), h0]
        · rw [zup_ne (by omega), o i (by simp only [List.mem_cons, List.mem_nil_iff, or_false]; omega)]
      by_cases hjk : j = k
      · subst hjk
        refine zop_self hY ⟨zqR q 1, -99, Nat.le_succ _, fun M h => ?_, fun M h h0 => ?_⟩
        · unfold F_X11_swap
          rw [px_isle_in (sx_n (qx_S h)) hn hj, zbV_V, px_isle_in (sx_n (qx_S h)) hn hj, zbV_V, zjo_eq, zit_t rfl, gr_0_13]
          exact refx M M h zoff_rfl
        · unfold F_X12_swap
          rw [zst_eq, zup_same h0, pm_one_in h0 (sm_n (qm_S h)) hn hj, zbI_I]
          simp only [zjo_eq]
          rw [zit_f (by decide), pm_one_in h0 (sm_n (qm_S h)) hn hj, zbI_I, zit_f (by decide), zit_t trivial]
          exact refm M M h h0 zoff_rfl
      · have hne : ¬ nI j = nI k := fun e => hjk ((nI_eq (by omega) (by omega)).mp e)
        cases hm : zmay (tS q) (tL q) (tW q) j k with
        | false =>
          refine zop_self hY ⟨zqR q 1, -99, Nat.le_succ _, fun M h => ?_, fun M h h0 => ?_⟩
          · unfold F_X11_swap
            rw [px_isle_in (sx_n (qx_S h)) hn hj, zbV_V, px_isle_in (sx_n (qx_S h)) hn hk, zbV_V, zjo_eq, zit_f hne, gr_0_13, gr_0_4]
            obtain ⟨M1, e1, o1⟩ := lt_x (Or.inl rfl) (qx_S h) (qo_S ho) (qo_L ho) (qx_L h) (qx_W h) (qo_W ho) hj hk
            rw [e1, zbI_I, hm, if_neg (by decide), zit_t rfl]
            exact refx M M1 h o1
          · unfold F_X12_swap
            rw [zst_eq, zup_same h0, pm_one_in h0 (sm_n (qm_S h)) hn hj, zbI_I]
            simp only [zjo_eq]
            rw [zit_f (by decide), pm_one_in h0 (sm_n (qm_S h)) hn hk, zbI_I, zit_f (by decide), zit_f hne, gr_79_47]
            obtain ⟨M1, e1, o1⟩ := lt_m (Or.inl rfl) (qm_S h) (qo_S ho) (qo_L ho) (qm_L h) (qm_W h) (by omega) (by omega) (wo_n (qo_W ho) j hj) (wo_n (qo_W ho) k hk)
            rw [e1, zbI_I, hm, if_neg (by decide), zit_t rfl]
            exact refm M M1 h h0 o1
        | true =>
          have hw' := zWex_ok (qo_S ho) (qo_W ho) hj hk hjk
          refine zop_self hY ⟨zqA q (zWex (tS q) j k (tW q)) (tW q :: zkp (tA q)) (tV q), nI (tS q 3 ((tW q).1 k)) - nI (tS q 3 ((tW q).1 j)), Nat.le_refl _, fun M h => ?_, fun M h h0 => ?_⟩
          · unfold F_X11_swap
            rw [px_isle_in (sx_n (qx_S h)) hn hj, zbV_V, px_isle_in (sx_n (qx_S h)) hn hk, zbV_V, zjo_eq, zit_f hne, gr_0_7, gr_0_4]
            obtain ⟨M1, e1, o1⟩ := lt_x (Or.inl rfl) (qx_S h) (qo_S ho) (qo_L ho) (qx_L h) (qx_W h) (qo_W ho) hj hk
            rw [e1, zbI_I, hm, if_pos rfl, zit_f (by decide), zst_eq]
            have h1 : zQx q M1 := zqx_scr h o1 (by decide)
            obtain ⟨hW, c0, hA, c1, hVx⟩ := qx_H h1
            obtain ⟨M2, e2, d0, d1, d2, ⟨d3, d4, d5, d6⟩, o2⟩ := ad_x (S := tS q) (M := zup M1 0 15 (M1 0 15 + 1)) (w := tW q) (l := tA q) ho.2.2.1.2.1 (by rw [zup_ne (by omega)]; exact c0) (by
              rw [zup_ne (by omega), zup_ne (by omega), zup_ne (by omega), zup_ne (by omega)]
              exact hA) 0 (nI j) (nI k) 0
            rw [e2, zbV_V]
            have f2 : ∀ i, i ∉ [0, 49, 50, 51, 52, 53] → M2 i = M1 i := fun i hi => by
              simp only [List.mem_cons, List.mem_nil_iff, or_false, not_or] at hi
              rw [o2 i (by simp only [List.mem_cons, List.mem_nil_iff, or_false, not_or]; exact hi.2), zup_ne hi.1]
            have hS2 : zSx (tS q) M2 := zSx_off (qx_S h1) (fun i hi => f2 i (fun hz => by
              simp only [List.mem_cons, List.mem_nil_iff, or_false] at hi hz
              omega))
            have hW2 : zWx 40 (tW q) M2 := by
              unfold zWx
              rw [f2 40 (by decide), f2 (40 + 1) (by decide), f2 (40 + 2) (by decide)]
              exact hW
            obtain ⟨M3, e3, hW3, o3⟩ := ex_x (Or.inl rfl) hS2 (qo_S ho) hW2 (qo_W ho) hj hk hjk
            rw [e3, zbI_I]
            have f3 : ∀ i, i ∉ [41, 42] → M3 i = M2 i := o3
            refine ⟨M3, rfl, zQx_act h1 hC (zHok_A ho hw') (fun i h1 h2 h3 => ?_) ?_ ?_ ⟨hW3, ?_, ?_, ?_, ?_⟩, fun i hi => ?_⟩
            · have h4 : i ∉ [41, 42] := fun hz => h3 (by simp only [List.mem_cons, List.mem_nil_iff, or_false] at hz; rcases hz with rfl | rfl <;> decide)
              have h5 : i ∉ [0, 49, 50, 51, 52, 53] := fun hz => h3 (by simp only [List.mem_cons, List.mem_nil_iff, or_false] at hz; rcases hz with rfl | rfl | rfl | rfl | rfl | rfl <;> decide)
              rw [f3 i h4, f2 i h5]
            · rw [f3 0 (by decide), o2 0 (by decide), zup_row, upd_ne (by omega)]
            · rw [f3 0 (by decide), o2 0 (by decide), zup_row, upd_eq]
            · rw [f3 49 (by decide), d0]
              rfl
            · rw [f3 (49 + 1) (by decide), f3 (49 + 2) (by decide), f3 (49 + 3) (by decide), f3 (49 + 4) (by decide)]
              refine ⟨qo_W ho, Or.inl ⟨d3, j, k, hj, hk, hjk, d4, d5, zWex_2 (by omega) (by omega) hjk (qo_W ho).2.2.2⟩, d2⟩
            · rw [f3 49 (by decide), d1, zup_ne (by omega)]
              exact c1
            · rw [f3 (49 + 5) (by decide), f3 (49 + 6) (by decide), f2 (49 + 5) (by decide), f2 (49 + 6) (by decide)]
              exact hVx
            · rw [f3 i (by simp only [List.mem_cons, List.mem_nil_iff, or_false]; omega), f2 i (by simp only [List.mem_cons, List.mem_nil_iff, or_false]; omega), o1 i (by simp only [List.mem_cons, List.mem_nil_iff, or_false]; omega)]
          · unfold F_X12_swap
            rw [zst_eq, zup_same h0, pm_one_in h0 (sm_n (qm_S h)) hn hj, zbI_I]
            simp only [zjo_eq]
            rw [zit_f (by decide), pm_one_in h0 (sm_n (qm_S h)) hn hk, zbI_I, zit_f (by decide), zit_f hne, gr_79_47]
            obtain ⟨M1, e1, o1⟩ := lt_m (Or.inl rfl) (qm_S h) (qo_S ho) (qo_L ho) (qm_L h) (qm_W h) (by omega) (by omega) (wo_n (qo_W ho) j hj) (wo_n (qo_W ho) k hk)
            rw [e1, zbI_I, hm, if_pos rfl, zit_f (by decide)]
            have h1 : zQm q M1 := zqm_scr h o1 (by decide)
            obtain ⟨hW, c0, hA, c1, hVm⟩ := qm_H h1
            obtain ⟨M2, e2, d0, d1, d2, o2⟩ := kp_m ho.2.2.1.2.1 c0 hA hW
            rw [e2, zbV_V]
            have f2 : ∀ i, i ∉ [79, 104] → M2 i = M1 i := o2
            have hS2 : zSm (tS q) M2 := zSm_off (qm_S h1) (fun z hz => d2 z (fun e => by subst e; revert hz; decide)) (fun i hi => f2 i (fun hz => by
              simp only [List.mem_cons, List.mem_nil_iff, or_false] at hi hz
              omega))
            have hW2 : zWr (M2 102) 0 (tW q) := by
              rw [f2 102 (by decide)]
              exact hW
            have hi := wo_n (qo_W ho) j hj
            have hi' := wo_n (qo_W ho) k hk
            simp (disch := omega) only [zbI_I, zbI_E, zbV_V, zbV_E, zbJ_J, zbH_I, zbH_E, zlt_eq, zltL_eq, zst_eq, zjo_eq, zck_t, zbo_0, zbo_1, zbo_n0, zbo_n1, gr_79_6, zin_k, zix_k, wr_n hW2, sm_3 hS2]
            obtain ⟨M3, e3, hW3, o3⟩ := si_m (Or.inl rfl) hS2 (qo_S ho) hW2 (qo_W ho) hj hk hjk
            rw [e3, zbV_V]
            have f3 : ∀ i, i ∉ [102] → M3 i = M2 i := o3
            refine ⟨M3, rfl, ?_, zQm_act h1 hC (zHok_A ho hw') (fun i h1 h2 h3 h4 => ?_) (fun z h1 h2 h3 => ?_) ⟨hW3, ?_, ?_, ?_, ?_⟩, fun i hi => ?_⟩
            · rw [f3 79 (by decide), d2 0 (by omega), o1 79 (by decide), h0]
            · rw [f3 i (fun hz => h4 (by simp only [List.mem_cons, List.mem_nil_iff, or_false] at hz; rw [hz]; decide)), f2 i (fun hz => by simp only [List.mem_cons, List.mem_nil_iff, or_false] at hz; rcases hz with rfl | rfl <;> first | omega | exact h4 (by decide))]
            · rw [f3 79 (by decide), d2 z h2]
            · rw [f3 79 (by decide), d0]
              rfl
            · rw [f3 104 (by decide)]
              exact d1
            · rw [f3 79 (by decide), d2 64 (by omega)]
              exact c1
            · rw [f3 116 (by decide), f2 116 (by decide)]
              exact hVm
            · rw [f3 i (by simp only [List.mem_cons, List.mem_nil_iff, or_false]; omega), f2 i (by simp only [List.mem_cons, List.mem_nil_iff, or_false]; omega), o1 i (by simp only [List.mem_cons, List.mem_nil_iff, or_false]; omega)]
    · refine zop_rf hY 1 (Or.inl rfl) (by omega) (fun M h => ?_) (fun M h h0 => ⟨0, ?_⟩)
      · unfold F_X11_swap
        rw [px_isle_in (sx_n (qx_S h)) hn hj, zbV_V, px_isle_out (sx_n (qx_S h)) hb, zbV_E]
        rfl
      · unfold F_X12_swap
        rw [zst_eq, zup_same h0, pm_one_in h0 (sm_n (qm_S h)) hn hj, zbI_I]
        simp only [zjo_eq]
        rw [zit_f (by decide), pm_one_out h0 (sm_n (qm_S h)) hb, zbI_I]
        rfl
  · refine zop_rf hY 1 (Or.inl rfl) (by omega) (fun M h => ?_) (fun M h h0 => ⟨0, ?_⟩)
    · unfold F_X11_swap
      rw [px_isle_out (sx_n (qx_S h)) ha, zbV_E]
      rfl
    · unfold F_X12_swap
      rw [zst_eq, zup_same h0, pm_one_out h0 (sm_n (qm_S h)) ha, zbI_I]
      rfl
/-- forgive -/
theorem zWsd_ok {S : zSD} {w : zWD} (ho : zSok S) (hk : zWok S w) {a b : Nat} (ha : a < S 0 0) (hb : b < S 0 0) (hab : a ≠ b) (v : Int32) : zWok S (zWsd a b v w) := by
  have hn := so_n ho
  obtain ⟨h1, h2, h3, h4⟩ := hk
  refine ⟨h1, h2, h3, fun i hi j hj => ?_⟩
  show (if 8 * j + i = 8 * b + a then -v else if 8 * j + i = 8 * a + b then v else w.2.1 (8 * j + i)) = - (if 8 * i + j = 8 * b + a then -v else if 8 * i + j = 8 * a + b then v else w.2.1 (8 * i + j))
  by_cases p1 : j = a ∧ i = b
  · obtain ⟨rfl, rfl⟩ := p1
    rw [if_neg (by omega), if_pos rfl, if_pos rfl, Int32.neg_neg]
  · by_cases p2 : j = b ∧ i = a
    · obtain ⟨rfl, rfl⟩ := p2
      rw [if_pos rfl, if_neg (by omega), if_pos rfl]
    · rw [if_neg (by omega), if_neg (by omega), if_neg (by omega), if_neg (by omega)]
      exact h4 i hi j hj
theorem zWsd_2 {S : zSD} {w : zWD} (hk : zWok S w) {a b : Nat} (ha : a < 8) (hb : b < 8) (hab : a ≠ b) (v : Int32) : zWeq w (zWsd a b (w.2.1 (8 * a + b)) (zWsd a b v w)) := by
  refine ⟨fun i hi => rfl, fun k hk8 => ?_, rfl⟩
  show w.2.1 k = (if k = 8 * b + a then - w.2.1 (8 * a + b) else if k = 8 * a + b then w.2.1 (8 * a + b) else if k = 8 * b + a then -v else if k = 8 * a + b then v else w.2.1 k)
  by_cases h1 : k = 8 * b + a
  · rw [if_pos h1, h1]
    exact hk.2.2.2 a ha b hb
  · rw [if_neg h1]
    by_cases h2 : k = 8 * a + b
    · rw [if_pos h2, h2]
    · rw [if_neg h2, if_neg h1, if_neg h2]
theorem sd_x {w : zWD} {M : zM} (hW : zWx 40 w M) {a b : Nat} (ha : a < 8) (hb : b < 8) (v : Int32) : ∃ M', F_X10_setDebt 40 (nI a) (nI b) v M = zV M' ∧ (zWx 40 (zWsd a b v w) M' ∧ zoff [42] M M') := by
  unfold F_X10_setDebt
  simp (disch := omega) only [zbI_I, zbI_E, zbV_V, zbV_E, zbJ_J, zbH_I, zbH_E, zlt_eq, zltL_eq, zst_eq, zjo_eq, zck_t, zbo_0, zbo_1, zbo_n0, zbo_n1, gr_40_2, li_8, pk_mul, nI_add, zin_k, zix_k]
  refine ⟨_, rfl, ⟨fun i hi8 => ?_, fun k hk8 => ?_, ?_⟩, fun z hz => ?_⟩
  · simp (disch := omega) only [zup_ne]
    exact hW.1 i hi8
  · show zup (zup M 42 (a * 8 + b) v) 42 (b * 8 + a) (-v) 42 k = (if k = 8 * b + a then -v else if k = 8 * a + b then v else w.2.1 k)
    simp (disch := omega) only [zup_row]
    by_cases h1 : k = 8 * b + a
    · rw [if_pos h1, show k = b * 8 + a from by omega, upd_eq]
    · rw [upd_ne (by omega), if_neg h1]
      by_cases h2 : k = 8 * a + b
      · rw [if_pos h2, show k = a * 8 + b from by omega, upd_eq]
      · rw [upd_ne (by omega), if_neg h2]
        exact hW.2.1 k hk8
  · simp (disch := omega) only [zup_ne]
    exact hW.2.2
  · simp only [List.mem_cons, List.mem_nil_iff, or_false] at hz
    rw [zup_ne hz, zup_ne hz]
theorem op_forgive (q : zSt) (ho : zok q) (hC : tC q < 600) (a b : Int32) : zOp 2 (F_X11_forgive 0 a b) (F_X12_forgive 79 a b) zNSE zIAE q := by
  have hn := qo_n ho
  refine zop_two ho (by omega) a b (fun _ => rfl) (fun _ => rfl) (fun M => ⟨0, rfl⟩) ?_
  rintro j k hj hk hjk rfl rfl
  have hw' := zWsd_ok (qo_S ho) (qo_W ho) hj hk hjk 0
  refine ⟨zqA q (zWsd j k 0 (tW q)) (tW q :: zkp (tA q)) (tV q), (tW q).2.1 (8 * j + k), Nat.le_refl _, fun M h => ?_, fun M h h0 => ?_⟩
  · obtain ⟨hW, c0, hA, c1, hVx⟩ := qx_H h
    have hd : ∀ a, a < 8 → ∀ b, b < 8 → zup M 0 15 (M 0 15 + 1) 42 (a * 8 + b) = (tW q).2.1 (8 * a + b) := fun a ha b hb => by rw [zup_ne (by omega)]; exact x_d h a ha b hb
    unfold F_X10_owes
    simp (disch := omega) only [zbI_I, zbI_E, zbV_V, zbV_E, zbJ_J, zbH_I, zbH_E, zlt_eq, zltL_eq, zst_eq, zjo_eq, zck_t, zbo_0, zbo_1, zbo_n0, zbo_n1, gr_0_4, gr_0_7, gr_40_2, li_8, pk_mul, nI_add, zin_k, zix_k, hd]
    obtain ⟨M2, e2, d0, d1, d2, ⟨d3, d4, d5, d6⟩, o2⟩ := ad_x (S := tS q) (M := zup M 0 15 (M 0 15 + 1)) (w := tW q) (l := tA q) ho.2.2.1.2.1 (by rw [zup_ne (by omega)]; exact c0) (by
      rw [zup_ne (by omega), zup_ne (by omega), zup_ne (by omega), zup_ne (by omega)]
      exact hA) 2 (nI j) (nI k) ((tW q).2.1 (8 * j + k))
    rw [e2, zbV_V]
    have f2 : ∀ i, i ∉ [0, 49, 50, 51, 52, 53] → M2 i = M i := fun i hi => by
      simp only [List.mem_cons, List.mem_nil_iff, or_false, not_or] at hi
      rw [o2 i (by simp only [List.mem_cons, List.mem_nil_iff, or_false, not_or]; exact hi.2), zup_ne hi.1]
    have hW2 : zWx 40 (tW q) M2 := by
      unfold zWx
      rw [f2 40 (by decide), f2 (40 + 1) (by decide), f2 (40 + 2) (by decide)]
      exact hW
    obtain ⟨M3, e3, hW3, f3⟩ := sd_x hW2 (a := j) (b := k) (by omega) (by omega) 0
    rw [e3, zbV_V]
    refine ⟨M3, rfl, zQx_act h hC (zHok_A ho hw') (fun i h1 h2 h3 => ?_) ?_ ?_ ⟨hW3, ?_, ?_, ?_, ?_⟩, fun i hi => ?_⟩
    · have h4 : i ∉ [42] := fun hz => h3 (by simp only [List.mem_cons, List.mem_nil_iff, or_false] at hz; rw [hz]; decide)
      have h5 : i ∉ [0, 49, 50, 51, 52, 53] := fun hz => h3 (by simp only [List.mem_cons, List.mem_nil_iff, or_false] at hz; rcases hz with rfl | rfl | rfl | rfl | rfl | rfl <;> decide)
      rw [f3 i h4, f2 i h5]
    · rw [f3 0 (by decide), o2 0 (by decide), zup_row, upd_ne (by omega)]
    · rw [f3 0 (by decide), o2 0 (by decide), zup_row, upd_eq]
    · rw [f3 49 (by decide), d0]
      rfl
    · rw [f3 (49 + 1) (by decide), f3 (49 + 2) (by decide), f3 (49 + 3) (by decide), f3 (49 + 4) (by decide)]
      refine ⟨qo_W ho, Or.inr (Or.inr ⟨d3, j, k, hj, hk, hjk, d4, d5, ?_⟩), d2⟩
      rw [show M2 (49 + 4) (zkp (tA q)).length = (tW q).2.1 (8 * j + k) from d6]
      exact zWsd_2 (qo_W ho) (by omega) (by omega) hjk 0
    · rw [f3 49 (by decide), d1, zup_ne (by omega)]
      exact c1
    · rw [f3 (49 + 5) (by decide), f3 (49 + 6) (by decide), f2 (49 + 5) (by decide), f2 (49 + 6) (by decide)]
      exact hVx
    · rw [f3 i (by simp only [List.mem_cons, List.mem_nil_iff, or_false]; omega), f2 i (by simp only [List.mem_cons, List.mem_nil_iff, or_false]; omega)]
  · obtain ⟨hW, c0, hA, c1, hVm⟩ := qm_H h
    obtain ⟨M2, e2, d0, d1, d2, o2⟩ := kp_m ho.2.2.1.2.1 c0 hA hW
    have f2 : ∀ i, i ∉ [79, 104] → M2 i = M i := o2
    have hW2 : zWr (M2 102) 0 (tW q) := by
      rw [f2 102 (by decide)]
      exact hW
    show ∃ M1, zit ((1 : Int32) = 0) _ _ = _ ∧ _
    rw [zit_f (by decide), e2, zbV_V]
    simp (disch := omega) only [zbI_I, zbI_E, zbV_V, zbV_E, zbJ_J, zbH_I, zbH_E, zlt_eq, zltL_eq, zst_eq, zjo_eq, zck_t, zbo_0, zbo_1, zbo_n0, zbo_n1, gr_79_47, li_8, pk_mul, nI_add, zin_k, zix_k, wr_d hW2]
    refine ⟨_, rfl, ?_, zQm_act h hC (zHok_A ho hw') (fun i h1 h2 h3 h4 => ?_) (fun z h1 h2 h3 => ?_) ⟨⟨fun i hi => ?_, fun z hz => ?_, ?_⟩, ?_, ?_, ?_, ?_⟩, fun i hi => ?_⟩
    · rw [zup_ne (by omega), zup_ne (by omega), d2 0 (by omega), h0]
    · rw [zup_ne (fun e => h4 (by rw [e]; decide)), zup_ne (fun e => h4 (by rw [e]; decide)), f2 i (fun hz => by simp only [List.mem_cons, List.mem_nil_iff, or_false] at hz; rcases hz with rfl | rfl <;> first | omega | exact h4 (by decide))]
    · rw [zup_ne (by omega), zup_ne (by omega), d2 z h2]
    · simp (disch := omega) only [zup_row, upd_ne]
      exact hW2.1 i hi
    · simp (disch := omega) only [zup_row]
      show upd (upd (M2 102) (8 + 8 * j + k) 0) (8 + 8 * k + j) 0 (0 + 8 + z) = (if z = 8 * k + j then -0 else if z = 8 * j + k then 0 else (tW q).2.1 z)
      by_cases h1 : z = 8 * k + j
      · rw [if_pos h1, show 0 + 8 + z = 8 + 8 * k + j from by omega, upd_eq]
        rfl
      · rw [upd_ne (by omega), if_neg h1]
        by_cases h2 : z = 8 * j + k
        · rw [if_pos h2, show 0 + 8 + z = 8 + 8 * j + k from by omega, upd_eq]
        · rw [upd_ne (by omega), if_neg h2]
          exact hW2.2.1 z hz
    · simp (disch := omega) only [zup_row, upd_ne]
      exact hW2.2.2
    · rw [zup_ne (by omega), zup_ne (by omega), d0]
      rfl
    · rw [zup_ne (by omega), zup_ne (by omega)]
      exact d1
    · rw [zup_ne (by omega), zup_ne (by omega), d2 64 (by omega)]
      exact c1
    · rw [zup_ne (by omega), zup_ne (by omega), f2 116 (by decide)]
      exact hVm
    · rw [zup_ne (by omega), zup_ne (by omega), f2 i (by simp only [List.mem_cons, List.mem_nil_iff, or_false]; omega)]
