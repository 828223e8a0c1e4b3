/-! fault, count, weather -/
theorem op_fault (q : zSt) (ho : zok q) : zOp 0 (F_X11_fault 0) (F_X12_fault 79) zNSE zIAE q := by
  refine zop_self (fun M => by unfold F_X12_fault; rw [zup_idem]) (zop0_ret (r := tF q) (fun M h => ⟨M, ?_, zoff_rfl⟩) (fun M h h0 => ⟨M, ?_, zoff_rfl⟩))
  · rw [px_fault, h.2.2.2.2.1]
  · rw [pm_fault, zup_same h0, h.2.2.2.2.1]
theorem op_count (q : zSt) (ho : zok q) (a : Int32) : zOp 1 (F_X11_count 0 a) (F_X12_count 79 a) zNSE zIAE q := by
  have hn := qo_n ho
  have hY : ∀ M, F_X12_count 79 a M = F_X12_count 79 a (zup M 79 0 0) := fun M => by unfold F_X12_count; rw [zup_idem]
  rcases zca (m := 10) (by omega) a with ⟨t, ht, rfl⟩ | ha
  · refine zop_self hY (zop0_ret (r := if t = 0 then nI (tS q 0 0) else if t = 1 then nI (tS q 1 0) else if t = 2 then nI (tS q 2 0) else if t = 3 then (tW q).2.2 else if t = 4 then nI (tA q).length else if t = 5 then nI (tV q).length else if t = 6 then nI (tT q).length else if t = 10 then nI (zcu (fun i => decide ((tW q).1 i = i)) (tS q 0 0)) else tR q (t - 7)) (fun M h => ⟨M, ?_, zoff_rfl⟩) (fun M h h0 => ⟨M, ?_, zoff_rfl⟩))
    · obtain ⟨-, -, -, ⟨h11, -⟩, -, h78, -⟩ := id h
      obtain ⟨-, h490, -, h491, -⟩ := qx_H h
      have : t = 0 ∨ t = 1 ∨ t = 2 ∨ t = 3 ∨ t = 4 ∨ t = 5 ∨ t = 6 ∨ t = 7 ∨ t = 8 ∨ t = 9 ∨ t = 10 := by omega
      unfold F_X11_count
      rcases this with rfl | rfl | rfl | rfl | rfl | rfl | rfl | rfl | rfl | rfl | rfl
      all_goals simp (disch := omega) only [zbI_I, zbI_E, zbV_V, zbV_E, zbJ_J, zbH_I, zbH_E, zlt_eq, zltL_eq, zst_eq, zjo_eq, zck_t, zbo_0, zbo_1, zbo_n0, zbo_n1, c_lt_t, c_lt_f, c_le_t, c_le_f, c_eq_t, c_eq_f, c_T, c_F, d_ltpn, d_ltnp, d_ltnn_t, d_ltnn_f, d_lepn, d_lenp, d_eqpn, d_eqnp, d_eqnn_t, d_eqnn_f, li_0, li_1, li_2, li_3, li_4, li_5, li_6, li_7, li_8, li_9, li_10, li_11, li_12, li_13, li_14, li_15, li_16, li_17, li_18, li_19, li_20, li_21, li_22, li_23, li_24, li_25, li_26, li_27, li_28, li_29, li_30, li_31, li_32, li_36, li_39, li_40, li_45, li_46, li_48, li_50, li_57, li_60, li_63, li_64, li_72, li_73, li_90, li_96, li_97, li_99, li_100, li_120, li_122, li_200, li_255, li_256, li_257, li_258, li_259, li_700, li_720, li_950, li_1900, li_2920, li_9999, li_4096, li_12345, li_32767, gr_0_1, gr_0_4, gr_0_7, gr_0_0, gr_0_13, zin_k, zix_k, sx_n (qx_S h), sx_f (qx_S h), sx_v (qx_S h), x_y h, h490, h491, h11, h78, ah_x (qx_S h) (qo_S ho) (qx_W h) (qo_W ho)]
      all_goals rfl
    · obtain ⟨-, -, -, ⟨h15, -⟩, -, h90, -⟩ := id h
      obtain ⟨-, h50, -, h64, -⟩ := qm_H h
      have : t = 0 ∨ t = 1 ∨ t = 2 ∨ t = 3 ∨ t = 4 ∨ t = 5 ∨ t = 6 ∨ t = 7 ∨ t = 8 ∨ t = 9 ∨ t = 10 := by omega
      unfold F_X12_count
      rw [zst_eq, zup_same h0, show F_X12_within (nI t) 0 10 M = zI 1 M from pm_within_in (lo := 0) (hi := 10) (by omega) ht (by omega), zbI_I, pm_right1 h0 (by decide), zbI_I, zit_f (by decide)]
      rcases this with rfl | rfl | rfl | rfl | rfl | rfl | rfl | rfl | rfl | rfl | rfl
      all_goals simp (disch := omega) only [zbI_I, zbI_E, zbV_V, zbV_E, zbJ_J, zbH_I, zbH_E, zlt_eq, zltL_eq, zst_eq, zjo_eq, zck_t, zbo_0, zbo_1, zbo_n0, zbo_n1, c_lt_t, c_lt_f, c_le_t, c_le_f, c_eq_t, c_eq_f, c_T, c_F, d_ltpn, d_ltnp, d_ltnn_t, d_ltnn_f, d_lepn, d_lenp, d_eqpn, d_eqnp, d_eqnn_t, d_eqnn_f, li_0, li_1, li_2, li_3, li_4, li_5, li_6, li_7, li_8, li_9, li_10, li_11, li_12, li_13, li_14, li_15, li_16, li_17, li_18, li_19, li_20, li_21, li_22, li_23, li_24, li_25, li_26, li_27, li_28, li_29, li_30, li_31, li_32, li_36, li_39, li_40, li_45, li_46, li_48, li_50, li_57, li_60, li_63, li_64, li_72, li_73, li_90, li_96, li_97, li_99, li_100, li_120, li_122, li_200, li_255, li_256, li_257, li_258, li_259, li_700, li_720, li_950, li_1900, li_2920, li_9999, li_4096, li_12345, li_32767, zin_k, zix_k, nI_add, pk_mul, s_sub, s_addn, nn_nn, z_abs, gr_79_47, gr_79_18, sm_n (qm_S h), sm_f (qm_S h), sm_v (qm_S h), m_y h, h50, h64, h15, h90, ah_m (qm_S h) (qo_S ho) (qm_W h) (qo_W ho)]
      all_goals rfl
  · refine zop_rf hY 1 (Or.inl rfl) (by omega) (fun M h => ?_) (fun M h h0 => ⟨0, ?_⟩)
    · unfold F_X11_count
      simp only [li_0, li_1, li_2, li_3, li_4, li_5, li_6, li_7, li_8, li_9, li_10, li_11, li_12, li_13, li_14, li_15, li_16, li_17, li_18, li_19, li_20, li_21, li_22, li_23, li_24, li_25, li_26, li_27, li_28, li_29, li_30, li_31, li_32, li_36, li_39, li_40, li_45, li_46, li_48, li_50, li_57, li_60, li_63, li_64, li_72, li_73, li_90, li_96, li_97, li_99, li_100, li_120, li_122, li_200, li_255, li_256, li_257, li_258, li_259, li_700, li_720, li_950, li_1900, li_2920, li_9999, li_4096, li_12345, li_32767]
      rw [zit_f (out_ne ha (by omega) (by omega)), zit_f (out_ne ha (by omega) (by omega)), zit_f (out_ne ha (by omega) (by omega)), zit_f (out_ne ha (by omega) (by omega)), zit_f (out_ne ha (by omega) (by omega)), zit_f (out_ne ha (by omega) (by omega)), zit_f (out_ne ha (by omega) (by omega)), zit_f (out_ne ha (by omega) (by omega)), zit_f (out_ne ha (by omega) (by omega)), zit_f (out_ne ha (by omega) (by omega)), zit_f (out_ne ha (by omega) (by omega))]
      rfl
    · unfold F_X12_count
      rw [zst_eq, zup_same h0, show F_X12_within a 0 10 M = zI 0 M from pm_within_out (hi := nI 10) ha, zbI_I, pm_right0 h0 (by decide), zbI_I]
      rfl
/-- weather -/
def zwe (S : zSD) (w : zWD) (x y far i : Nat) : Bool := decide (S 7 (w.1 i) = 2 ∧ zdf (S 5 (w.1 i)) x + zdf (S 6 (w.1 i)) y ≤ far)
theorem op_weather (q : zSt) (ho : zok q) (a b c : Int32) : zOp 1 (F_X11_weather 0 a b c) (F_X12_weather 79 a b c) zIAE zNSE q := by
  have hn := qo_n ho
  have hY : ∀ M, F_X12_weather 79 a b c M = F_X12_weather 79 a b c (zup M 79 0 0) := fun M => by unfold F_X12_weather; rw [zup_idem]
  have refuse : ∀ M, M 79 0 = 0 → zbI (F_X12_right 79 0 1 M) (fun r4 M7 => zit (r4 = 0) (zI 0 M7) (F_X12_weather_L56 79 a b c (fun (y1 : Int32) (M12 : zM) => zI y1 M12) zN 0 0 M7)) = zI 0 (zup M 79 0 (nI 1)) := fun M h0 => by
    rw [pm_right0 h0 (by decide), zbI_I]
    rfl
  have inn : ∀ {k m : Nat} {M : zM}, k ≤ m → m < 2 ^ 31 → F_X12_within (nI k) 0 (nI m) M = zI 1 M := fun hk hm => pm_within_in (lo := 0) (by omega) hk hm
  rcases zca (m := 60) (by omega) a with ⟨x, hx, rfl⟩ | ha
  · rcases zca (m := 60) (by omega) b with ⟨y, hy, rfl⟩ | hb
    · rcases zca (m := 120) (by omega) c with ⟨t, ht, rfl⟩ | hc
      · have hstep : ∀ i, i < tS q 0 0 → (tW q).1 i < tS q 0 0 := wo_n (qo_W ho)
        refine zop_self hY (zop0_ret (r := nI (zcu (zwe (tS q) (tW q) x y t) (tS q 0 0))) (fun M h => ⟨M, ?_, zoff_rfl⟩) (fun M h h0 => ⟨M, ?_, zoff_rfl⟩))
        · unfold F_X11_weather F_X11_needPlace
          simp only [li_60, li_120]
          rw [px_amount_in hx (by omega), zbV_V, px_amount_in hy (by omega), zbV_V, zbV_V, px_amount_in ht (by omega), zbV_V]
          refine zfor (i := 0) (f := zN) (a := ()) (tS q 0 0) (fun f k (_ : Unit) => F_X11_weather_L17 0 (nI x) (nI y) (nI t) (fun (y1 : Int32) (M5 : zM) => zI y1 M5) f (nI (zcu (zwe (tS q) (tW q) x y t) k)) (nI k) M) (fun _ _ => True) (fun o => o = _) ?_ ?_ (by omega) (zN_ge (by omega)) trivial
          · rintro f k _ hk -
            refine Or.inr ⟨(), ?_, trivial⟩
            have hw := hstep k hk
            obtain ⟨a3, b3, a5, a6, a7⟩ := so_i (qo_S ho) _ hw
            show F_X11_weather_L17 0 _ _ _ _ (f + 1) _ _ M = F_X11_weather_L17 0 _ _ _ _ f _ _ M
            rw [F_X11_weather_L17]
            unfold F_X6_farFrom
            simp (disch := omega) only [zbI_I, zbI_E, zbV_V, zbV_E, zbJ_J, zbH_I, zbH_E, zlt_eq, zltL_eq, zst_eq, zjo_eq, zck_t, zbo_0, zbo_1, zbo_n0, zbo_n1, c_le_f, li_0, li_1, li_2, gr_0_1, gr_0_4, gr_40_1, gr_3_8, gr_3_6, gr_3_7, zin_k, zix_k, sx_n (qx_S h), x_n h, sx_7 (qx_S h), sx_5 (qx_S h), sx_6 (qx_S h), z_abs, nI_add, i_eq, i_lt]
            by_cases h1 : tS q 7 ((tW q).1 k) = 2
            · rw [zit_t h1]
              by_cases h2 : tS q 5 ((tW q).1 k) - x + (x - tS q 5 ((tW q).1 k)) + (tS q 6 ((tW q).1 k) - y + (y - tS q 6 ((tW q).1 k))) ≤ t
              · rw [zit_f (show ¬ _ from Nat.not_lt.mpr h2), zcu_t (decide_eq_true ⟨h1, h2⟩)]
              · rw [zit_t (show _ < _ from Nat.not_le.mp h2), zcu_f (decide_eq_false (fun z => h2 z.2))]
            · rw [zit_f h1, zcu_f (decide_eq_false (fun z => h1 z.1))]
          · rintro f _ -
            show F_X11_weather_L17 0 _ _ _ _ (f + 1) _ _ M = _
            rw [F_X11_weather_L17]
            simp (disch := omega) only [c_le_t, gr_0_1, sx_n (qx_S h)]
        · unfold F_X12_weather
          simp only [li_60, li_120]
          rw [zst_eq, zup_same h0, inn hx (by omega), zbI_I]
          simp only [zjo_eq]
          rw [zit_f (by decide), inn hy (by omega), zbI_I, zit_f (by decide), inn ht (by omega), zbI_I, zit_f (by decide), pm_right1 h0 (by decide), zbI_I, zit_f (by decide)]
          refine zfor (i := 0) (f := zN) (a := ()) (tS q 0 0) (fun f k (_ : Unit) => F_X12_weather_L56 79 (nI x) (nI y) (nI t) (fun (y1 : Int32) (M5 : zM) => zI y1 M5) f (nI (zcu (zwe (tS q) (tW q) x y t) k)) (nI k) M) (fun _ _ => True) (fun o => o = _) ?_ ?_ (by omega) (zN_ge (by omega)) trivial
          · rintro f k _ hk -
            refine Or.inr ⟨(), ?_, trivial⟩
            have hw := hstep k hk
            obtain ⟨a3, b3, a5, a6, a7⟩ := so_i (qo_S ho) _ hw
            show F_X12_weather_L56 79 _ _ _ _ (f + 1) _ _ M = F_X12_weather_L56 79 _ _ _ _ f _ _ M
            rw [F_X12_weather_L56]
            simp (disch := omega) only [zbI_I, zbI_E, zbV_V, zbV_E, zbJ_J, zbH_I, zbH_E, zlt_eq, zltL_eq, zst_eq, zjo_eq, zck_t, zbo_0, zbo_1, zbo_n0, zbo_n1, c_le_f, li_0, li_1, li_2, gr_79_47, gr_79_9, gr_79_7, gr_79_8, zin_k, zix_k, sm_n (qm_S h), m_n h, sm_7 (qm_S h), sm_5 (qm_S h), sm_6 (qm_S h), of_m, nI_add, i_eq, i_lt]
            by_cases h1 : tS q 7 ((tW q).1 k) = 2
            · rw [zit_t h1]
              by_cases h2 : tS q 5 ((tW q).1 k) - x + (x - tS q 5 ((tW q).1 k)) + (tS q 6 ((tW q).1 k) - y + (y - tS q 6 ((tW q).1 k))) ≤ t
              · rw [zit_f (show ¬ _ from Nat.not_lt.mpr h2), zcu_t (decide_eq_true ⟨h1, h2⟩)]
              · rw [zit_t (show _ < _ from Nat.not_le.mp h2), zcu_f (decide_eq_false (fun z => h2 z.2))]
                rfl
            · rw [zit_f h1, zcu_f (decide_eq_false (fun z => h1 z.1))]
              rfl
          · rintro f _ -
            show F_X12_weather_L56 79 _ _ _ _ (f + 1) _ _ M = _
            rw [F_X12_weather_L56]
            simp (disch := omega) only [c_le_t, sm_n (qm_S h)]
      · refine zop_rf hY 1 (Or.inl rfl) (by omega) (fun M h => ?_) (fun M h h0 => ⟨0, ?_⟩)
        · unfold F_X11_weather F_X11_needPlace
          simp only [li_60, li_120]
          rw [px_amount_in hx (by omega), zbV_V, px_amount_in hy (by omega), zbV_V, zbV_V, px_amount_out hc, zbV_E]
          rfl
        · unfold F_X12_weather
          simp only [li_60, li_120]
          rw [zst_eq, zup_same h0, inn hx (by omega), zbI_I]
          simp only [zjo_eq]
          rw [zit_f (by decide), inn hy (by omega), zbI_I, zit_f (by decide), pm_within_out hc, zbI_I, zit_t rfl, refuse M h0]
    · refine zop_rf hY 1 (Or.inl rfl) (by omega) (fun M h => ?_) (fun M h h0 => ⟨0, ?_⟩)
      · unfold F_X11_weather F_X11_needPlace
        simp only [li_60, li_120]
        rw [px_amount_in hx (by omega), zbV_V, px_amount_out hb, zbV_E, zbV_E]
        rfl
      · unfold F_X12_weather
        simp only [li_60, li_120]
        rw [zst_eq, zup_same h0, inn hx (by omega), zbI_I]
        simp only [zjo_eq]
        rw [zit_f (by decide), pm_within_out hb, zbI_I, zit_t rfl, refuse M h0]
  · refine zop_rf hY 1 (Or.inl rfl) (by omega) (fun M h => ?_) (fun M h h0 => ⟨0, ?_⟩)
    · unfold F_X11_weather F_X11_needPlace
      simp only [li_60, li_120]
      rw [px_amount_out ha, zbV_E, zbV_E]
      rfl
    · unfold F_X12_weather
      simp only [li_60, li_120]
      rw [zst_eq, zup_same h0, pm_within_out ha, zbI_I]
      simp only [zjo_eq]
      rw [zit_t trivial, refuse M h0]
