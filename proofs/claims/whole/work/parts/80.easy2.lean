/-! MORE CALLS THAT READ -/
theorem zcj (n : Nat) (a : Int32) : (∃ k, k < n ∧ a = nI k) ∨ (a < 0 ∨ nI n ≤ a) := by
  by_cases h : a < 0
  · exact Or.inr (Or.inl h)
  · obtain ⟨j, hj, rfl⟩ := nI_of h
    by_cases hk : j < n
    · exact Or.inl ⟨j, hk, rfl⟩
    · exact Or.inr (Or.inr (nI_le (by omega) hj))
theorem op_name (q : zSt) (ho : zok q) (a b : Int32) : zOp 1 (F_X11_name 0 a b) (F_X12_name 79 a b) zNSE zIAE q := by
  have hn := qo_n ho
  have hY : ∀ M, F_X12_name 79 a b M = F_X12_name 79 a b (zup M 79 0 0) := fun M => by unfold F_X12_name; rw [zup_idem]
  rcases zci hn a with ⟨k, hk, rfl⟩ | ha
  · rcases zca (m := 4) (by omega) b with ⟨j, hj, rfl⟩ | hb
    · refine zop_self hY (zop0_ret (r := if j = 0 then nI (tS q 3 k) else if j = 1 then nI (tS q 5 k) else if j = 2 then nI (tS q 6 k) else if j = 3 then nI (tS q 7 k) else zfi (fun i => decide ((tW q).1 i = k)) (tS q 0 0) 0) (fun M h => ⟨M, ?_, zoff_rfl⟩) (fun M h h0 => ⟨M, ?_, zoff_rfl⟩))
      · unfold F_X11_name
        rw [px_name_in (sx_n (qx_S h)) hn hk, zbV_V, gr_0_1, gr_0_4]
        have : j = 0 ∨ j = 1 ∨ j = 2 ∨ j = 3 ∨ j = 4 := by omega
        rcases this with rfl | rfl | rfl | rfl | rfl
        · simp (disch := omega) only [zbI_I, zbI_E, zbV_V, zbV_E, zbJ_J, zbH_I, zbH_E, zlt_eq, zltL_eq, zst_eq, zjo_eq, zck_t, zbo_0, zbo_1, c_lt_t, c_lt_f, c_le_t, c_le_f, c_eq_t, c_eq_f, c_T, c_F, d_ltpn, d_ltnp, d_ltnn_t, d_ltnn_f, d_lepn, d_lenp, d_eqpn, d_eqnp, d_eqnn_t, d_eqnn_f, li_0, li_1, li_2, li_3, li_4, li_5, li_6, li_7, li_8, li_9, li_10, li_11, li_12, li_13, li_14, li_15, li_16, li_17, li_18, li_19, li_20, li_21, li_22, li_23, li_24, li_25, li_26, li_27, li_28, li_29, li_30, li_31, li_32, li_36, li_39, li_40, li_45, li_46, li_48, li_50, li_57, li_60, li_63, li_64, li_72, li_73, li_90, li_96, li_97, li_99, li_100, li_120, li_122, li_200, li_255, li_256, li_257, li_258, li_259, li_700, li_720, li_950, li_1900, li_2920, li_9999, li_4096, li_12345, li_32767, gr_3_4, gr_4_1, zin_k, zix_k, sx_3 (qx_S h)]
          rfl
        · simp (disch := omega) only [zbI_I, zbI_E, zbV_V, zbV_E, zbJ_J, zbH_I, zbH_E, zlt_eq, zltL_eq, zst_eq, zjo_eq, zck_t, zbo_0, zbo_1, c_lt_t, c_lt_f, c_le_t, c_le_f, c_eq_t, c_eq_f, c_T, c_F, d_ltpn, d_ltnp, d_ltnn_t, d_ltnn_f, d_lepn, d_lenp, d_eqpn, d_eqnp, d_eqnn_t, d_eqnn_f, li_0, li_1, li_2, li_3, li_4, li_5, li_6, li_7, li_8, li_9, li_10, li_11, li_12, li_13, li_14, li_15, li_16, li_17, li_18, li_19, li_20, li_21, li_22, li_23, li_24, li_25, li_26, li_27, li_28, li_29, li_30, li_31, li_32, li_36, li_39, li_40, li_45, li_46, li_48, li_50, li_57, li_60, li_63, li_64, li_72, li_73, li_90, li_96, li_97, li_99, li_100, li_120, li_122, li_200, li_255, li_256, li_257, li_258, li_259, li_700, li_720, li_950, li_1900, li_2920, li_9999, li_4096, li_12345, li_32767, gr_3_6, zin_k, zix_k, sx_5 (qx_S h)]
          rfl
        · simp (disch := omega) only [zbI_I, zbI_E, zbV_V, zbV_E, zbJ_J, zbH_I, zbH_E, zlt_eq, zltL_eq, zst_eq, zjo_eq, zck_t, zbo_0, zbo_1, c_lt_t, c_lt_f, c_le_t, c_le_f, c_eq_t, c_eq_f, c_T, c_F, d_ltpn, d_ltnp, d_ltnn_t, d_ltnn_f, d_lepn, d_lenp, d_eqpn, d_eqnp, d_eqnn_t, d_eqnn_f, li_0, li_1, li_2, li_3, li_4, li_5, li_6, li_7, li_8, li_9, li_10, li_11, li_12, li_13, li_14, li_15, li_16, li_17, li_18, li_19, li_20, li_21, li_22, li_23, li_24, li_25, li_26, li_27, li_28, li_29, li_30, li_31, li_32, li_36, li_39, li_40, li_45, li_46, li_48, li_50, li_57, li_60, li_63, li_64, li_72, li_73, li_90, li_96, li_97, li_99, li_100, li_120, li_122, li_200, li_255, li_256, li_257, li_258, li_259, li_700, li_720, li_950, li_1900, li_2920, li_9999, li_4096, li_12345, li_32767, gr_3_7, zin_k, zix_k, sx_6 (qx_S h)]
          rfl
        · simp (disch := omega) only [zbI_I, zbI_E, zbV_V, zbV_E, zbJ_J, zbH_I, zbH_E, zlt_eq, zltL_eq, zst_eq, zjo_eq, zck_t, zbo_0, zbo_1, c_lt_t, c_lt_f, c_le_t, c_le_f, c_eq_t, c_eq_f, c_T, c_F, d_ltpn, d_ltnp, d_ltnn_t, d_ltnn_f, d_lepn, d_lenp, d_eqpn, d_eqnp, d_eqnn_t, d_eqnn_f, li_0, li_1, li_2, li_3, li_4, li_5, li_6, li_7, li_8, li_9, li_10, li_11, li_12, li_13, li_14, li_15, li_16, li_17, li_18, li_19, li_20, li_21, li_22, li_23, li_24, li_25, li_26, li_27, li_28, li_29, li_30, li_31, li_32, li_36, li_39, li_40, li_45, li_46, li_48, li_50, li_57, li_60, li_63, li_64, li_72, li_73, li_90, li_96, li_97, li_99, li_100, li_120, li_122, li_200, li_255, li_256, li_257, li_258, li_259, li_700, li_720, li_950, li_1900, li_2920, li_9999, li_4096, li_12345, li_32767, gr_3_8, zin_k, zix_k, sx_7 (qx_S h)]
          rfl
        · simp (disch := omega) only [zbI_I, zbI_E, zbV_V, zbV_E, zbJ_J, zbH_I, zbH_E, zlt_eq, zltL_eq, zst_eq, zjo_eq, zck_t, zbo_0, zbo_1, c_lt_t, c_lt_f, c_le_t, c_le_f, c_eq_t, c_eq_f, c_T, c_F, d_ltpn, d_ltnp, d_ltnn_t, d_ltnn_f, d_lepn, d_lenp, d_eqpn, d_eqnp, d_eqnn_t, d_eqnn_f, li_0, li_1, li_2, li_3, li_4, li_5, li_6, li_7, li_8, li_9, li_10, li_11, li_12, li_13, li_14, li_15, li_16, li_17, li_18, li_19, li_20, li_21, li_22, li_23, li_24, li_25, li_26, li_27, li_28, li_29, li_30, li_31, li_32, li_36, li_39, li_40, li_45, li_46, li_48, li_50, li_57, li_60, li_63, li_64, li_72, li_73, li_90, li_96, li_97, li_99, li_100, li_120, li_122, li_200, li_255, li_256, li_257, li_258, li_259, li_700, li_720, li_950, li_1900, li_2920, li_9999, li_4096, li_12345, li_32767]
          rw [hd_x (qx_S h) (qo_S ho) (qx_W h) (qo_W ho) (by omega), zbI_I]
          rfl
      · unfold F_X12_name
        rw [zst_eq, zup_same h0, pm_one_in h0 (sm_n (qm_S h)) hn hk, zbI_I]
        simp only [zjo_eq]
        rw [zit_f (by decide), show (4 : Int32) = nI 4 from rfl, pm_what_in h0 hj (by omega), zbI_I, zit_f (by decide)]
        have : j = 0 ∨ j = 1 ∨ j = 2 ∨ j = 3 ∨ j = 4 := by omega
        rcases this with rfl | rfl | rfl | rfl | rfl
        · simp (disch := omega) only [zbI_I, zbI_E, zbV_V, zbV_E, zbJ_J, zbH_I, zbH_E, zlt_eq, zltL_eq, zst_eq, zjo_eq, zck_t, zbo_0, zbo_1, c_lt_t, c_lt_f, c_le_t, c_le_f, c_eq_t, c_eq_f, c_T, c_F, d_ltpn, d_ltnp, d_ltnn_t, d_ltnn_f, d_lepn, d_lenp, d_eqpn, d_eqnp, d_eqnn_t, d_eqnn_f, li_0, li_1, li_2, li_3, li_4, li_5, li_6, li_7, li_8, li_9, li_10, li_11, li_12, li_13, li_14, li_15, li_16, li_17, li_18, li_19, li_20, li_21, li_22, li_23, li_24, li_25, li_26, li_27, li_28, li_29, li_30, li_31, li_32, li_36, li_39, li_40, li_45, li_46, li_48, li_50, li_57, li_60, li_63, li_64, li_72, li_73, li_90, li_96, li_97, li_99, li_100, li_120, li_122, li_200, li_255, li_256, li_257, li_258, li_259, li_700, li_720, li_950, li_1900, li_2920, li_9999, li_4096, li_12345, li_32767, gr_79_6, zin_k, zix_k, sm_3 (qm_S h)]
          rfl
        · simp (disch := omega) only [zbI_I, zbI_E, zbV_V, zbV_E, zbJ_J, zbH_I, zbH_E, zlt_eq, zltL_eq, zst_eq, zjo_eq, zck_t, zbo_0, zbo_1, c_lt_t, c_lt_f, c_le_t, c_le_f, c_eq_t, c_eq_f, c_T, c_F, d_ltpn, d_ltnp, d_ltnn_t, d_ltnn_f, d_lepn, d_lenp, d_eqpn, d_eqnp, d_eqnn_t, d_eqnn_f, li_0, li_1, li_2, li_3, li_4, li_5, li_6, li_7, li_8, li_9, li_10, li_11, li_12, li_13, li_14, li_15, li_16, li_17, li_18, li_19, li_20, li_21, li_22, li_23, li_24, li_25, li_26, li_27, li_28, li_29, li_30, li_31, li_32, li_36, li_39, li_40, li_45, li_46, li_48, li_50, li_57, li_60, li_63, li_64, li_72, li_73, li_90, li_96, li_97, li_99, li_100, li_120, li_122, li_200, li_255, li_256, li_257, li_258, li_259, li_700, li_720, li_950, li_1900, li_2920, li_9999, li_4096, li_12345, li_32767, gr_79_7, zin_k, zix_k, sm_5 (qm_S h)]
          rfl
        · simp (disch := omega) only [zbI_I, zbI_E, zbV_V, zbV_E, zbJ_J, zbH_I, zbH_E, zlt_eq, zltL_eq, zst_eq, zjo_eq, zck_t, zbo_0, zbo_1, c_lt_t, c_lt_f, c_le_t, c_le_f, c_eq_t, c_eq_f, c_T, c_F, d_ltpn, d_ltnp, d_ltnn_t, d_ltnn_f, d_lepn, d_lenp, d_eqpn, d_eqnp, d_eqnn_t, d_eqnn_f, li_0, li_1, li_2, li_3, li_4, li_5, li_6, li_7, li_8, li_9, li_10, li_11, li_12, li_13, li_14, li_15, li_16, li_17, li_18, li_19, li_20, li_21, li_22, li_23, li_24, li_25, li_26, li_27, li_28, li_29, li_30, li_31, li_32, li_36, li_39, li_40, li_45, li_46, li_48, li_50, li_57, li_60, li_63, li_64, li_72, li_73, li_90, li_96, li_97, li_99, li_100, li_120, li_122, li_200, li_255, li_256, li_257, li_258, li_259, li_700, li_720, li_950, li_1900, li_2920, li_9999, li_4096, li_12345, li_32767, gr_79_8, zin_k, zix_k, sm_6 (qm_S h)]
          rfl
        · simp (disch := omega) only [zbI_I, zbI_E, zbV_V, zbV_E, zbJ_J, zbH_I, zbH_E, zlt_eq, zltL_eq, zst_eq, zjo_eq, zck_t, zbo_0, zbo_1, c_lt_t, c_lt_f, c_le_t, c_le_f, c_eq_t, c_eq_f, c_T, c_F, d_ltpn, d_ltnp, d_ltnn_t, d_ltnn_f, d_lepn, d_lenp, d_eqpn, d_eqnp, d_eqnn_t, d_eqnn_f, li_0, li_1, li_2, li_3, li_4, li_5, li_6, li_7, li_8, li_9, li_10, li_11, li_12, li_13, li_14, li_15, li_16, li_17, li_18, li_19, li_20, li_21, li_22, li_23, li_24, li_25, li_26, li_27, li_28, li_29, li_30, li_31, li_32, li_36, li_39, li_40, li_45, li_46, li_48, li_50, li_57, li_60, li_63, li_64, li_72, li_73, li_90, li_96, li_97, li_99, li_100, li_120, li_122, li_200, li_255, li_256, li_257, li_258, li_259, li_700, li_720, li_950, li_1900, li_2920, li_9999, li_4096, li_12345, li_32767, gr_79_9, zin_k, zix_k, sm_7 (qm_S h)]
          rfl
        · simp (disch := omega) only [zbI_I, zbI_E, zbV_V, zbV_E, zbJ_J, zbH_I, zbH_E, zlt_eq, zltL_eq, zst_eq, zjo_eq, zck_t, zbo_0, zbo_1, c_lt_t, c_lt_f, c_le_t, c_le_f, c_eq_t, c_eq_f, c_T, c_F, d_ltpn, d_ltnp, d_ltnn_t, d_ltnn_f, d_lepn, d_lenp, d_eqpn, d_eqnp, d_eqnn_t, d_eqnn_f, li_0, li_1, li_2, li_3, li_4, li_5, li_6, li_7, li_8, li_9, li_10, li_11, li_12, li_13, li_14, li_15, li_16, li_17, li_18, li_19, li_20, li_21, li_22, li_23, li_24, li_25, li_26, li_27, li_28, li_29, li_30, li_31, li_32, li_36, li_39, li_40, li_45, li_46, li_48, li_50, li_57, li_60, li_63, li_64, li_72, li_73, li_90, li_96, li_97, li_99, li_100, li_120, li_122, li_200, li_255, li_256, li_257, li_258, li_259, li_700, li_720, li_950, li_1900, li_2920, li_9999, li_4096, li_12345, li_32767, gr_79_47]
          rw [hd_m zal102 (qm_S h) (qo_S ho) (qm_W h) (qo_W ho) (by omega), zbI_I]
          rfl
    · refine zop_rf hY 1 (Or.inl rfl) (by omega) (fun M h => ?_) (fun M h h0 => ⟨0, ?_⟩)
      · unfold F_X11_name
        rw [px_name_in (sx_n (qx_S h)) hn hk, zbV_V]
        simp only [li_0, li_1, li_2, li_3, li_4, li_5, li_6, li_7, li_8, li_9, li_10, li_11, li_12, li_13, li_14, li_15, li_16, li_17, li_18, li_19, li_20, li_21, li_22, li_23, li_24, li_25, li_26, li_27, li_28, li_29, li_30, li_31, li_32, li_36, li_39, li_40, li_45, li_46, li_48, li_50, li_57, li_60, li_63, li_64, li_72, li_73, li_90, li_96, li_97, li_99, li_100, li_120, li_122, li_200, li_255, li_256, li_257, li_258, li_259, li_700, li_720, li_950, li_1900, li_2920, li_9999, li_4096, li_12345, li_32767]
        rw [zit_f (out_ne hb (by omega) (by omega)), zit_f (out_ne hb (by omega) (by omega)), zit_f (out_ne hb (by omega) (by omega)), zit_f (out_ne hb (by omega) (by omega)), zit_f (out_ne hb (by omega) (by omega))]
        rfl
      · unfold F_X12_name
        rw [zst_eq, zup_same h0, pm_one_in h0 (sm_n (qm_S h)) hn hk, zbI_I]
        simp only [zjo_eq]
        rw [zit_f (by decide), show (4 : Int32) = nI 4 from rfl, pm_what_out h0 hb, zbI_I, zit_t rfl]
        rfl
  · refine zop_rf hY 1 (Or.inl rfl) (by omega) (fun M h => ?_) (fun M h h0 => ⟨0, ?_⟩)
    · unfold F_X11_name
      rw [px_name_out (sx_n (qx_S h)) ha, zbV_E]
      rfl
    · unfold F_X12_name
      rw [zst_eq, zup_same h0, pm_one_out h0 (sm_n (qm_S h)) ha, zbI_I]
      rfl
theorem op_letter (q : zSt) (ho : zok q) (a b : Int32) : zOp 1 (F_X11_letter 0 a b) (F_X12_letter 79 a b) zNSE zIAE q := by
  have hn := qo_n ho
  have hY : ∀ M, F_X12_letter 79 a b M = F_X12_letter 79 a b (zup M 79 0 0) := fun M => by unfold F_X12_letter; rw [zup_idem]
  rcases zci hn a with ⟨k, hk, rfl⟩ | ha
  · obtain ⟨a3, b3, -⟩ := so_i (qo_S ho) k hk
    rcases zcj (tS q 3 k) b with ⟨j, hj, rfl⟩ | hb
    · refine zop_self hY (zop0_ret (r := nI (tS q 4 (9 * k + j))) (fun M h => ⟨M, ?_, zoff_rfl⟩) (fun M h h0 => ⟨M, ?_, zoff_rfl⟩))
      · have h4 := sx_4 (qx_S h) k hk j hj
        unfold F_X11_letter F_X11_needBelow F_X9_sign
        rw [px_name_in (sx_n (qx_S h)) hn hk]
        simp (disch := omega) only [zbI_I, zbI_E, zbV_V, zbV_E, zbJ_J, zbH_I, zbH_E, zlt_eq, zltL_eq, zst_eq, zjo_eq, zck_t, zbo_0, zbo_1, c_lt_t, c_lt_f, c_le_t, c_le_f, c_eq_t, c_eq_f, c_T, c_F, d_ltpn, d_ltnp, d_ltnn_t, d_ltnn_f, d_lepn, d_lenp, d_eqpn, d_eqnp, d_eqnn_t, d_eqnn_f, li_0, li_9, gr_0_1, gr_3_4, gr_4_1, gr_4_0, zin_k, zix_k, sx_3 (qx_S h), pk_mul, nI_add]
        rw [Nat.mul_comm k 9, h4]
      · have h4 := sm_4 (qm_S h) k hk j hj
        unfold F_X12_letter
        rw [zst_eq, zup_same h0, pm_one_in h0 (sm_n (qm_S h)) hn hk]
        simp (disch := omega) only [zbI_I, zbI_E, zbV_V, zbV_E, zbJ_J, zbH_I, zbH_E, zlt_eq, zltL_eq, zst_eq, zjo_eq, zck_t, zbo_0, zbo_1, c_lt_t, c_lt_f, c_le_t, c_le_f, c_eq_t, c_eq_f, c_T, c_F, d_ltpn, d_ltnp, d_ltnn_t, d_ltnn_f, d_lepn, d_lenp, d_eqpn, d_eqnp, d_eqnn_t, d_eqnn_f, li_0, li_9, li_1, gr_79_5, gr_79_6, zin_k, zix_k, sm_3 (qm_S h), pk_mul, nI_add]
        rw [show nI 1 = 1 from rfl, pm_right1 h0 (by decide), zbI_I, zit_f (by decide), h4]
    · refine zop_rf hY 1 (Or.inl rfl) (by omega) (fun M h => ?_) (fun M h h0 => ⟨0, ?_⟩)
      · unfold F_X11_letter F_X11_needBelow
        rw [px_name_in (sx_n (qx_S h)) hn hk]
        simp (disch := omega) only [zbI_I, zbI_E, zbV_V, zbV_E, zbJ_J, zbH_I, zbH_E, zlt_eq, zltL_eq, zst_eq, zjo_eq, zck_t, zbo_0, zbo_1, gr_0_1, gr_3_4, gr_4_1, zin_k, zix_k, sx_3 (qx_S h)]
        by_cases hb0 : b < 0
        · rw [zit_t hb0, zbV_E]
          rfl
        · rw [zit_f hb0, zit_f (out_nl hb hb0), zbV_E]
          rfl
      · unfold F_X12_letter
        rw [zst_eq, zup_same h0, pm_one_in h0 (sm_n (qm_S h)) hn hk]
        simp (disch := omega) only [zbI_I, zbI_E, zbV_V, zbV_E, zbJ_J, zbH_I, zbH_E, zlt_eq, zltL_eq, zst_eq, zjo_eq, zck_t, zbo_0, zbo_1, gr_79_6, zin_k, zix_k, sm_3 (qm_S h)]
        have e : zbI (F_X12_right 79 0 1 M) (fun r2 M5 => zit (r2 = 0) (zI 0 M5) (zck (zin (9 * nI k + b) 72) (zI (M5 (zgr 79 5) (zix (9 * nI k + b))) M5))) = zI 0 (zup M 79 0 (nI 1)) := by
          rw [pm_right0 h0 (by decide), zbI_I, zit_t rfl]
          rfl
        rw [zit_f (by decide)]
        by_cases hb0 : b < 0
        · rw [zit_t hb0, e]
        · rw [zit_f hb0, zit_t (hb.resolve_left hb0), e]
  · refine zop_rf hY 1 (Or.inl rfl) (by omega) (fun M h => ?_) (fun M h h0 => ⟨0, ?_⟩)
    · unfold F_X11_letter
      rw [px_name_out (sx_n (qx_S h)) ha, zbV_E]
      rfl
    · unfold F_X12_letter
      rw [zst_eq, zup_same h0, pm_one_out h0 (sm_n (qm_S h)) ha, zbI_I]
      rfl
/-- lies -/
def zls (P : Nat → Bool) : Nat → Int32
  | 0 => -1
  | d + 1 => if P d = true then nI d else zls P d
section ZLS
variable {S : zSD} {w : zWD} {M : zM}
theorem ls_x (hS : zSx S M) (ho : zSok S) (hW : zWx 40 w M) (hk : zWok S w) {a b : Nat} (ha : a < S 0 0) (hb : b < S 0 0) : F_X11_lies_L9 0 (nI a) (nI b) (fun (M3 : zM) => zI (-1) M3) zN 9 M = zI (zls (zli S w a b) 10) M := by
  refine zdown (i := 10) (f := zN) (a := ()) (fun f d (_ : Unit) => F_X11_lies_L9 0 (nI a) (nI b) (fun (M3 : zM) => zI (-1) M3) f (nI d - 1) M) (fun d _ => d ≤ 10 ∧ zls (zli S w a b) d = zls (zli S w a b) 10) (fun o => o = zI (zls (zli S w a b) 10) M) ?_ ?_ (zN_ge (by omega)) ⟨by omega, rfl⟩
  · rintro f d _ ⟨hd, hI⟩
    have e : F_X11_lies_L9 0 (nI a) (nI b) (fun (M3 : zM) => zI (-1) M3) (f + 1) (nI (d + 1) - 1) M = zit ((if zli S w a b d = true then (1 : Int32) else 0) = 0) (F_X11_lies_L9 0 (nI a) (nI b) (fun (M3 : zM) => zI (-1) M3) f (nI d - 1) M) (zI (nI d) M) := by
      rw [nI_pred, F_X11_lies_L9, zit_f (nI_pos (by omega)), gr_0_4, li_x hS ho hW hk ha hb (by omega), zbI_I, Int32.sub_eq_add_neg]
    show F_X11_lies_L9 0 (nI a) (nI b) (fun (M3 : zM) => zI (-1) M3) (f + 1) (nI (d + 1) - 1) M = _ ∨ _
    rw [e]
    replace hI : (if zli S w a b d = true then nI d else zls (zli S w a b) d) = _ := hI
    cases hz : zli S w a b d with
    | true =>
      rw [hz, if_pos rfl] at hI
      rw [if_pos rfl, zit_f (by decide), hI]
      exact Or.inl rfl
    | false =>
      rw [hz, if_neg (by decide)] at hI
      rw [if_neg (by decide), zit_t rfl]
      exact Or.inr ⟨(), rfl, by omega, hI⟩
  · rintro f _ ⟨-, hI⟩
    show F_X11_lies_L9 0 (nI a) (nI b) (fun (M3 : zM) => zI (-1) M3) (f + 1) (nI 0 - 1) M = _
    rw [F_X11_lies_L9, zit_t (by decide), ← hI]
    rfl
theorem ls_m (hS : zSm S M) (ho : zSok S) (hW : zWr (M 102) 0 w) (hk : zWok S w) {a b : Nat} (ha : a < S 0 0) (hb : b < S 0 0) : F_X12_lies_L19 79 (nI a) (nI b) (fun (M3 : zM) => zI (-1) M3) zN 9 M = zI (zls (zli S w a b) 10) M := by
  refine zdown (i := 10) (f := zN) (a := ()) (fun f d (_ : Unit) => F_X12_lies_L19 79 (nI a) (nI b) (fun (M3 : zM) => zI (-1) M3) f (nI d - 1) M) (fun d _ => d ≤ 10 ∧ zls (zli S w a b) d = zls (zli S w a b) 10) (fun o => o = zI (zls (zli S w a b) 10) M) ?_ ?_ (zN_ge (by omega)) ⟨by omega, rfl⟩
  · rintro f d _ ⟨hd, hI⟩
    have e : F_X12_lies_L19 79 (nI a) (nI b) (fun (M3 : zM) => zI (-1) M3) (f + 1) (nI (d + 1) - 1) M = zit ((if zli S w a b d = true then (1 : Int32) else 0) = 0) (F_X12_lies_L19 79 (nI a) (nI b) (fun (M3 : zM) => zI (-1) M3) f (nI d - 1) M) (zI (nI d) M) := by
      rw [nI_pred, F_X12_lies_L19, zit_f (nI_pos (by omega)), li_m hS ho hW hk ha hb (by omega), zbI_I, Int32.sub_eq_add_neg]
    show F_X12_lies_L19 79 (nI a) (nI b) (fun (M3 : zM) => zI (-1) M3) (f + 1) (nI (d + 1) - 1) M = _ ∨ _
    rw [e]
    replace hI : (if zli S w a b d = true then nI d else zls (zli S w a b) d) = _ := hI
    cases hz : zli S w a b d with
    | true =>
      rw [hz, if_pos rfl] at hI
      rw [if_pos rfl, zit_f (by decide), hI]
      exact Or.inl rfl
    | false =>
      rw [hz, if_neg (by decide)] at hI
      rw [if_neg (by decide), zit_t rfl]
      exact Or.inr ⟨(), rfl, by omega, hI⟩
  · rintro f _ ⟨-, hI⟩
    show F_X12_lies_L19 79 (nI a) (nI b) (fun (M3 : zM) => zI (-1) M3) (f + 1) (nI 0 - 1) M = _
    rw [F_X12_lies_L19, zit_t (by decide), ← hI]
    rfl
/-- tide: an isle's couples, all -/
theorem td_x1 (hS : zSx S M) (ho : zSok S) (hW : zWx 40 w M) (hk : zWok S w) {a t : Nat} (ha : a < S 0 0) (ht : t ≤ 9) (K : Int32 → zM → zO) (c : Nat) : F_X11_tide_L26 0 (nI t) (nI a) K zN (nI c) (nI (a + 1)) M = K (nI (c + zcu (fun b => decide (a < b) && zli S w a b t) (S 0 0))) M := by
  have hn := so_n ho
  have h0 : zcu (fun b => decide (a < b) && zli S w a b t) (a + 1) = 0 := zcu_lo (fun i hi => by rw [decide_eq_false (by omega)]; rfl)
  refine zfor (i := a + 1) (f := zN) (a := c) (S 0 0) (fun f b (x : Nat) => F_X11_tide_L26 0 (nI t) (nI a) K f (nI x) (nI b) M) (fun b x => a < b ∧ x = c + zcu (fun b => decide (a < b) && zli S w a b t) b) (fun o => o = _) ?_ ?_ (by omega) (zN_ge (by omega)) ⟨by omega, by rw [h0]; rfl⟩
  · rintro f b x hb ⟨hab, rfl⟩
    refine Or.inr ⟨c + zcu (fun b => decide (a < b) && zli S w a b t) (b + 1), ?_, by omega, rfl⟩
    show F_X11_tide_L26 0 (nI t) (nI a) K (f + 1) _ _ M = F_X11_tide_L26 0 (nI t) (nI a) K f _ _ M
    rw [F_X11_tide_L26, gr_0_4, li_x hS ho hW hk ha hb ht, zbI_I]
    simp (disch := omega) only [gr_0_1, sx_n hS, c_le_f, zjo_eq]
    cases hz : zli S w a b t with
    | true =>
      rw [zcu_t (by rw [hz, decide_eq_true hab]; rfl), if_pos rfl, zit_f (by decide), nI_1, nI_1]
      rfl
    | false =>
      rw [zcu_f (by rw [hz, Bool.and_false]), if_neg (by decide), zit_t rfl, nI_1]
  · rintro f x ⟨-, rfl⟩
    show F_X11_tide_L26 0 (nI t) (nI a) K (f + 1) _ _ M = _
    rw [F_X11_tide_L26]
    simp (disch := omega) only [gr_0_1, sx_n hS, c_le_t]
theorem td_m1 (hS : zSm S M) (ho : zSok S) (hW : zWr (M 102) 0 w) (hk : zWok S w) {a t : Nat} (ha : a < S 0 0) (ht : t ≤ 9) (K : Int32 → zM → zO) (c : Nat) : F_X12_tide_L39 79 (nI t) (nI a) K zN (nI c) (nI (a + 1)) M = K (nI (c + zcu (fun b => decide (a < b) && zli S w a b t) (S 0 0))) M := by
  have hn := so_n ho
  have h0 : zcu (fun b => decide (a < b) && zli S w a b t) (a + 1) = 0 := zcu_lo (fun i hi => by rw [decide_eq_false (by omega)]; rfl)
  refine zfor (i := a + 1) (f := zN) (a := c) (S 0 0) (fun f b (x : Nat) => F_X12_tide_L39 79 (nI t) (nI a) K f (nI x) (nI b) M) (fun b x => a < b ∧ x = c + zcu (fun b => decide (a < b) && zli S w a b t) b) (fun o => o = _) ?_ ?_ (by omega) (zN_ge (by omega)) ⟨by omega, by rw [h0]; rfl⟩
  · rintro f b x hb ⟨hab, rfl⟩
    refine Or.inr ⟨c + zcu (fun b => decide (a < b) && zli S w a b t) (b + 1), ?_, by omega, rfl⟩
    show F_X12_tide_L39 79 (nI t) (nI a) K (f + 1) _ _ M = F_X12_tide_L39 79 (nI t) (nI a) K f _ _ M
    rw [F_X12_tide_L39, li_m hS ho hW hk ha hb ht, zbI_I]
    simp (disch := omega) only [sm_n hS, c_le_f, zjo_eq, zlt_eq]
    cases hz : zli S w a b t with
    | true =>
      rw [zcu_t (by rw [hz, decide_eq_true hab]; rfl), if_pos rfl, zit_f (by decide), nI_1, nI_1]
      rfl
    | false =>
      rw [zcu_f (by rw [hz, Bool.and_false]), if_neg (by decide), zit_t rfl, nI_1, Int32.add_zero]
  · rintro f x ⟨-, rfl⟩
    show F_X12_tide_L39 79 (nI t) (nI a) K (f + 1) _ _ M = _
    rw [F_X12_tide_L39]
    simp (disch := omega) only [sm_n hS, c_le_t]
theorem td_x (hS : zSx S M) (ho : zSok S) (hW : zWx 40 w M) (hk : zWok S w) {t : Nat} (ht : t ≤ 9) : F_X11_tide_L10 0 (nI t) (fun (y2 : Int32) (M5 : zM) => zI y2 M5) zN 0 0 M = zI (nI (zsm (fun a => zcu (fun b => decide (a < b) && zli S w a b t) (S 0 0)) (S 0 0))) M := by
  have hn := so_n ho
  refine zfor (i := 0) (f := zN) (a := ()) (S 0 0) (fun f a (_ : Unit) => F_X11_tide_L10 0 (nI t) (fun (y2 : Int32) (M5 : zM) => zI y2 M5) f (nI (zsm (fun a => zcu (fun b => decide (a < b) && zli S w a b t) (S 0 0)) a)) (nI a) M) (fun _ _ => True) (fun o => o = _) ?_ ?_ (by omega) (zN_ge (by omega)) trivial
  · rintro f a _ ha -
    refine Or.inr ⟨(), ?_, trivial⟩
    show F_X11_tide_L10 0 (nI t) _ (f + 1) _ _ M = F_X11_tide_L10 0 (nI t) _ f _ _ M
    rw [F_X11_tide_L10]
    simp (disch := omega) only [gr_0_1, sx_n hS, c_le_f, zlt_eq, nI_1]
    rw [td_x1 hS ho hW hk ha ht]
    rfl
  · rintro f _ -
    show F_X11_tide_L10 0 (nI t) _ (f + 1) _ _ M = _
    rw [F_X11_tide_L10]
    simp (disch := omega) only [gr_0_1, sx_n hS, c_le_t]
theorem td_m (hS : zSm S M) (ho : zSok S) (hW : zWr (M 102) 0 w) (hk : zWok S w) {t : Nat} (ht : t ≤ 9) : F_X12_tide_L26 79 (nI t) (fun (y2 : Int32) (M5 : zM) => zI y2 M5) zN 0 0 M = zI (nI (zsm (fun a => zcu (fun b => decide (a < b) && zli S w a b t) (S 0 0)) (S 0 0))) M := by
  have hn := so_n ho
  refine zfor (i := 0) (f := zN) (a := ()) (S 0 0) (fun f a (_ : Unit) => F_X12_tide_L26 79 (nI t) (fun (y2 : Int32) (M5 : zM) => zI y2 M5) f (nI (zsm (fun a => zcu (fun b => decide (a < b) && zli S w a b t) (S 0 0)) a)) (nI a) M) (fun _ _ => True) (fun o => o = _) ?_ ?_ (by omega) (zN_ge (by omega)) trivial
  · rintro f a _ ha -
    refine Or.inr ⟨(), ?_, trivial⟩
    show F_X12_tide_L26 79 (nI t) _ (f + 1) _ _ M = F_X12_tide_L26 79 (nI t) _ f _ _ M
    rw [F_X12_tide_L26]
    simp (disch := omega) only [sm_n hS, c_le_f, zlt_eq, nI_1]
    rw [td_m1 hS ho hW hk ha ht]
    rfl
  · rintro f _ -
    show F_X12_tide_L26 79 (nI t) _ (f + 1) _ _ M = _
    rw [F_X12_tide_L26]
    simp (disch := omega) only [sm_n hS, c_le_t]
end ZLS
theorem op_lies (q : zSt) (ho : zok q) (a b : Int32) : zOp 2 (F_X11_lies 0 a b) (F_X12_lies 79 a b) zNSE zIAE q := by
  refine zop_two ho (by omega) a b (fun _ => rfl) (fun _ => rfl) (fun M => ⟨0, rfl⟩) ?_
  rintro j k hj hk hjk rfl rfl
  refine zop0_ret (r := zls (zli (tS q) (tW q) j k) 10) (fun M h => ⟨M, ?_, zoff_rfl⟩) (fun M h h0 => ⟨M, ?_, zoff_rfl⟩)
  · exact ls_x (qx_S h) (qo_S ho) (qx_W h) (qo_W ho) hj hk
  · show zit ((1 : Int32) = 0) _ _ = _
    rw [zit_f (by decide)]
    exact ls_m (qm_S h) (qo_S ho) (qm_W h) (qo_W ho) hj hk
theorem op_tide (q : zSt) (ho : zok q) (a : Int32) : zOp 1 (F_X11_tide 0 a) (F_X12_tide 79 a) zIAE zNSE q := by
  have hY : ∀ M, F_X12_tide 79 a M = F_X12_tide 79 a (zup M 79 0 0) := fun M => by unfold F_X12_tide; rw [zup_idem]
  rcases zca (m := 9) (by omega) a with ⟨t, ht, rfl⟩ | ha
  · refine zop_self hY (zop0_ret (r := nI (zsm (fun a => zcu (fun b => decide (a < b) && zli (tS q) (tW q) a b t) (tS q 0 0)) (tS q 0 0))) (fun M h => ⟨M, ?_, zoff_rfl⟩) (fun M h h0 => ⟨M, ?_, zoff_rfl⟩))
    · unfold F_X11_tide
      rw [show (9 : Int32) = nI 9 from rfl, px_amount_in ht (by omega), zbV_V, td_x (qx_S h) (qo_S ho) (qx_W h) (qo_W ho) ht]
    · unfold F_X12_tide
      rw [zst_eq, zup_same h0, show F_X12_within (nI t) 0 9 M = zI 1 M from pm_within_in (lo := 0) (hi := 9) (by omega) ht (by omega), zbI_I, pm_right1 h0 (by decide), zbI_I, zit_f (by decide), td_m (qm_S h) (qo_S ho) (qm_W h) (qo_W ho) ht]
  · refine zop_rf hY 1 (Or.inl rfl) (by omega) (fun M h => ?_) (fun M h h0 => ⟨0, ?_⟩)
    · unfold F_X11_tide
      rw [show F_X11_needAmount a 9 M = zE zIAE M from px_amount_out (m := nI 9) ha, zbV_E]
      rfl
    · unfold F_X12_tide
      rw [zst_eq, zup_same h0, show F_X12_within a 0 9 M = zI 0 M from pm_within_out (hi := nI 9) ha, zbI_I, pm_right0 h0 (by decide), zbI_I]
      rfl
