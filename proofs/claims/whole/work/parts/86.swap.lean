/-! refusals told, swap, forgive, see -/
theorem zQx_ref {q : zSt} {M M' : zM} (h : zQx q M) {i : Nat} (hi : i < 3) (e : ∀ z, z < 79 → z ∉ zXc → z ≠ 78 → M' z = M z) (e78 : M' 78 = upd (M 78) i (M 78 i + 1)) : zQx (zqR q i) M' := by
  have h1 : zQx q (zupA M' 78 (M 78)) := zQx_off h (fun z h1 h2 => by
    by_cases hz : z = 78
    · rw [hz, zupA_eq]
    · rw [zupA_ne hz, e z h1 h2 hz])
  obtain ⟨ho, hS, hI, hT, hF, hR, hC⟩ := h1
  have hR0 : ∀ z, z < 3 → M 78 z = tR q z := fun z hz => by
    have := hR z hz
    rwa [zupA_eq] at this
  unfold zSx zLx zHx zWx at hS
  unfold zHx zWx at hI
  unfold zmade at hC
  simp (disch := omega) only [zupA_ne] at hS hI hT hF hC
  refine ⟨ho, hS, hI, hT, hF, fun z hz => ?_, hC⟩
  rw [e78]
  show upd (M 78) i (M 78 i + 1) z = upd (tR q) i (tR q i + 1) z
  by_cases hzi : z = i
  · rw [hzi, upd_eq, upd_eq, hR0 i hi]
  · rw [upd_ne hzi, upd_ne hzi, hR0 z hz]
theorem zQm_ref {q : zSt} {M M' : zM} (h : zQm q M) {i : Nat} (hi : i < 3) (e : ∀ z, 80 ≤ z → z < 124 → z ∉ zMs → z ≠ 90 → M' z = M z) (e79 : ∀ k, k ∈ zMf → M' 79 k = M 79 k) (e90 : M' 90 = upd (M 90) i (M 90 i + 1)) : zQm (zqR q i) M' := by
  have h1 : zQm q (zupA M' 90 (M 90)) := zQm_off h (fun z h1 h2 h3 => by
    by_cases hz : z = 90
    · rw [hz, zupA_eq]
    · rw [zupA_ne hz, e z h1 h2 h3 hz]) (fun k hk => by rw [zupA_ne (by omega), e79 k hk])
  obtain ⟨ho, hS, hI, hT, hF, hR, hC⟩ := h1
  have hR0 : ∀ z, z < 3 → M 90 z = tR q z := fun z hz => by
    have := hR z hz
    rwa [zupA_eq] at this
  unfold zSm zLm at hS
  simp (disch := omega) only [zupA_ne] at hS hI hT hF hC
  refine ⟨ho, hS, hI, hT, hF, fun z hz => ?_, hC⟩
  rw [e90]
  show upd (M 90) i (M 90 i + 1) z = upd (tR q) i (tR q i + 1) z
  by_cases hzi : z = i
  · rw [hzi, upd_eq, upd_eq, hR0 i hi]
  · rw [upd_ne hzi, upd_ne hzi, hR0 z hz]
theorem getD_ap {α : Type} (x d : α) : ∀ (l : List α) (i : Nat), i < l.length + 1 → (l ++ [x]).getD i d = if i = l.length then x else l.getD i d
  | [], 0, _ => rfl
  | [], i + 1, h => absurd h (by simp only [List.length_nil]; omega)
  | a :: l, 0, _ => rfl
  | a :: l, i + 1, h => by
    have ih := getD_ap x d l i (by simp only [List.length_cons] at h; omega)
    show (l ++ [x]).getD i d = if i + 1 = l.length + 1 then x else l.getD i d
    rw [ih]
    by_cases e : i = l.length
    · rw [if_pos e, if_pos (by omega)]
    · rw [if_neg e, if_neg (by omega)]
/-- see -/
theorem op_see (q : zSt) (ho : zok q) (hC : tC q < 600) (a b : Int32) : zOp 1 (F_X11_see 0 a b) (F_X12_see 79 a b) zNSE zIAE q := by
  have hn := qo_n ho
  have hV := ho.2.2.1.2.2.2
  have hY : ∀ M, F_X12_see 79 a b M = F_X12_see 79 a b (zup M 79 0 0) := fun M => by unfold F_X12_see; rw [zup_idem]
  rcases zci hn a with ⟨j, hj, rfl⟩ | ha
  · rcases zci hn b with ⟨k, hk, rfl⟩ | hb
    · by_cases h8 : (tV q).length < 8
      · have hkk : zHok (tS q) (tW q) (tA q) (tV q ++ [(j, k)]) := ⟨ho.2.2.1.1, ho.2.2.1.2.1, ho.2.2.1.2.2.1, by rw [List.length_append]; show (tV q).length + 1 ≤ 8; omega, fun z hz => by
          rcases List.mem_append.mp hz with hz | hz
          · exact hV.2 z hz
          · rw [List.mem_singleton.mp hz]
            exact ⟨hj, hk⟩⟩
        have hl : (tV q ++ [(j, k)]).length = (tV q).length + 1 := List.length_append
        have hv : ∀ i, i < (tV q).length + 1 → (tV q ++ [(j, k)]).getD i (0, 0) = if i = (tV q).length then (j, k) else (tV q).getD i (0, 0) := getD_ap (j, k) (0, 0) (tV q)
        refine zop_self hY ⟨zqA q (tW q) (tA q) (tV q ++ [(j, k)]), nI ((tV q).length + 1), Nat.le_refl _, fun M h => ?_, fun M h h0 => ?_⟩
        · obtain ⟨hW, e0, hA, e1, hVx⟩ := qx_H h
          unfold F_X11_see F_X3_addSeen
          rw [px_isle_in (sx_n (qx_S h)) hn hj, zbV_V, px_name_in (sx_n (qx_S h)) hn hk, zbV_V]
          simp (disch := omega) only [zbI_I, zbI_E, zbV_V, zbV_E, zbJ_J, zbH_I, zbH_E, zlt_eq, zltL_eq, zst_eq, zjo_eq, zck_t, zbo_0, zbo_1, zbo_n0, zbo_n1, c_lt_t, c_lt_f, c_le_t, c_le_f, c_eq_t, c_eq_f, c_T, c_F, d_ltpn, d_ltnp, d_ltnn_t, d_ltnn_f, d_lepn, d_lenp, d_eqpn, d_eqnp, d_eqnn_t, d_eqnn_f, li_8, gr_0_7, gr_49_6, gr_49_7, zup_ne, zup_row, upd_ne, e1, zin_k, zix_k, nI_1, upd_eq]
          refine ⟨_, rfl, zQx_act h hC hkk (fun i h1 h2 h3 => ?_) ?_ ?_ ?_, fun i hi => ?_⟩
          · rw [zup_ne (fun e => h3 (by rw [e]; decide)), zup_ne (fun e => h3 (by rw [e]; decide)), zup_ne (fun e => h3 (by rw [e]; decide)), zup_ne (fun e => h3 (by rw [e]; decide))]
          · simp (disch := omega) only [zup_ne, zup_row, upd_ne]
          · simp (disch := omega) only [zup_ne, zup_row, upd_eq]
          · unfold zHx zWx zVx
            simp (disch := omega) only [zup_ne, zup_row, upd_ne, upd_eq]
            refine ⟨hW, e0, hA, by rw [hl], fun i hi => ?_⟩
            rw [hl] at hi
            rw [hv i hi]
            by_cases hz : i = (tV q).length
            · rw [if_pos hz, hz, upd_eq, upd_eq]
              exact ⟨rfl, rfl⟩
            · rw [if_neg hz, upd_ne hz, upd_ne hz]
              exact hVx i (by omega)
          · rw [zup_ne (by omega), zup_ne (by omega), zup_ne (by omega), zup_ne (by omega)]
        · obtain ⟨hW, e0, hA, e1, hVm⟩ := qm_H h
          unfold F_X12_see
          rw [zst_eq, zup_same h0, pm_one_in h0 (sm_n (qm_S h)) hn hj, zbI_I]
          simp only [zjo_eq]
          rw [zit_f (by decide), pm_one_in h0 (sm_n (qm_S h)) hn hk, zbI_I, zit_f (by decide)]
          simp (disch := omega) only [zbI_I, zbI_E, zbV_V, zbV_E, zbJ_J, zbH_I, zbH_E, zlt_eq, zltL_eq, zst_eq, zjo_eq, zck_t, zbo_0, zbo_1, zbo_n0, zbo_n1, c_lt_t, c_lt_f, c_le_t, c_le_f, c_eq_t, c_eq_f, c_T, c_F, d_ltpn, d_ltnp, d_ltnn_t, d_ltnn_f, d_lepn, d_lenp, d_eqpn, d_eqnp, d_eqnn_t, d_eqnn_f, li_8, li_2, li_1, gr_79_65, zup_ne, zup_row, upd_ne, e1, pk_mul, nI_add, zin_k, zix_k, upd_eq]
          refine ⟨_, rfl, ?_, zQm_act h hC hkk (fun i h1 h2 h3 h4 => ?_) (fun z h1 h2 h3 => ?_) ?_, fun i hi => ?_⟩
          · simp (disch := omega) only [zup_ne, zup_row, upd_ne]
            exact h0
          · rw [zup_ne (by omega), zup_ne (fun e => h4 (by rw [e]; decide)), zup_ne (fun e => h4 (by rw [e]; decide))]
          · rw [zup_row, upd_ne h3, zup_ne (by omega), zup_ne (by omega)]
          · unfold zHm zVm
            simp (disch := omega) only [zup_ne, zup_row, upd_ne, upd_eq]
            refine ⟨hW, e0, hA, by rw [hl], fun i hi => ?_⟩
            rw [hl] at hi
            rw [hv i hi]
            by_cases hz : i = (tV q).length
            · rw [if_pos hz, hz]
              simp (disch := omega) only [upd_ne, upd_eq]
              trivial
            · rw [if_neg hz]
              simp (disch := omega) only [upd_ne]
              exact hVm i (by omega)
          · rw [zup_ne (by omega), zup_ne (by omega), zup_ne (by omega)]
      · have h88 : (tV q).length = 8 := by have := hV.1; omega
        refine zop_self hY ⟨zqR q 2, -1, Nat.le_succ _, fun M h => ?_, fun M h h0 => ?_⟩
        · obtain ⟨hW, e0, hA, e1, hVx⟩ := qx_H h
          rw [h88] at e1
          unfold F_X11_see
          rw [px_isle_in (sx_n (qx_S h)) hn hj, zbV_V, px_name_in (sx_n (qx_S h)) hn hk, zbV_V]
          simp (disch := omega) only [zbI_I, zbI_E, zbV_V, zbV_E, zbJ_J, zbH_I, zbH_E, zlt_eq, zltL_eq, zst_eq, zjo_eq, zck_t, zbo_0, zbo_1, zbo_n0, zbo_n1, c_lt_t, c_lt_f, c_le_t, c_le_f, c_eq_t, c_eq_f, c_T, c_F, d_ltpn, d_ltnp, d_ltnn_t, d_ltnn_f, d_lepn, d_lenp, d_eqpn, d_eqnp, d_eqnn_t, d_eqnn_f, li_8, li_2, gr_0_7, gr_0_13, e1, zin_k, zix_k]
          refine ⟨_, rfl, zQx_ref h (by omega) (fun z h1 h2 h3 => zup_ne h3) ?_, fun i hi => zup_ne (by omega)⟩
          rw [zup_row]
        · obtain ⟨hW, e0, hA, e1, hVm⟩ := qm_H h
          rw [h88] at e1
          unfold F_X12_see F_X12_refuses
          rw [zst_eq, zup_same h0, pm_one_in h0 (sm_n (qm_S h)) hn hj, zbI_I]
          simp only [zjo_eq]
          rw [zit_f (by decide), pm_one_in h0 (sm_n (qm_S h)) hn hk, zbI_I, zit_f (by decide)]
          simp (disch := omega) only [zbI_I, zbI_E, zbV_V, zbV_E, zbJ_J, zbH_I, zbH_E, zlt_eq, zltL_eq, zst_eq, zjo_eq, zck_t, zbo_0, zbo_1, zbo_n0, zbo_n1, c_lt_t, c_lt_f, c_le_t, c_le_f, c_eq_t, c_eq_f, c_T, c_F, d_ltpn, d_ltnp, d_ltnn_t, d_ltnn_f, d_lepn, d_lenp, d_eqpn, d_eqnp, d_eqnn_t, d_eqnn_f, li_8, li_2, gr_79_18, e1, zin_k, zix_k]
          refine ⟨_, rfl, ?_, zQm_ref h (by omega) (fun z h1 h2 h3 h4 => zup_ne h4) (fun k hk => by rw [zup_ne (by omega)]) ?_, fun i hi => zup_ne (by omega)⟩
          · rw [zup_ne (by omega), h0]
          · rw [zup_row]
    · refine zop_rf hY 1 (Or.inl rfl) (by omega) (fun M h => ?_) (fun M h h0 => ⟨0, ?_⟩)
      · unfold F_X11_see
        rw [px_isle_in (sx_n (qx_S h)) hn hj, zbV_V, px_name_out (sx_n (qx_S h)) hb, zbV_E]
        rfl
      · unfold F_X12_see
        rw [zst_eq, zup_same h0, pm_one_in h0 (sm_n (qm_S h)) hn hj, zbI_I]
        simp only [zjo_eq]
        rw [zit_f (by decide), pm_one_out h0 (sm_n (qm_S h)) hb, zbI_I]
        rfl
  · refine zop_rf hY 1 (Or.inl rfl) (by omega) (fun M h => ?_) (fun M h h0 => ⟨0, ?_⟩)
    · unfold F_X11_see
      rw [px_isle_out (sx_n (qx_S h)) ha, zbV_E]
      rfl
    · unfold F_X12_see
      rw [zst_eq, zup_same h0, pm_one_out h0 (sm_n (qm_S h)) ha, zbI_I]
      rfl
