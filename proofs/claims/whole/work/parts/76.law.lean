/-! THE LAW, on both sides -/
theorem wk_x (j : Nat) (h1 : 1 ≤ j) (h2 : j ≤ 8) (a b : Int32) (M : zM) : F_X0_combine (-nI (10 + j)) a b M = zI (zwk j a b) M := by
  have : j = 1 ∨ j = 2 ∨ j = 3 ∨ j = 4 ∨ j = 5 ∨ j = 6 ∨ j = 7 ∨ j = 8 := by omega
  unfold F_X0_combine
  simp only [zjo_eq]
  rcases this with rfl | rfl | rfl | rfl | rfl | rfl | rfl | rfl
  · rw [zit_f (by decide), zit_f (by decide), zit_f (by decide), zit_f (by decide), zit_f (by decide), zit_f (by decide), zit_t (by decide)]
    rfl
  · rw [zit_f (by decide), zit_f (by decide), zit_f (by decide), zit_f (by decide), zit_f (by decide), zit_t (by decide)]
    rfl
  · rw [zit_f (by decide), zit_f (by decide), zit_f (by decide), zit_f (by decide), zit_t (by decide)]
    rfl
  · rw [zit_f (by decide), zit_f (by decide), zit_f (by decide), zit_t (by decide)]
    show zit (b = 0) _ _ = zI (if b = 0 then 0 else a / b) M
    by_cases h : b = 0
    · rw [zit_t h, if_pos h]
    · rw [zit_f h, if_neg h, decide_eq_false h]
      rfl
  · rw [zit_f (by decide), zit_f (by decide), zit_t (by decide)]
    simp only [zit_I]
    rfl
  · rw [zit_f (by decide), zit_t (by decide)]
    simp only [zit_I]
    rfl
  · rw [zit_t (by decide)]
    simp only [zit_I]
    rfl
  · rw [zit_f (by decide), zit_f (by decide), zit_f (by decide), zit_f (by decide), zit_f (by decide), zit_f (by decide), zit_f (by decide)]
    simp only [zit_I]
    rfl
theorem wk_m (j : Nat) (h1 : 1 ≤ j) (h2 : j ≤ 8) (a b : Int32) (M : zM) : F_X12_works (nI (zco j)) a b M = zI (zwk j a b) M := by
  have : j = 1 ∨ j = 2 ∨ j = 3 ∨ j = 4 ∨ j = 5 ∨ j = 6 ∨ j = 7 ∨ j = 8 := by omega
  unfold F_X12_works
  simp only [zjo_eq]
  rcases this with rfl | rfl | rfl | rfl | rfl | rfl | rfl | rfl
  · rw [zit_f (by decide), zit_f (by decide), zit_f (by decide), zit_f (by decide), zit_t (by decide)]
    rfl
  · rw [zit_f (by decide), zit_f (by decide), zit_f (by decide), zit_f (by decide), zit_f (by decide), zit_t (by decide)]
    rfl
  · rw [zit_f (by decide), zit_f (by decide), zit_f (by decide), zit_f (by decide), zit_f (by decide), zit_f (by decide), zit_t (by decide)]
    rfl
  · rw [zit_f (by decide), zit_f (by decide), zit_f (by decide), zit_f (by decide), zit_f (by decide), zit_f (by decide), zit_f (by decide)]
    show zit (b = 0) _ _ = zI (if b = 0 then 0 else a / b) M
    by_cases h : b = 0
    · rw [zit_t h, if_pos h]
    · rw [zit_f h, if_neg h, decide_eq_false h]
      rfl
  · rw [zit_f (by decide), zit_f (by decide), zit_t (by decide)]
    simp only [zit_I]
    rfl
  · rw [zit_f (by decide), zit_f (by decide), zit_f (by decide), zit_t (by decide)]
    simp only [zit_I]
    rfl
  · rw [zit_t (by decide)]
    simp only [zit_I]
    rfl
  · rw [zit_f (by decide), zit_t (by decide)]
    simp only [zit_I]
    rfl
/-- what a good step is -/
theorem zdp_cases {s : Nat × Nat} {d e : Nat} (h : zdp s d = some e) : (s.1 = 0 ∧ s.2 ≤ 9999 ∧ d < 40 ∧ e = d + 1) ∨ (s.1 = 1 ∧ s.2 < 7 ∧ d < 40 ∧ e = d + 1) ∨ (s.1 ≠ 0 ∧ s.1 ≠ 1 ∧ s.2 = 0 ∧ 1 ≤ d ∧ d = e) ∨ (s.1 ≠ 0 ∧ s.1 ≠ 1 ∧ 1 ≤ s.2 ∧ s.2 ≤ 8 ∧ 2 ≤ d ∧ e = d - 1) := by
  unfold zdp at h
  by_cases h0 : s.1 = 0
  · rw [if_pos h0] at h
    by_cases h1 : s.2 ≤ 9999 ∧ d < 40
    · rw [if_pos h1] at h
      exact Or.inl ⟨h0, h1.1, h1.2, (Option.some.inj h).symm⟩
    · rw [if_neg h1] at h
      cases h
  · rw [if_neg h0] at h
    by_cases h1 : s.1 = 1
    · rw [if_pos h1] at h
      by_cases h2 : s.2 < 7 ∧ d < 40
      · rw [if_pos h2] at h
        exact Or.inr (Or.inl ⟨h1, h2.1, h2.2, (Option.some.inj h).symm⟩)
      · rw [if_neg h2] at h
        cases h
    · rw [if_neg h1] at h
      by_cases h2 : s.2 = 0
      · rw [if_pos h2] at h
        by_cases h3 : 1 ≤ d
        · rw [if_pos h3] at h
          exact Or.inr (Or.inr (Or.inl ⟨h0, h1, h2, h3, Option.some.inj h⟩))
        · rw [if_neg h3] at h
          cases h
      · rw [if_neg h2] at h
        by_cases h3 : s.2 ≤ 8 ∧ 2 ≤ d
        · rw [if_pos h3] at h
          exact Or.inr (Or.inr (Or.inr ⟨h0, h1, by omega, h3.1, h3.2, (Option.some.inj h).symm⟩))
        · rw [if_neg h3] at h
          cases h
theorem zdep_cons {s : Nat × Nat} {r : List (Nat × Nat)} {d e : Nat} (h : zdep (s :: r) d = some e) : ∃ c, zdp s d = some c ∧ zdep r c = some e := by
  unfold zdep at h
  cases hc : zdp s d with
  | none => rw [hc] at h; cases h
  | some c => rw [hc] at h; exact ⟨c, rfl, h⟩
theorem zrun_dep {v : Nat → Int32} : ∀ (r : List (Nat × Nat)) (d e : Nat) (f : Nat → Int32), zdep r d = some e → (zrun v r d f).1 = e
  | [], d, e, f, h => Option.some.inj h
  | s :: r, d, e, f, h => by
    obtain ⟨c, h1, h2⟩ := zdep_cons h
    unfold zrun
    refine zrun_dep r _ e _ ?_
    rw [← h2]
    congr 1
    unfold zsp
    rcases zdp_cases h1 with ⟨q, -, -, rfl⟩ | ⟨q, -, -, rfl⟩ | ⟨q0, q, q2, -, rfl⟩ | ⟨q0, q, q2, -, -, rfl⟩
    · rw [if_pos q]
    · rw [if_neg (by omega), if_pos q]
    · rw [if_neg q0, if_neg q, if_pos q2]
    · rw [if_neg q0, if_neg q, if_neg (by omega)]
theorem zrun_cg {v : Nat → Int32} : ∀ (r : List (Nat × Nat)) (d e : Nat) (f g : Nat → Int32), zdep r d = some e → (∀ j, j < d → f j = g j) → ∀ j, j < e → (zrun v r d f).2 j = (zrun v r d g).2 j
  | [], d, e, f, g, h, hfg, j, hj => by
    have : d = e := Option.some.inj h
    exact hfg j (by omega)
  | s :: r, d, e, f, g, h, hfg, j, hj => by
    obtain ⟨c, h1, h2⟩ := zdep_cons h
    unfold zrun
    have e1 : (zsp v s d f).1 = c ∧ (zsp v s d g).1 = c ∧ ∀ i, i < c → (zsp v s d f).2 i = (zsp v s d g).2 i := by
      unfold zsp
      rcases zdp_cases h1 with ⟨q, -, -, rfl⟩ | ⟨q, -, -, rfl⟩ | ⟨q0, q, q2, q3, rfl⟩ | ⟨q0, q, q2, -, q3, rfl⟩
      · rw [if_pos q, if_pos q]
        refine ⟨rfl, rfl, fun i hi => ?_⟩
        show upd f d _ i = upd g d _ i
        by_cases hd : i = d
        · rw [hd, upd_eq, upd_eq]
        · rw [upd_ne hd, upd_ne hd, hfg i (by omega)]
      · rw [if_neg (by omega), if_pos q, if_neg (by omega), if_pos q]
        refine ⟨rfl, rfl, fun i hi => ?_⟩
        show upd f d _ i = upd g d _ i
        by_cases hd : i = d
        · rw [hd, upd_eq, upd_eq]
        · rw [upd_ne hd, upd_ne hd, hfg i (by omega)]
      · rw [if_neg q0, if_neg q, if_pos q2, if_neg q0, if_neg q, if_pos q2]
        refine ⟨rfl, rfl, fun i hi => ?_⟩
        show upd f _ _ i = upd g _ _ i
        rw [hfg (d - 1) (by omega)]
        by_cases hd : i = d - 1
        · rw [hd, upd_eq, upd_eq]
        · rw [upd_ne hd, upd_ne hd, hfg i (by omega)]
      · rw [if_neg q0, if_neg q, if_neg (by omega), if_neg q0, if_neg q, if_neg (by omega)]
        refine ⟨rfl, rfl, fun i hi => ?_⟩
        show upd f _ _ i = upd g _ _ i
        rw [hfg (d - 1) (by omega), hfg (d - 2) (by omega)]
        by_cases hd : i = d - 2
        · rw [hd, upd_eq, upd_eq]
        · rw [upd_ne hd, upd_ne hd, hfg i (by omega)]
    rw [e1.1, e1.2.1]
    exact zrun_cg r c e _ _ h2 e1.2.2 j hj
/-- the class's loop -/
theorem lw_x (K : Int32 → zM → zO) (M : zM) (v : Nat → Int32) (hv : ∀ k, k < 7 → M 10 k = v k) : ∀ (r : List (Nat × Nat)) (i d e : Nat) (f : Nat → Int32) (n : Nat), M 9 3 = nI (i + r.length) → i + r.length ≤ 700 → zxt (M 11) i r → zdep r d = some e → d ≤ 40 → r.length < n →
    F_X0_holds_L4 9 K n (nI d) (nI i) (zupA M 12 f) = K (nI (zrun v r d f).1) (zupA M 12 (zrun v r d f).2) := by
  intro r
  induction r with
  | nil =>
    intro i d e f n h3 h7 hx hd hd4 hn
    obtain ⟨n, rfl⟩ : ∃ m, n = m + 1 := ⟨n - 1, by simp only [List.length_nil] at hn; omega⟩
    simp only [List.length_nil, Nat.add_zero] at h3 h7
    rw [F_X0_holds_L4]
    simp (disch := omega) only [zup_upA, zupA_A, zup_ne, zup_row, zupA_ne, zupA_eq, upd_eq, upd_ne, h3, c_lt_t, c_lt_f, c_le_t, c_le_f, c_eq_t, c_eq_f, c_T, c_F, d_ltpn, d_ltnp, d_ltnn_t, d_ltnn_f, d_lepn, d_lenp, d_eqpn, d_eqnp, d_eqnn_t, d_eqnn_f]
    rfl
  | cons s r ih0 =>
    intro i d e f n h3 h7 hx hd hd4 hn
    obtain ⟨n, rfl⟩ : ∃ m, n = m + 1 := ⟨n - 1, by omega⟩
    simp only [List.length_cons] at h3 h7 hn
    obtain ⟨c, h1, h2⟩ := zdep_cons hd
    obtain ⟨hx1, hx2⟩ := hx
    have ih := ih0 (i + 1) c e (zsp v s d f).2 n (by rw [h3]; congr 1; omega) (by omega) hx2 h2
    unfold zrun
    rw [F_X0_holds_L4]
    unfold zcx at hx1
    unfold zsp at ih ⊢
    rcases zdp_cases h1 with ⟨q, q1, q2, rfl⟩ | ⟨q, q1, q2, rfl⟩ | ⟨q0, q, q2, q3, rfl⟩ | ⟨q0, q, q2, q4, q3, rfl⟩
    · rw [if_pos q] at hx1 ih ⊢
      simp (disch := omega) only [zbI_I, zbI_E, zbV_V, zbV_E, zbJ_J, zbH_I, zbH_E, zlt_eq, zltL_eq, zst_eq, zjo_eq, zck_t, zbo_0, zbo_1, zbo_n0, zbo_n1, li_0, li_1, li_2, li_3, li_4, li_5, li_6, li_7, li_8, li_9, li_10, li_11, li_12, li_13, li_14, li_15, li_16, li_17, li_18, li_19, li_20, li_21, li_22, li_23, li_24, li_25, li_26, li_27, li_28, li_29, li_30, li_31, li_32, li_36, li_39, li_40, li_45, li_46, li_48, li_50, li_57, li_60, li_63, li_64, li_72, li_73, li_90, li_96, li_97, li_99, li_100, li_120, li_122, li_200, li_255, li_256, li_257, li_258, li_259, li_700, li_720, li_950, li_1900, li_2920, li_9999, li_4096, li_12345, li_32767, c_lt_t, c_lt_f, c_le_t, c_le_f, c_eq_t, c_eq_f, c_T, c_F, d_ltpn, d_ltnp, d_ltnn_t, d_ltnn_f, d_lepn, d_lenp, d_eqpn, d_eqnp, d_eqnn_t, d_eqnn_f, zin_k, zix_k, nI_add, pk_mul, s_sub, s_addn, nn_nn, z_abs, zup_upA, zupA_A, zup_ne, zup_row, zupA_ne, zupA_eq, upd_eq, upd_ne, gr_9_0, gr_9_1, gr_9_2, h3, hx1]
      exact ih (by omega) (by omega)
    · rw [if_neg (by omega), if_pos q] at hx1 ih ⊢
      simp (disch := omega) only [zbI_I, zbI_E, zbV_V, zbV_E, zbJ_J, zbH_I, zbH_E, zlt_eq, zltL_eq, zst_eq, zjo_eq, zck_t, zbo_0, zbo_1, zbo_n0, zbo_n1, li_0, li_1, li_2, li_3, li_4, li_5, li_6, li_7, li_8, li_9, li_10, li_11, li_12, li_13, li_14, li_15, li_16, li_17, li_18, li_19, li_20, li_21, li_22, li_23, li_24, li_25, li_26, li_27, li_28, li_29, li_30, li_31, li_32, li_36, li_39, li_40, li_45, li_46, li_48, li_50, li_57, li_60, li_63, li_64, li_72, li_73, li_90, li_96, li_97, li_99, li_100, li_120, li_122, li_200, li_255, li_256, li_257, li_258, li_259, li_700, li_720, li_950, li_1900, li_2920, li_9999, li_4096, li_12345, li_32767, c_lt_t, c_lt_f, c_le_t, c_le_f, c_eq_t, c_eq_f, c_T, c_F, d_ltpn, d_ltnp, d_ltnn_t, d_ltnn_f, d_lepn, d_lenp, d_eqpn, d_eqnp, d_eqnn_t, d_eqnn_f, zin_k, zix_k, nI_add, pk_mul, s_sub, s_addn, nn_nn, z_abs, zup_upA, zupA_A, zup_ne, zup_row, zupA_ne, zupA_eq, upd_eq, upd_ne, gr_9_0, gr_9_1, gr_9_2, h3, hx1]
      rw [show s.2 + 1 - 1 = s.2 from rfl, hv s.2 q1]
      exact ih (by omega) (by omega)
    · rw [if_neg q0, if_neg q] at hx1
      rw [if_neg q0, if_neg q, if_pos q2] at ih ⊢
      by_cases hf : f (d - 1) = 0
      · rw [if_pos hf] at ih ⊢
        simp (disch := omega) only [zbI_I, zbI_E, zbV_V, zbV_E, zbJ_J, zbH_I, zbH_E, zlt_eq, zltL_eq, zst_eq, zjo_eq, zck_t, zbo_0, zbo_1, zbo_n0, zbo_n1, li_0, li_1, li_2, li_3, li_4, li_5, li_6, li_7, li_8, li_9, li_10, li_11, li_12, li_13, li_14, li_15, li_16, li_17, li_18, li_19, li_20, li_21, li_22, li_23, li_24, li_25, li_26, li_27, li_28, li_29, li_30, li_31, li_32, li_36, li_39, li_40, li_45, li_46, li_48, li_50, li_57, li_60, li_63, li_64, li_72, li_73, li_90, li_96, li_97, li_99, li_100, li_120, li_122, li_200, li_255, li_256, li_257, li_258, li_259, li_700, li_720, li_950, li_1900, li_2920, li_9999, li_4096, li_12345, li_32767, c_lt_t, c_lt_f, c_le_t, c_le_f, c_eq_t, c_eq_f, c_T, c_F, d_ltpn, d_ltnp, d_ltnn_t, d_ltnn_f, d_lepn, d_lenp, d_eqpn, d_eqnp, d_eqnn_t, d_eqnn_f, zin_k, zix_k, nI_add, pk_mul, s_sub, s_addn, nn_nn, z_abs, zup_upA, zupA_A, zup_ne, zup_row, zupA_ne, zupA_eq, upd_eq, upd_ne, gr_9_0, gr_9_1, gr_9_2, h3, hx1]
        rw [zit_t (show f (d - 1) = nI 0 from hf)]
        exact ih (by omega) (by omega)
      · rw [if_neg hf] at ih ⊢
        simp (disch := omega) only [zbI_I, zbI_E, zbV_V, zbV_E, zbJ_J, zbH_I, zbH_E, zlt_eq, zltL_eq, zst_eq, zjo_eq, zck_t, zbo_0, zbo_1, zbo_n0, zbo_n1, li_0, li_1, li_2, li_3, li_4, li_5, li_6, li_7, li_8, li_9, li_10, li_11, li_12, li_13, li_14, li_15, li_16, li_17, li_18, li_19, li_20, li_21, li_22, li_23, li_24, li_25, li_26, li_27, li_28, li_29, li_30, li_31, li_32, li_36, li_39, li_40, li_45, li_46, li_48, li_50, li_57, li_60, li_63, li_64, li_72, li_73, li_90, li_96, li_97, li_99, li_100, li_120, li_122, li_200, li_255, li_256, li_257, li_258, li_259, li_700, li_720, li_950, li_1900, li_2920, li_9999, li_4096, li_12345, li_32767, c_lt_t, c_lt_f, c_le_t, c_le_f, c_eq_t, c_eq_f, c_T, c_F, d_ltpn, d_ltnp, d_ltnn_t, d_ltnn_f, d_lepn, d_lenp, d_eqpn, d_eqnp, d_eqnn_t, d_eqnn_f, zin_k, zix_k, nI_add, pk_mul, s_sub, s_addn, nn_nn, z_abs, zup_upA, zupA_A, zup_ne, zup_row, zupA_ne, zupA_eq, upd_eq, upd_ne, gr_9_0, gr_9_1, gr_9_2, h3, hx1]
        rw [zit_f (show ¬ f (d - 1) = nI 0 from hf)]
        exact ih (by omega) (by omega)
    · rw [if_neg q0, if_neg q] at hx1
      rw [if_neg q0, if_neg q, if_neg (by omega)] at ih ⊢
      simp (disch := omega) only [zbI_I, zbI_E, zbV_V, zbV_E, zbJ_J, zbH_I, zbH_E, zlt_eq, zltL_eq, zst_eq, zjo_eq, zck_t, zbo_0, zbo_1, zbo_n0, zbo_n1, li_0, li_1, li_2, li_3, li_4, li_5, li_6, li_7, li_8, li_9, li_10, li_11, li_12, li_13, li_14, li_15, li_16, li_17, li_18, li_19, li_20, li_21, li_22, li_23, li_24, li_25, li_26, li_27, li_28, li_29, li_30, li_31, li_32, li_36, li_39, li_40, li_45, li_46, li_48, li_50, li_57, li_60, li_63, li_64, li_72, li_73, li_90, li_96, li_97, li_99, li_100, li_120, li_122, li_200, li_255, li_256, li_257, li_258, li_259, li_700, li_720, li_950, li_1900, li_2920, li_9999, li_4096, li_12345, li_32767, c_lt_t, c_lt_f, c_le_t, c_le_f, c_eq_t, c_eq_f, c_T, c_F, d_ltpn, d_ltnp, d_ltnn_t, d_ltnn_f, d_lepn, d_lenp, d_eqpn, d_eqnp, d_eqnn_t, d_eqnn_f, zin_k, zix_k, nI_add, pk_mul, s_sub, s_addn, nn_nn, z_abs, zup_upA, zupA_A, zup_ne, zup_row, zupA_ne, zupA_eq, upd_eq, upd_ne, gr_9_0, gr_9_1, gr_9_2, h3, hx1, wk_x s.2 q2 q4]
      rw [show d - 1 - 1 = d - 2 from rfl]
      exact ih (by omega) (by omega)
/-- the reference's loop -/
theorem zcl_pos : ∀ r : List (Nat × Nat), 1 ≤ zcl r
  | [] => Nat.le_refl _
  | s :: r => by
    have := zcl_pos r
    unfold zcl
    omega
theorem zco_ge (j : Nat) : 3 ≤ zco j ∧ zco j ≤ 11 ∧ (j = 0 → zco j = 3) ∧ (j ≠ 0 → zco j ≠ 3) := by
  unfold zco
  repeat' split
  all_goals omega
section ZLM
variable {K : zM → zO} {M : zM} {p d n : Nat} {f : Nat → Int32}
theorem st_m0 (hp : p + 1 < 1900) (hd : d < 40) {v : Nat} (x1 : M 88 p = nI 1) (x2 : M 88 (p + 1) = nI v) : F_X12_reckons_L7 79 K (n + 1) (nI d) (nI p) (zupA M 106 f) = F_X12_reckons_L7 79 K n (nI (d + 1)) (nI (p + 1 + 1)) (zupA M 106 (upd f d (nI v))) := by
  rw [F_X12_reckons_L7]
  simp (disch := omega) only [zlt_eq, zst_eq, zjo_eq, zck_t, zin_k, zix_k, zupA_ne, zup_upA, gr_79_13, gr_79_52, x1, x2, li_0, li_1, c_eq_t, c_eq_f, c_T, nI_add]
theorem st_m1 (hp : p + 1 < 1900) (hd : d < 40) {v : Nat} (hv : v < 7) (x1 : M 88 p = nI 2) (x2 : M 88 (p + 1) = nI v) : F_X12_reckons_L7 79 K (n + 1) (nI d) (nI p) (zupA M 106 f) = F_X12_reckons_L7 79 K n (nI (d + 1)) (nI (p + 1 + 1)) (zupA M 106 (upd f d (M 105 v))) := by
  rw [F_X12_reckons_L7]
  simp (disch := omega) only [zlt_eq, zst_eq, zjo_eq, zck_t, zin_k, zix_k, zupA_ne, zup_upA, gr_79_13, gr_79_51, gr_79_52, x1, x2, li_0, li_1, li_2, c_eq_t, c_eq_f, c_T, nI_add]
theorem st_m2 (hp : p < 1900) (hd : 1 ≤ d) (hd4 : d ≤ 40) (x1 : M 88 p = nI 3) : F_X12_reckons_L7 79 K (n + 1) (nI d) (nI p) (zupA M 106 f) = F_X12_reckons_L7 79 K n (nI d) (nI (p + 1)) (zupA M 106 (upd f (d - 1) (if f (d - 1) = 0 then 1 else 0))) := by
  rw [F_X12_reckons_L7]
  by_cases hf : f (d - 1) = 0
  · rw [if_pos hf]
    simp (disch := omega) only [zlt_eq, zst_eq, zjo_eq, zck_t, zin_k, zix_k, zupA_ne, zupA_eq, zup_upA, gr_79_13, gr_79_52, x1, li_0, li_1, li_2, li_3, c_eq_t, c_eq_f, c_T, nI_add, s_sub]
    rw [zit_t (show f (d - 1) = nI 0 from hf)]
  · rw [if_neg hf]
    simp (disch := omega) only [zlt_eq, zst_eq, zjo_eq, zck_t, zin_k, zix_k, zupA_ne, zupA_eq, zup_upA, gr_79_13, gr_79_52, x1, li_0, li_1, li_2, li_3, c_eq_t, c_eq_f, c_T, nI_add, s_sub]
    rw [zit_f (show ¬ f (d - 1) = nI 0 from hf)]
theorem st_m3 (hp : p < 1900) (hd : 2 ≤ d) (hd4 : d ≤ 40) {j : Nat} (h1 : 1 ≤ j) (h2 : j ≤ 8) (x1 : M 88 p = nI (zco j)) : F_X12_reckons_L7 79 K (n + 1) (nI d) (nI p) (zupA M 106 f) = F_X12_reckons_L7 79 K n (nI (d - 1)) (nI (p + 1)) (zupA M 106 (upd f (d - 2) (zwk j (f (d - 2)) (f (d - 1))))) := by
  obtain ⟨g1, g2, -, g3⟩ := zco_ge j
  have g4 := g3 (by omega)
  rw [F_X12_reckons_L7]
  simp (disch := omega) only [zlt_eq, zst_eq, zjo_eq, zck_t, zin_k, zix_k, zupA_ne, zupA_eq, zup_upA, gr_79_13, gr_79_52, x1, li_0, li_1, li_2, li_3, c_eq_t, c_eq_f, c_T, nI_add, s_sub, s_addn, wk_m j h1 h2, zbI_I]
  rfl
end ZLM
theorem lw_m (K : zM → zO) (M : zM) (v : Nat → Int32) (hv : ∀ k, k < 7 → M 105 k = v k) : ∀ (r : List (Nat × Nat)) (p d e : Nat) (f : Nat → Int32) (n : Nat), p + zcl r ≤ 1900 → zat (M 88) p r → zdep r d = some e → d ≤ 40 → r.length < n →
    F_X12_reckons_L7 79 K n (nI d) (nI p) (zupA M 106 f) = K (zupA M 106 (zrun v r d f).2) := by
  intro r
  induction r with
  | nil =>
    intro p d e f n h7 hx hd hd4 hn
    obtain ⟨n, rfl⟩ : ∃ m, n = m + 1 := ⟨n - 1, by simp only [List.length_nil] at hn; omega⟩
    unfold zcl at h7
    unfold zat at hx
    rw [F_X12_reckons_L7]
    simp (disch := omega) only [zck_t, zin_k, zix_k, zupA_ne, gr_79_13, hx, c_T]
    rfl
  | cons s r ih0 =>
    intro p d e f n h7 hx hd hd4 hn
    obtain ⟨n, rfl⟩ : ∃ m, n = m + 1 := ⟨n - 1, by omega⟩
    simp only [List.length_cons] at hn
    obtain ⟨c, h1, h2⟩ := zdep_cons hd
    have hp := zcl_pos r
    unfold zcl at h7
    unfold zat at hx
    unfold zrun
    have ih : ∀ p', p' + zcl r ≤ 1900 → zat (M 88) p' r → c ≤ 40 → F_X12_reckons_L7 79 K n (nI c) (nI p') (zupA M 106 (zsp v s d f).2) = K (zupA M 106 (zrun v r c (zsp v s d f).2).2) := fun p' h7' hx' hd' => ih0 p' c e (zsp v s d f).2 n h7' hx' h2 hd' (by omega)
    unfold zsp at ih ⊢
    rcases zdp_cases h1 with ⟨q, q1, q2, rfl⟩ | ⟨q, q1, q2, rfl⟩ | ⟨q0, q, q2, q3, rfl⟩ | ⟨q0, q, q2, q4, q3, rfl⟩
    · rw [if_pos q] at h7 hx ih ⊢
      obtain ⟨x1, x2, x3⟩ := hx
      rw [st_m0 (by omega) q2 x1 x2]
      exact ih (p + 1 + 1) (by omega) x3 (by omega)
    · rw [if_neg (by omega), if_pos q] at h7 hx ih ⊢
      obtain ⟨x1, x2, x3⟩ := hx
      rw [st_m1 (by omega) q2 q1 x1 x2, hv s.2 q1]
      exact ih (p + 1 + 1) (by omega) x3 (by omega)
    · rw [if_neg q0, if_neg q] at h7 hx
      rw [if_neg q0, if_neg q, if_pos q2] at ih ⊢
      obtain ⟨x1, x3⟩ := hx
      rw [(zco_ge s.2).2.2.1 q2] at x1
      rw [st_m2 (by omega) q3 hd4 x1]
      exact ih (p + 1) (by omega) x3 (by omega)
    · rw [if_neg q0, if_neg q] at h7 hx
      rw [if_neg q0, if_neg q, if_neg (by omega)] at ih ⊢
      obtain ⟨x1, x3⟩ := hx
      rw [st_m3 (by omega) q3 hd4 q2 q4 x1]
      exact ih (p + 1) (by omega) x3 (by omega)
