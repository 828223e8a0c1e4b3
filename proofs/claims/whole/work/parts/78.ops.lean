/-! CALLS: how both sides' answers are told -/
abbrev zNSE : String := "java/util/NoSuchElementException"
abbrev zIAE : String := "java/lang/IllegalArgumentException"
def zOp (mx : Nat) (X Y : zM → zO) (E1 E2 : String) (q : zSt) : Prop := ∃ q' code r, code ≤ mx ∧ tC q' ≤ tC q + 1 ∧ zOx zQx X q q' E1 E2 code r ∧ zOm zQm Y q q' code r
section ZQF
variable {q : zSt} {M : zM}
theorem qo_S (h : zok q) : zSok (tS q) := h.1
theorem qo_L (h : zok q) : zLok (tL q) := h.2.1
theorem qo_W (h : zok q) : zWok (tS q) (tW q) := h.2.2.1.1
theorem qo_n (h : zok q) : tS q 0 0 ≤ 8 := h.1.1
theorem qx_o (h : zQx q M) : zok q := h.1
theorem qx_S (h : zQx q M) : zSx (tS q) M := h.2.1.1
theorem qx_L (h : zQx q M) : zLx (tL q) M := h.2.1.2.1
theorem qx_H (h : zQx q M) : zHx (tS q) 40 49 M (tW q) (tA q) (tV q) := h.2.1.2.2
theorem qx_W (h : zQx q M) : zWx 40 (tW q) M := h.2.1.2.2.1
theorem qm_o (h : zQm q M) : zok q := h.1
theorem qm_S (h : zQm q M) : zSm (tS q) M := h.2.1.1
theorem qm_L (h : zQm q M) : zLm (tL q) M := h.2.1.2.1
theorem qm_H (h : zQm q M) : zHm (M 102) (M 104) (M 116) (M 79 50) (M 79 64) (tW q) (tA q) (tV q) := h.2.1.2.2
theorem qm_W (h : zQm q M) : zWr (M 102) 0 (tW q) := h.2.1.2.2.1
theorem x_n (h : zQx q M) : ∀ i, i < 8 → M 41 i = nI ((tW q).1 i) := (qx_W h).1
theorem x_d (h : zQx q M) : ∀ a, a < 8 → ∀ b, b < 8 → M 42 (a * 8 + b) = (tW q).2.1 (8 * a + b) := wx_d (qx_W h)
theorem x_y (h : zQx q M) : M 40 3 = (tW q).2.2 := (qx_W h).2.2
theorem m_n (h : zQm q M) : ∀ i, i < 8 → M 102 i = nI ((tW q).1 i) := wr_n (qm_W h)
theorem m_d (h : zQm q M) : ∀ a, a < 8 → ∀ b, b < 8 → M 102 (8 + 8 * a + b) = (tW q).2.1 (8 * a + b) := wr_d (qm_W h)
theorem m_y (h : zQm q M) : M 102 72 = (tW q).2.2 := wr_y (qm_W h)
end ZQF
theorem zXc_lt : ∀ i ∈ zXc, i < 79 := by decide
theorem zMs_gt : ∀ i ∈ zMs, 79 < i ∧ i < 124 := by decide
theorem zci {n : Nat} (hn : n ≤ 8) (a : Int32) : (∃ k, k < n ∧ a = nI k) ∨ (a < 0 ∨ nI n ≤ a) := by
  by_cases h : a < 0
  · exact Or.inr (Or.inl h)
  · obtain ⟨j, hj, rfl⟩ := nI_of h
    by_cases hk : j < n
    · exact Or.inl ⟨j, hk, rfl⟩
    · exact Or.inr (Or.inr (nI_le (by omega) hj))
/-- 0 to m, or not -/
theorem zca {m : Nat} (hm : m < 2 ^ 31) (a : Int32) : (∃ k, k ≤ m ∧ a = nI k) ∨ (a < 0 ∨ nI m < a) := by
  by_cases h : a < 0
  · exact Or.inr (Or.inl h)
  · obtain ⟨j, hj, rfl⟩ := nI_of h
    by_cases hk : j ≤ m
    · exact Or.inl ⟨j, hk, rfl⟩
    · exact Or.inr (Or.inr (nI_lt (by omega) hj))
section ZIN
variable {X Y : zM → zO} {q : zSt} {E1 E2 : String} {r : Int32}
/-- answers, refusals apart -/
def zOx0 (X : zM → zO) (q q' : zSt) (r : Int32) : Prop := ∀ M, zQx q M → ∃ M1, X M = zI r M1 ∧ zQx q' M1 ∧ ∀ i, 79 ≤ i → M1 i = M i
def zOm0 (Y : zM → zO) (q q' : zSt) (r : Int32) : Prop := ∀ M, zQm q M → M 79 0 = 0 → ∃ M1, Y M = zI r M1 ∧ M1 79 0 = 0 ∧ zQm q' M1 ∧ ∀ i, (i < 79 ∨ i = 124) → M1 i = M i
def zOp0 (X Y : zM → zO) (q : zSt) : Prop := ∃ q' r, tC q' ≤ tC q + 1 ∧ zOx0 X q q' r ∧ zOm0 Y q q' r
theorem zm_thr {M : zM} {v : Int32} (hq : zQm q M) : zQm q (zup M 79 0 v) := zQm_off hq (fun i h1 h2 _ => zup_ne (by omega)) (fun k hk => by
  rw [zup_row]
  exact upd_ne (fun e => by subst e; revert hk; decide))
theorem zx_ret (h : ∀ M, zQx q M → ∃ M1, X M = zI r M1 ∧ zoff zXc M M1) : zOx0 X q q r := by
  intro M hq
  obtain ⟨M1, e, ho⟩ := h M hq
  exact ⟨M1, e, zQx_off hq (fun i _ hi => ho i hi), fun i hi => ho i (fun hz => by have := zXc_lt i hz; omega)⟩
theorem zm_ret (h : ∀ M, zQm q M → M 79 0 = 0 → ∃ M1, Y M = zI r M1 ∧ zoff zMs M M1) : zOm0 Y q q r := by
  intro M hq h0
  obtain ⟨M1, e, ho⟩ := h M hq h0
  have e79 : M1 79 = M 79 := ho 79 (by decide)
  exact ⟨M1, e, by rw [e79, h0], zQm_off hq (fun i _ _ hi => ho i hi) (fun k _ => by rw [e79]), fun i hi => ho i (fun hz => by have := zMs_gt i hz; omega)⟩
theorem zop0_ret (hX : ∀ M, zQx q M → ∃ M1, X M = zI r M1 ∧ zoff zXc M M1) (hY : ∀ M, zQm q M → M 79 0 = 0 → ∃ M1, Y M = zI r M1 ∧ zoff zMs M M1) : zOp0 X Y q := ⟨q, r, by omega, zx_ret hX, zm_ret hY⟩
/-- with what stands ahead: a body behind checks that let it through -/
theorem zop_in {mx : Nat} {kx ky : zM → zO} (hX : ∀ M, zQx q M → X M = kx M) (hY : ∀ M, zQm q (zup M 79 0 0) → zup M 79 0 0 79 0 = 0 → Y M = ky (zup M 79 0 0)) (h : zOp0 kx ky q) : zOp mx X Y E1 E2 q := by
  obtain ⟨q', r, hc, hx, hy⟩ := h
  refine ⟨q', 0, r, by omega, hc, fun M hq => ?_, fun M hq => ?_⟩
  · obtain ⟨M1, e, h1, h2⟩ := hx M hq
    exact ⟨M1, Or.inl ⟨rfl, by rw [hX M hq, e]⟩, h1, h2⟩
  · have hq0 := zm_thr (v := 0) hq
    have h0 : zup M 79 0 0 79 0 = 0 := by rw [zup_row, upd_eq]
    obtain ⟨M1, e, h1, h2, h3⟩ := hy _ hq0 h0
    exact ⟨M1, r, by rw [hY M hq0 h0, e], h1, fun _ => rfl, h2, fun i hi => by rw [h3 i hi, zup_ne (by omega)]⟩
theorem zop_ref {mx : Nat} (code : Nat) (hc : code = 1 ∨ code = 2) (hm : code ≤ mx) (hX : ∀ M, zQx q M → X M = zE (if code = 1 then E1 else E2) M) (hY : ∀ M, zQm q (zup M 79 0 0) → zup M 79 0 0 79 0 = 0 → ∃ r', Y M = zI r' (zup (zup M 79 0 0) 79 0 (nI code))) : zOp mx X Y E1 E2 q := by
  refine ⟨q, code, 0, hm, by omega, fun M hq => ⟨M, ?_, hq, fun _ _ => rfl⟩, fun M hq => ?_⟩
  · rcases hc with rfl | rfl
    · exact Or.inr (Or.inl ⟨rfl, hX M hq⟩)
    · exact Or.inr (Or.inr ⟨rfl, hX M hq⟩)
  · have hq0 := zm_thr (v := 0) hq
    obtain ⟨r', e⟩ := hY M hq0 (by rw [zup_row, upd_eq])
    exact ⟨_, r', e, by rw [zup_row, upd_eq], fun z => absurd z (by omega), zm_thr hq0, fun i hi => by rw [zup_ne (by omega), zup_ne (by omega)]⟩
end ZIN
/-- two isles -/
theorem px_two_in {n j k : Nat} {M : zM} (h : M 3 0 = nI n) (hn : n ≤ 8) (hj : j < n) (hk : k < n) (hjk : j ≠ k) : F_X11_needTwo 0 (nI j) (nI k) M = zV M := by
  unfold F_X11_needTwo
  rw [px_isle_in h hn hj, zbV_V, px_isle_in h hn hk, zbV_V, px_unlike_in (fun e => hjk ((nI_eq (by omega) (by omega)).mp e)), zbV_V]
theorem px_two_same {n j : Nat} {M : zM} (h : M 3 0 = nI n) (hn : n ≤ 8) (hj : j < n) : F_X11_needTwo 0 (nI j) (nI j) M = zE zIAE M := by
  unfold F_X11_needTwo
  rw [px_isle_in h hn hj, zbV_V, px_isle_in h hn hj, zbV_V, px_unlike_out, zbV_E]
theorem px_two_out1 {n : Nat} {a b : Int32} {M : zM} (h : M 3 0 = nI n) (ha : a < 0 ∨ nI n ≤ a) : F_X11_needTwo 0 a b M = zE zNSE M := by
  unfold F_X11_needTwo
  rw [px_isle_out h ha, zbV_E]
theorem px_two_out2 {n j : Nat} {b : Int32} {M : zM} (h : M 3 0 = nI n) (hn : n ≤ 8) (hj : j < n) (hb : b < 0 ∨ nI n ≤ b) : F_X11_needTwo 0 (nI j) b M = zE zNSE M := by
  unfold F_X11_needTwo
  rw [px_isle_in h hn hj, zbV_V, px_isle_out h hb, zbV_E]
theorem zup_same {M : zM} {a k : Nat} {v : Int32} (h : M a k = v) : zup M a k v = M := by
  funext i j
  unfold zup
  by_cases e : i = a ∧ j = k
  · rw [if_pos e, e.1, e.2, h]
  · rw [if_neg e]
theorem zup_idem {M : zM} {a k : Nat} {v : Int32} : zup (zup M a k v) a k v = zup M a k v := zup_same (by rw [zup_row, upd_eq])
theorem zop_self {mx : Nat} {X Y : zM → zO} {E1 E2 : String} {q : zSt} (hY : ∀ M, Y M = Y (zup M 79 0 0)) (h : zOp0 X Y q) : zOp mx X Y E1 E2 q := zop_in (fun _ _ => rfl) (fun M _ _ => hY M) h
theorem zop_rf {mx : Nat} {X Y : zM → zO} {E1 E2 : String} {q : zSt} (hY : ∀ M, Y M = Y (zup M 79 0 0)) (code : Nat) (hc : code = 1 ∨ code = 2) (hm : code ≤ mx) (hX : ∀ M, zQx q M → X M = zE (if code = 1 then E1 else E2) M) (h : ∀ M, zQm q M → M 79 0 = 0 → ∃ r', Y M = zI r' (zup M 79 0 (nI code))) : zOp mx X Y E1 E2 q := zop_ref code hc hm hX (fun M hq h0 => by
  rw [hY M]
  exact h _ hq h0)
theorem out_ne {b : Int32} {m k : Nat} (h : b < 0 ∨ nI m < b) (hk : k ≤ m) (hm : m < 2 ^ 31) : b ≠ nI k := fun e => by
  subst e
  rcases h with h | h
  · exact nI_pos (by omega) h
  · exact nI_nlt hk hm h
theorem out_nl {b : Int32} {m : Nat} (h : b < 0 ∨ nI m ≤ b) (h0 : ¬ b < 0) : ¬ b < nI m := fun e => Int32.lt_irrefl (Int32.lt_of_lt_of_le e (h.resolve_left h0))
/-- a call of two isles, of one -/
theorem zop_two {mx : Nat} {X Y kx : zM → zO} {ky : Int32 → zM → zO} {q : zSt} (ho : zok q) (hm : 2 ≤ mx) (a b : Int32) (hX : ∀ M, X M = zbV (F_X11_needTwo 0 a b M) kx) (hY : ∀ M, Y M = zbI (F_X12_areTwo 79 a b (zup M 79 0 0)) ky) (hk0 : ∀ M, ∃ r', ky 0 M = zI r' M)
    (h : ∀ j k, j < tS q 0 0 → k < tS q 0 0 → j ≠ k → a = nI j → b = nI k → zOp0 kx (ky 1) q) : zOp mx X Y zNSE zIAE q := by
  have hn := qo_n ho
  rcases zci hn a with ⟨j, hj, rfl⟩ | ha
  · rcases zci hn b with ⟨k, hk, rfl⟩ | hb
    · by_cases hjk : j = k
      · subst hjk
        refine zop_ref 2 (Or.inr rfl) hm (fun M hq => ?_) (fun M hq h0 => ?_)
        · rw [hX, px_two_same (sx_n (qx_S hq)) hn hj, zbV_E]
          rfl
        · rw [hY, pm_two_same h0 (sm_n (qm_S hq)) hn hj, zbI_I]
          exact hk0 _
      · refine zop_in (fun M hq => ?_) (fun M hq h0 => ?_) (h j k hj hk hjk rfl rfl)
        · rw [hX, px_two_in (sx_n (qx_S hq)) hn hj hk hjk, zbV_V]
        · rw [hY, pm_two_in h0 (sm_n (qm_S hq)) hn hj hk hjk, zbI_I]
    · refine zop_ref 1 (Or.inl rfl) (by omega) (fun M hq => ?_) (fun M hq h0 => ?_)
      · rw [hX, px_two_out2 (sx_n (qx_S hq)) hn hj hb, zbV_E]
        rfl
      · rw [hY, pm_two_out2 h0 (sm_n (qm_S hq)) hn hj hb, zbI_I]
        exact hk0 _
  · refine zop_ref 1 (Or.inl rfl) (by omega) (fun M hq => ?_) (fun M hq h0 => ?_)
    · rw [hX, px_two_out1 (sx_n (qx_S hq)) ha, zbV_E]
      rfl
    · rw [hY, pm_two_out1 h0 (sm_n (qm_S hq)) ha, zbI_I]
      exact hk0 _
theorem zop_one {mx : Nat} {X Y kx : zM → zO} {ky : Int32 → zM → zO} {q : zSt} (ho : zok q) (hm : 1 ≤ mx) (a : Int32) (hX : ∀ M, X M = zbV (F_X11_needIsle 0 a M) kx) (hY : ∀ M, Y M = zbI (F_X12_isOne 79 a (zup M 79 0 0)) ky) (hk0 : ∀ M, ∃ r', ky 0 M = zI r' M)
    (h : ∀ j, j < tS q 0 0 → a = nI j → zOp0 kx (ky 1) q) : zOp mx X Y zNSE zIAE q := by
  have hn := qo_n ho
  rcases zci hn a with ⟨j, hj, rfl⟩ | ha
  · refine zop_in (fun M hq => ?_) (fun M hq h0 => ?_) (h j hj rfl)
    · rw [hX, px_isle_in (sx_n (qx_S hq)) hn hj, zbV_V]
    · rw [hY, pm_one_in h0 (sm_n (qm_S hq)) hn hj, zbI_I]
  · refine zop_ref 1 (Or.inl rfl) (by omega) (fun M hq => ?_) (fun M hq h0 => ?_)
    · rw [hX, px_isle_out (sx_n (qx_S hq)) ha, zbV_E]
      rfl
    · rw [hY, pm_one_out h0 (sm_n (qm_S hq)) ha, zbI_I]
      exact hk0 _
/-- has -/
theorem op_has (q : zSt) (ho : zok q) (a : Int32) : zOp 1 (F_X11_has 0 a) (F_X12_has 79 a) zNSE zIAE q := by
  have hn := qo_n ho
  refine zop_one ho (by omega) a (fun _ => rfl) (fun _ => rfl) (fun M => ⟨0, rfl⟩) ?_
  rintro k hk rfl
  refine zop0_ret (r := nI ((tW q).1 k)) (fun M h => ⟨M, ?_, zoff_rfl⟩) (fun M h h0 => ⟨M, ?_, zoff_rfl⟩)
  · simp (disch := omega) only [zbI_I, zbI_E, zbV_V, zbV_E, zbJ_J, zbH_I, zbH_E, zlt_eq, zltL_eq, zst_eq, zjo_eq, zck_t, zbo_0, zbo_1, gr_0_4, gr_40_1, zin_k, zix_k, x_n h]
  · simp (disch := omega) only [zbI_I, zbI_E, zbV_V, zbV_E, zbJ_J, zbH_I, zbH_E, zlt_eq, zltL_eq, zst_eq, zjo_eq, zck_t, zbo_0, zbo_1, c_lt_t, c_lt_f, c_le_t, c_le_f, c_eq_t, c_eq_f, c_T, c_F, d_ltpn, d_ltnp, d_ltnn_t, d_ltnn_f, d_lepn, d_lenp, d_eqpn, d_eqnp, d_eqnn_t, d_eqnn_f, li_0, li_1, gr_79_47, zin_k, zix_k, m_n h]
/-- debt -/
theorem op_debt (q : zSt) (ho : zok q) (a b : Int32) : zOp 2 (F_X11_debt 0 a b) (F_X12_debt 79 a b) zNSE zIAE q := by
  have hn := qo_n ho
  refine zop_two ho (by omega) a b (fun _ => rfl) (fun _ => rfl) (fun M => ⟨0, rfl⟩) ?_
  rintro j k hj hk hjk rfl rfl
  refine zop0_ret (r := (tW q).2.1 (8 * j + k)) (fun M h => ⟨M, ?_, zoff_rfl⟩) (fun M h h0 => ⟨M, ?_, zoff_rfl⟩)
  · unfold F_X10_owes
    simp (disch := omega) only [zbI_I, zbI_E, zbV_V, zbV_E, zbJ_J, zbH_I, zbH_E, zlt_eq, zltL_eq, zst_eq, zjo_eq, zck_t, zbo_0, zbo_1, gr_0_4, gr_40_2, li_8, pk_mul, nI_add, zin_k, zix_k, x_d h]
  · simp (disch := omega) only [zbI_I, zbI_E, zbV_V, zbV_E, zbJ_J, zbH_I, zbH_E, zlt_eq, zltL_eq, zst_eq, zjo_eq, zck_t, zbo_0, zbo_1, c_lt_t, c_lt_f, c_le_t, c_le_f, c_eq_t, c_eq_f, c_T, c_F, d_ltpn, d_ltnp, d_ltnn_t, d_ltnn_f, d_lepn, d_lenp, d_eqpn, d_eqnp, d_eqnn_t, d_eqnn_f, li_0, li_1, li_8, gr_79_47, pk_mul, nI_add, zin_k, zix_k, m_d h]
/-- may -/
theorem op_may (q : zSt) (ho : zok q) (a b : Int32) : zOp 2 (F_X11_may 0 a b) (F_X12_may 79 a b) zNSE zIAE q := by
  have hn := qo_n ho
  refine zop_two ho (by omega) a b (fun _ => rfl) (fun _ => rfl) (fun M => ⟨0, rfl⟩) ?_
  rintro j k hj hk hjk rfl rfl
  refine zop0_ret (r := if zmay (tS q) (tL q) (tW q) j k = true then 1 else 0) (fun M h => ?_) (fun M h h0 => ?_)
  · simp only [gr_0_4]
    refine zx_bI (lt_x (Or.inl rfl) (qx_S h) (qo_S ho) (qo_L ho) (qx_L h) (qx_W h) (qo_W ho) hj hk) ?_
    intro M1 o1
    refine ⟨M1, ?_, zoff_mono o1 (by decide)⟩
    cases zmay (tS q) (tL q) (tW q) j k <;> rfl
  · simp only [zjo_eq, gr_79_47]
    rw [zit_f (by decide)]
    refine zx_bI (lt_m (Or.inl rfl) (qm_S h) (qo_S ho) (qo_L ho) (qm_L h) (qm_W h) (by omega) (by omega) (wo_n (qo_W ho) j hj) (wo_n (qo_W ho) k hk)) ?_
    intro M1 o1
    refine ⟨M1, ?_, zoff_mono o1 (by decide)⟩
    cases zmay (tS q) (tL q) (tW q) j k <;> rfl
