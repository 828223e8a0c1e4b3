/-! WHO PREFERS WHAT: prefers, glad -/
def zran (S : zSD) (w : zWD) (i n : Nat) : Nat := if S 8 (8 * i + n) = 0 then (if w.1 i = n then 9 else 10) else S 8 (8 * i + n)
def zram (S : zSD) (w : zWD) (i n : Nat) : Nat := if S 8 (8 * i + n) = 0 then (if w.1 i = n then 50 else 99) else S 8 (8 * i + n) - 1
def zlk (S : zSD) (w : zWD) (i a b : Nat) : Bool := decide (zran S w i a < zran S w i b)
def zwt (S : zSD) (w : zWD) (i j : Nat) : Bool := zlk S w i (w.1 j) (w.1 i)
theorem so_8 {S : zSD} (h : zSok S) : ∀ i, i < S 0 0 → ∀ k, k < S 0 0 → S 8 (8 * i + k) ≤ 8 := h.2.2.2.2.2.2.1
theorem zlk_m {S : zSD} {w : zWD} (ho : zSok S) {i a b : Nat} (hi : i < S 0 0) (ha : a < S 0 0) (hb : b < S 0 0) : zlk S w i a b = decide (zram S w i a < zram S w i b) := by
  have h1 := so_8 ho i hi a ha
  have h2 := so_8 ho i hi b hb
  unfold zlk zran zram
  by_cases p1 : S 8 (8 * i + a) = 0
  · rw [if_pos p1, if_pos p1]
    by_cases p2 : S 8 (8 * i + b) = 0
    · rw [if_pos p2, if_pos p2]
      by_cases p3 : w.1 i = a
      · rw [if_pos p3, if_pos p3]
        by_cases p4 : w.1 i = b
        · rw [if_pos p4, if_pos p4]; rfl
        · rw [if_neg p4, if_neg p4]; rfl
      · rw [if_neg p3, if_neg p3]
        by_cases p4 : w.1 i = b
        · rw [if_pos p4, if_pos p4]; rfl
        · rw [if_neg p4, if_neg p4]; rfl
    · rw [if_neg p2, if_neg p2]
      by_cases p3 : w.1 i = a
      · rw [if_pos p3, if_pos p3, decide_eq_false (by omega), decide_eq_false (by omega)]
      · rw [if_neg p3, if_neg p3, decide_eq_false (by omega), decide_eq_false (by omega)]
  · rw [if_neg p1, if_neg p1]
    by_cases p2 : S 8 (8 * i + b) = 0
    · rw [if_pos p2, if_pos p2]
      by_cases p4 : w.1 i = b
      · rw [if_pos p4, if_pos p4, decide_eq_true (by omega), decide_eq_true (by omega)]
      · rw [if_neg p4, if_neg p4, decide_eq_true (by omega), decide_eq_true (by omega)]
    · rw [if_neg p2, if_neg p2]
      by_cases p5 : S 8 (8 * i + a) < S 8 (8 * i + b)
      · rw [decide_eq_true p5, decide_eq_true (by omega)]
      · rw [decide_eq_false p5, decide_eq_false (by omega)]
section ZLK
variable {S : zSD} {w : zWD} {M : zM}
theorem rk_x (hS : zSx S M) (ho : zSok S) (hW : zWx 40 w M) (hk : zWok S w) {i n : Nat} (hi : i < S 0 0) (hn : n < S 0 0) : F_X1_rank 63 (nI i) (nI n) M = zI (nI (zran S w i n)) M := by
  have h8 := so_n ho
  have hw : ∀ i, i < 8 → M 41 i = nI (w.1 i) := hW.1
  have hb := so_8 ho i hi n hn
  have hwi := wo_n hk i hi
  unfold F_X1_rank
  simp (disch := omega) only [zbI_I, zbI_E, zbV_V, zbV_E, zbJ_J, zbH_I, zbH_E, zlt_eq, zltL_eq, zst_eq, zjo_eq, zck_t, zbo_0, zbo_1, zbo_n0, zbo_n1, li_8, gr_63_0, gr_63_1, gr_3_10, gr_40_1, pk_mul, nI_add, zin_k, zix_k, hw]
  rw [Nat.mul_comm i 8, sx_8 hS i hi n hn]
  unfold zran
  by_cases p : S 8 (8 * i + n) = 0
  · rw [if_pos p, p, zit_t (by decide)]
    by_cases p3 : w.1 i = n
    · rw [if_pos p3, zit_t (by rw [p3])]
      rfl
    · rw [if_neg p3, zit_f (fun e => p3 ((nI_eq (by omega) (by omega)).mp e))]
      rfl
  · rw [if_neg p, zit_f (nI_ne0 (by omega) (by omega))]
theorem rk_m (hS : zSm S M) (ho : zSok S) (hW : zWr (M 102) 0 w) (hk : zWok S w) {i n : Nat} (hi : i < S 0 0) (hn : n < S 0 0) : F_X12_rank 79 (nI i) (nI n) M = zI (nI (zram S w i n)) M := by
  have h8 := so_n ho
  have hw := wr_n hW
  have hwi := wo_n hk i hi
  obtain ⟨c, hc, hc1, hc2, hc3⟩ := hS.2.2.2.2.2.1 i hi
  unfold F_X12_rank
  refine zfor (i := 0) (f := zN) (a := ()) c (fun f k (_ : Unit) => F_X12_rank_L2 79 (nI i) (nI n) (fun (M1 : zM) => zck (zin (nI i) 73) (zjo (fun (w1 : Int32) (M2 : zM) => zI w1 M2) (fun (k1 : Int32 → zM → zO) => zit ((M1 (zgr 79 47) (zix (nI i))) = nI n) (k1 50 M1) (k1 99 M1)))) f (nI k) M) (fun k _ => ∀ j, j < k → S 8 (8 * i + n) ≠ j + 1) (fun o => o = zI (nI (zram S w i n)) M) ?_ ?_ (by omega) (zN_ge (by omega)) (fun j hj => absurd hj (Nat.not_lt_zero _))
  · rintro f k _ hkc hI
    obtain ⟨v, hv, hv1, hv2⟩ := hc2 k hkc
    show F_X12_rank_L2 79 _ _ _ (f + 1) _ M = _ ∨ ∃ _, F_X12_rank_L2 79 _ _ _ (f + 1) _ M = F_X12_rank_L2 79 _ _ _ f _ M ∧ _
    rw [F_X12_rank_L2]
    simp (disch := omega) only [zbI_I, zbI_E, zbV_V, zbV_E, zbJ_J, zbH_I, zbH_E, zlt_eq, zltL_eq, zst_eq, zjo_eq, zck_t, zbo_0, zbo_1, zbo_n0, zbo_n1, c_le_f, li_8, gr_79_10, gr_79_11, pk_mul, nI_add, nI_1, zin_k, zix_k, hc1, hv1]
    by_cases p : v = n
    · subst p
      rw [zit_t rfl]
      refine Or.inl ?_
      unfold zram
      rw [if_neg (by omega), hv2]
      rfl
    · rw [zit_f (fun e => p ((nI_eq (by omega) (by omega)).mp e))]
      refine Or.inr ⟨(), rfl, fun j hj => ?_⟩
      by_cases hjk : j = k
      · subst hjk
        intro e
        obtain ⟨-, e2⟩ := hc3 n hn (by omega)
        rw [e, Nat.add_sub_cancel, hv1] at e2
        exact p ((nI_eq (by omega) (by omega)).mp e2)
      · exact hI j (by omega)
  · rintro f _ hI
    have hz : S 8 (8 * i + n) = 0 := by
      by_cases p : S 8 (8 * i + n) = 0
      · exact p
      · obtain ⟨e1, -⟩ := hc3 n hn p
        exact absurd (by omega) (hI (S 8 (8 * i + n) - 1) (by omega))
    show F_X12_rank_L2 79 _ _ _ (f + 1) _ M = _
    rw [F_X12_rank_L2]
    simp (disch := omega) only [zbI_I, zbI_E, zbV_V, zbV_E, zbJ_J, zbH_I, zbH_E, zlt_eq, zltL_eq, zst_eq, zjo_eq, zck_t, zbo_0, zbo_1, zbo_n0, zbo_n1, c_le_t, gr_79_11, gr_79_47, zin_k, zix_k, hc1, hw]
    unfold zram
    rw [if_pos hz]
    by_cases p3 : w.1 i = n
    · rw [if_pos p3, zit_t (by rw [p3])]
      rfl
    · rw [if_neg p3, zit_f (fun e => p3 ((nI_eq (by omega) (by omega)).mp e))]
      rfl
theorem lk_x (hS : zSx S M) (ho : zSok S) (hW : zWx 40 w M) (hk : zWok S w) {i a b : Nat} (hi : i < S 0 0) (ha : a < S 0 0) (hb : b < S 0 0) : F_X1_likesMore 63 (nI i) (nI a) (nI b) M = zI (if zlk S w i a b = true then 1 else 0) M := by
  have h1 := so_8 ho i hi a ha
  have h2 := so_8 ho i hi b hb
  have l1 : zran S w i a ≤ 10 := by unfold zran; (repeat' split) <;> omega
  have l2 : zran S w i b ≤ 10 := by unfold zran; (repeat' split) <;> omega
  unfold F_X1_likesMore
  rw [rk_x hS ho hW hk hi ha, zbI_I, rk_x hS ho hW hk hi hb, zbI_I]
  simp only [zjo_eq]
  unfold zlk
  by_cases p : zran S w i a < zran S w i b
  · rw [zit_f (nI_ge p (by omega)), decide_eq_true p]
    rfl
  · rw [zit_t (nI_le (by omega) (by omega)), decide_eq_false p]
    rfl
theorem lk_m (hS : zSm S M) (ho : zSok S) (hW : zWr (M 102) 0 w) (hk : zWok S w) {i a b : Nat} (hi : i < S 0 0) (ha : a < S 0 0) (hb : b < S 0 0) : F_X12_likes 79 (nI i) (nI a) (nI b) M = zI (if zlk S w i a b = true then 1 else 0) M := by
  have h1 := so_8 ho i hi a ha
  have h2 := so_8 ho i hi b hb
  have l1 : zram S w i a ≤ 99 := by unfold zram; (repeat' split) <;> omega
  have l2 : zram S w i b ≤ 99 := by unfold zram; (repeat' split) <;> omega
  unfold F_X12_likes
  rw [rk_m hS ho hW hk hi ha, zbI_I, rk_m hS ho hW hk hi hb, zbI_I, zlk_m ho hi ha hb]
  simp only [zjo_eq]
  by_cases p : zram S w i a < zram S w i b
  · rw [zit_f (nI_ge p (by omega)), decide_eq_true p]
    rfl
  · rw [zit_t (nI_le (by omega) (by omega)), decide_eq_false p]
    rfl
theorem wt_x (hS : zSx S M) (ho : zSok S) (hW : zWx 40 w M) (hk : zWok S w) {i j : Nat} (hi : i < S 0 0) (hj : j < S 0 0) : F_X1_wants 63 (nI i) (nI j) M = zI (if zwt S w i j = true then 1 else 0) M := by
  have h8 := so_n ho
  have hw : ∀ i, i < 8 → M 41 i = nI (w.1 i) := hW.1
  unfold F_X1_wants
  simp (disch := omega) only [zbI_I, zbI_E, zbV_V, zbV_E, zbJ_J, zbH_I, zbH_E, zlt_eq, zltL_eq, zst_eq, zjo_eq, zck_t, zbo_0, zbo_1, zbo_n0, zbo_n1, gr_63_1, gr_40_1, zin_k, zix_k, hw]
  rw [lk_x hS ho hW hk hi (wo_n hk j hj) (wo_n hk i hi), zbI_I]
  unfold zwt
  cases zlk S w i (w.1 j) (w.1 i) <;> rfl
end ZLK
theorem op_prefers (q : zSt) (ho : zok q) (a b c : Int32) : zOp 1 (F_X11_prefers 0 a b c) (F_X12_prefers 79 a b c) zNSE zIAE q := by
  have hn := qo_n ho
  have hY : ∀ M, F_X12_prefers 79 a b c M = F_X12_prefers 79 a b c (zup M 79 0 0) := fun M => by unfold F_X12_prefers; rw [zup_idem]
  rcases zci hn a with ⟨i, hi, rfl⟩ | ha
  · rcases zci hn b with ⟨j, hj, rfl⟩ | hb
    · rcases zci hn c with ⟨k, hk, rfl⟩ | hc
      · refine zop_self hY (zop0_ret (r := if zlk (tS q) (tW q) i j k = true then 1 else 0) (fun M h => ⟨M, ?_, zoff_rfl⟩) (fun M h h0 => ⟨M, ?_, zoff_rfl⟩))
        · unfold F_X11_prefers
          rw [px_isle_in (sx_n (qx_S h)) hn hi, zbV_V, px_name_in (sx_n (qx_S h)) hn hj, zbV_V, px_name_in (sx_n (qx_S h)) hn hk, zbV_V, gr_0_9, lk_x (qx_S h) (qo_S ho) (qx_W h) (qo_W ho) hi hj hk, zbI_I]
          cases zlk (tS q) (tW q) i j k <;> rfl
        · unfold F_X12_prefers
          rw [zst_eq, zup_same h0, pm_one_in h0 (sm_n (qm_S h)) hn hi, zbI_I]
          simp only [zjo_eq]
          rw [zit_f (by decide), pm_one_in h0 (sm_n (qm_S h)) hn hj, zbI_I, zit_f (by decide), pm_one_in h0 (sm_n (qm_S h)) hn hk, zbI_I, zit_f (by decide), lk_m (qm_S h) (qo_S ho) (qm_W h) (qo_W ho) hi hj hk, zbI_I]
          cases zlk (tS q) (tW q) i j k <;> rfl
      · refine zop_rf hY 1 (Or.inl rfl) (by omega) (fun M h => ?_) (fun M h h0 => ⟨0, ?_⟩)
        · unfold F_X11_prefers
          rw [px_isle_in (sx_n (qx_S h)) hn hi, zbV_V, px_name_in (sx_n (qx_S h)) hn hj, zbV_V, px_name_out (sx_n (qx_S h)) hc, zbV_E]
          rfl
        · unfold F_X12_prefers
          rw [zst_eq, zup_same h0, pm_one_in h0 (sm_n (qm_S h)) hn hi, zbI_I]
          simp only [zjo_eq]
          rw [zit_f (by decide), pm_one_in h0 (sm_n (qm_S h)) hn hj, zbI_I, zit_f (by decide), pm_one_out h0 (sm_n (qm_S h)) hc, zbI_I]
          rfl
    · refine zop_rf hY 1 (Or.inl rfl) (by omega) (fun M h => ?_) (fun M h h0 => ⟨0, ?_⟩)
      · unfold F_X11_prefers
        rw [px_isle_in (sx_n (qx_S h)) hn hi, zbV_V, px_name_out (sx_n (qx_S h)) hb, zbV_E]
        rfl
      · unfold F_X12_prefers
        rw [zst_eq, zup_same h0, pm_one_in h0 (sm_n (qm_S h)) hn hi, zbI_I]
        simp only [zjo_eq]
        rw [zit_f (by decide), pm_one_out h0 (sm_n (qm_S h)) hb, zbI_I]
        rfl
  · refine zop_rf hY 1 (Or.inl rfl) (by omega) (fun M h => ?_) (fun M h h0 => ⟨0, ?_⟩)
    · unfold F_X11_prefers
      rw [px_isle_out (sx_n (qx_S h)) ha, zbV_E]
      rfl
    · unfold F_X12_prefers
      rw [zst_eq, zup_same h0, pm_one_out h0 (sm_n (qm_S h)) ha, zbI_I]
      rfl
