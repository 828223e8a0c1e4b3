/-! joined, worn -/
theorem n1_lt {c : Int32} (h : c < 0) (hc : c ≠ -1) : c < -1 := by
  rw [Int32.lt_iff_toInt_lt] at h ⊢
  have h1 : c.toInt ≠ (-1 : Int32).toInt := fun e => hc (Int32.toInt_inj.mp e)
  have e1 : (-1 : Int32).toInt = -1 := by decide
  have e0 : (0 : Int32).toInt = 0 := by decide
  rw [e1] at h1 ⊢
  rw [e0] at h
  omega
theorem jo_x {S : zSD} {M : zM} (hS : zSx S M) (ho : zSok S) {a b k : Nat} (ha : a < S 0 0) (hb : b < S 0 0) (hk : k < S 3 a + S 3 b - zcm S a b) : F_X9_joinedSign 4 (nI a) (nI b) (nI k) M = zI (if S 3 a ≤ k then nI (S 4 (9 * b + (k - S 3 a + zcm S a b))) else nI (S 4 (9 * a + k))) M := by
  have hn := so_n ho
  obtain ⟨a3, b3, -⟩ := so_i ho a ha
  obtain ⟨c3, d3, -⟩ := so_i ho b hb
  have hc := zcm_lt ho ha hb
  unfold F_X9_joinedSign F_X9_sign
  rw [ov_x hS ho ha hb]
  by_cases p : S 3 a ≤ k
  · have e := sx_4 hS b hb (k - S 3 a + zcm S a b) (by omega)
    simp (disch := omega) only [zbI_I, zbI_E, zbV_V, zbV_E, zbJ_J, zbH_I, zbH_E, zlt_eq, zltL_eq, zst_eq, zjo_eq, zck_t, zbo_0, zbo_1, c_le_t, li_9, gr_4_1, gr_4_0, zin_k, zix_k, sx_3 hS, s_sub, pk_mul, nI_add]
    rw [if_pos p, Nat.mul_comm b 9, e]
  · have e := sx_4 hS a ha k (by omega)
    simp (disch := omega) only [zbI_I, zbI_E, zbV_V, zbV_E, zbJ_J, zbH_I, zbH_E, zlt_eq, zltL_eq, zst_eq, zjo_eq, zck_t, zbo_0, zbo_1, c_le_f, li_9, gr_4_1, gr_4_0, zin_k, zix_k, sx_3 hS, pk_mul, nI_add]
    rw [if_neg p, Nat.mul_comm a 9, e]
theorem op_joined (q : zSt) (ho : zok q) (a b c : Int32) : zOp 2 (F_X11_joined 0 a b c) (F_X12_joined 79 a b c) zNSE zIAE q := by
  have hn := qo_n ho
  have hY : ∀ M, F_X12_joined 79 a b c M = F_X12_joined 79 a b c (zup M 79 0 0) := fun M => by unfold F_X12_joined; rw [zup_idem]
  rcases zci hn a with ⟨j, hj, rfl⟩ | ha
  · rcases zci hn b with ⟨k, hk, rfl⟩ | hb
    · by_cases hjk : j = k
      · subst hjk
        refine zop_rf hY 2 (Or.inr rfl) (by omega) (fun M h => ?_) (fun M h h0 => ⟨0, ?_⟩)
        · unfold F_X11_joined
          rw [px_name_in (sx_n (qx_S h)) hn hj, zbV_V, px_name_in (sx_n (qx_S h)) hn hj, zbV_V, px_unlike_out, zbV_E]
          rfl
        · unfold F_X12_joined
          rw [zst_eq, zup_same h0, pm_two_same h0 (sm_n (qm_S h)) hn hj, zbI_I]
          rfl
      · have hne : ¬ nI j = nI k := fun e => hjk ((nI_eq (by omega) (by omega)).mp e)
        obtain ⟨a3, b3, -⟩ := so_i (qo_S ho) j hj
        obtain ⟨c3, d3, -⟩ := so_i (qo_S ho) k hk
        have hcm := zcm_lt (qo_S ho) hj hk
        have ex : ∀ M, zQx q M → F_X11_joined 0 (nI j) (nI k) c M = zit (c = -1) (zI (nI (tS q 3 j + tS q 3 k - zcm (tS q) j k)) M) (zbV (F_X11_needBelow c (nI (tS q 3 j + tS q 3 k - zcm (tS q) j k)) M) (fun M5 => zbI (F_X9_joinedSign 4 (nI j) (nI k) c M5) (fun r2 M6 => zI r2 M6))) := fun M h => by
          unfold F_X11_joined F_X9_joinedLength
          rw [px_name_in (sx_n (qx_S h)) hn hj, zbV_V, px_name_in (sx_n (qx_S h)) hn hk, zbV_V, px_unlike_in hne, zbV_V, gr_0_1, gr_3_4, ov_x (qx_S h) (qo_S ho) hj hk]
          simp (disch := omega) only [zck_t, zbI_I, gr_4_1, zin_k, zix_k, sx_3 (qx_S h), nI_add, s_sub]
        have em : ∀ M, zQm q M → M 79 0 = 0 → F_X12_joined 79 (nI j) (nI k) c M = zjo (fun (w1 : Int32) (M5 : zM) => zbI (F_X12_right 79 w1 1 M5) (fun r3 M6 => zit (r3 = 0) (zI 0 M6) (zit (c = (-1)) (zI (nI (tS q 3 j + tS q 3 k - zcm (tS q) j k)) M6) (zck (zin (nI j) 8) (zjo (fun (w2 : Int32) (M7 : zM) => zI w2 M7) (fun (k3 : Int32 → zM → zO) => zit ((M6 (zgr 79 6) (zix (nI j))) ≤ c) (zck (zin (nI j) 8) (zck (zin ((((9 * nI k) + c) - (M6 (zgr 79 6) (zix (nI j)))) + nI (zcm (tS q) j k)) 72) (k3 (M6 (zgr 79 5) (zix ((((9 * nI k) + c) - (M6 (zgr 79 6) (zix (nI j)))) + nI (zcm (tS q) j k)))) M6))) (zck (zin ((9 * nI j) + c) 72) (k3 (M6 (zgr 79 5) (zix ((9 * nI j) + c))) M6)))))))) (fun (k1 : Int32 → zM → zO) => zjo (fun (M4 : zM) => k1 0 M4) (fun (k2 : zM → zO) => zit (c < (-1)) (k2 M) (zit (nI (tS q 3 j + tS q 3 k - zcm (tS q) j k) ≤ c) (k2 M) (k1 1 M)))) := fun M h h0 => by
          unfold F_X12_joined
          rw [zst_eq, zup_same h0, pm_two_in h0 (sm_n (qm_S h)) hn hj hk hjk, zbI_I, zit_f (by decide), cm_m (qm_S h) (qo_S ho) hj hk, zbI_I]
          have z1 : zin (nI j) 8 = true := zin_k (by omega) (by omega)
          have z2 : zin (nI k) 8 = true := zin_k (by omega) (by omega)
          rw [z1, zck_t, z2, zck_t, zlt_eq, zix_k (k := j) (by omega), zix_k (k := k) (by omega), gr_79_6, sm_3 (qm_S h) j hj, sm_3 (qm_S h) k hk, nI_add, s_sub (by omega)]
        by_cases hc : c = -1
        · subst hc
          refine zop_self hY (zop0_ret (r := nI (tS q 3 j + tS q 3 k - zcm (tS q) j k)) (fun M h => ⟨M, ?_, zoff_rfl⟩) (fun M h h0 => ⟨M, ?_, zoff_rfl⟩))
          · rw [ex M h, zit_t rfl]
          · rw [em M h h0]
            simp only [zjo_eq]
            rw [zit_f (by decide), zit_f (by
              intro e
              rw [Int32.le_iff_toInt_le, nI_toInt (by omega), show (-1 : Int32).toInt = -1 from by decide] at e
              omega), pm_right1 h0 (by decide), zbI_I, zit_f (by decide), zit_t trivial]
        · rcases zcj (tS q 3 j + tS q 3 k - zcm (tS q) j k) c with ⟨i, hi, rfl⟩ | ho'
          · refine zop_self hY (zop0_ret (r := if tS q 3 j ≤ i then nI (tS q 4 (9 * k + (i - tS q 3 j + zcm (tS q) j k))) else nI (tS q 4 (9 * j + i))) (fun M h => ⟨M, ?_, zoff_rfl⟩) (fun M h h0 => ⟨M, ?_, zoff_rfl⟩))
            · rw [ex M h, zit_f hc]
              unfold F_X11_needBelow
              simp (disch := omega) only [zbI_I, zbI_E, zbV_V, zbV_E, zbJ_J, zbH_I, zbH_E, zlt_eq, zltL_eq, zst_eq, zjo_eq, zck_t, zbo_0, zbo_1, li_0, c_lt_f, c_lt_t]
              rw [jo_x (qx_S h) (qo_S ho) hj hk hi, zbI_I]
            · rw [em M h h0]
              simp only [zjo_eq]
              rw [zit_f (by
                intro e
                rw [Int32.lt_iff_toInt_lt, nI_toInt (by omega), show (-1 : Int32).toInt = -1 from by decide] at e
                omega), zit_f (nI_ge hi (by omega)), pm_right1 h0 (by decide), zbI_I, zit_f (by decide), zit_f hc]
              by_cases p : tS q 3 j ≤ i
              · have e := sm_4 (qm_S h) k hk (i - tS q 3 j + zcm (tS q) j k) (by omega)
                simp (disch := omega) only [zck_t, c_le_t, li_9, gr_79_6, gr_79_5, zin_k, zix_k, sm_3 (qm_S h), s_sub, pk_mul, nI_add]
                rw [if_pos p, show 9 * k + i - tS q 3 j + zcm (tS q) j k = 9 * k + (i - tS q 3 j + zcm (tS q) j k) from by omega, e]
              · have e := sm_4 (qm_S h) j hj i (by omega)
                simp (disch := omega) only [zck_t, c_le_f, li_9, gr_79_6, gr_79_5, zin_k, zix_k, sm_3 (qm_S h), pk_mul, nI_add]
                rw [if_neg p, e]
          · refine zop_rf hY 1 (Or.inl rfl) (by omega) (fun M h => ?_) (fun M h h0 => ⟨0, ?_⟩)
            · rw [ex M h, zit_f hc]
              unfold F_X11_needBelow
              simp only [zjo_eq]
              by_cases h0' : c < 0
              · rw [zit_t h0', zbV_E]
                rfl
              · rw [zit_f h0', zit_f (out_nl ho' h0'), zbV_E]
                rfl
            · rw [em M h h0]
              simp only [zjo_eq]
              have e : ∀ k : Int32 → zM → zO, (∀ M, k 0 M = zI 0 M) → zbI (F_X12_right 79 0 1 M) k = zI 0 (zup M 79 0 (nI 1)) := fun k hk => by
                rw [pm_right0 h0 (by decide), zbI_I, hk]
                rfl
              by_cases h0' : c < 0
              · rw [zit_t (n1_lt h0' hc)]
                exact e _ (fun M => rfl)
              · by_cases h1' : c < -1
                · rw [zit_t h1']
                  exact e _ (fun M => rfl)
                · rw [zit_f h1', zit_t (ho'.resolve_left h0')]
                  exact e _ (fun M => rfl)
    · refine zop_rf hY 1 (Or.inl rfl) (by omega) (fun M h => ?_) (fun M h h0 => ⟨0, ?_⟩)
      · unfold F_X11_joined
        rw [px_name_in (sx_n (qx_S h)) hn hj, zbV_V, px_name_out (sx_n (qx_S h)) hb, zbV_E]
        rfl
      · unfold F_X12_joined
        rw [zst_eq, zup_same h0, pm_two_out2 h0 (sm_n (qm_S h)) hn hj hb, zbI_I]
        rfl
  · refine zop_rf hY 1 (Or.inl rfl) (by omega) (fun M h => ?_) (fun M h h0 => ⟨0, ?_⟩)
    · unfold F_X11_joined
      rw [px_name_out (sx_n (qx_S h)) ha, zbV_E]
      rfl
    · unfold F_X12_joined
      rw [zst_eq, zup_same h0, pm_two_out1 h0 (sm_n (qm_S h)) ha, zbI_I]
      rfl
