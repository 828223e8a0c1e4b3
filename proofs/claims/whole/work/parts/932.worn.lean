/-! worn -/
def zvw (c : Nat) : Bool := decide (c = 1 ∨ c = 5 ∨ c = 9 ∨ c = 15 ∨ c = 21)
def zvo (P : Nat → Bool) : Nat → Nat → Nat
  | 0, _ => 0
  | d + 1, i => if P i = true then i else zvo P d (i + 1)
theorem zvo_s {P : Nat → Bool} {n i : Nat} (h : i < n) : zvo P (n - i) i = if P i = true then i else zvo P (n - (i + 1)) (i + 1) := by
  obtain ⟨d, hd⟩ : ∃ d, n - i = d + 1 := ⟨n - i - 1, by omega⟩
  rw [hd, show n - (i + 1) = d from by omega]
  rfl
theorem zvo_lt {P : Nat → Bool} : ∀ d i n, i + d ≤ n → 0 < n → zvo P d i < n
  | 0, i, n, _, h => h
  | d + 1, i, n, h, h0 => by
    unfold zvo
    split
    · omega
    · exact zvo_lt d (i + 1) n (by omega) h0
def zvs (S : zSD) (a : Nat) : Nat := zvo (fun i => zvw (S 4 (9 * a + i))) (S 3 a) 0
theorem vw_cases {x y : zO} {c : Nat} (hc : c < 2 ^ 31) : zit (nI c = 1) x (zit (nI c = 5) x (zit (nI c = 9) x (zit (nI c = 15) x (zit (nI c = 21) x y)))) = if zvw c = true then x else y := by
  have e : ∀ k : Nat, k < 2 ^ 31 → (nI c = nI k) = (c = k) := fun k hk => i_eq hc hk
  by_cases h : zvw c = true
  · rw [if_pos h]
    have := of_decide_eq_true h
    rcases this with rfl | rfl | rfl | rfl | rfl
    · rw [zit_t (by decide)]
    · rw [zit_f (by decide), zit_t (by decide)]
    · rw [zit_f (by decide), zit_f (by decide), zit_t (by decide)]
    · rw [zit_f (by decide), zit_f (by decide), zit_f (by decide), zit_t (by decide)]
    · rw [zit_f (by decide), zit_f (by decide), zit_f (by decide), zit_f (by decide), zit_t (by decide)]
  · rw [if_neg h]
    have hn : ¬ (c = 1 ∨ c = 5 ∨ c = 9 ∨ c = 15 ∨ c = 21) := fun z => h (decide_eq_true z)
    simp only [li_1, li_5, li_9, li_15, li_21]
    rw [zit_f (show ¬ nI c = nI 1 from by rw [e 1 (by omega)]; omega), zit_f (show ¬ nI c = nI 5 from by rw [e 5 (by omega)]; omega), zit_f (show ¬ nI c = nI 9 from by rw [e 9 (by omega)]; omega), zit_f (show ¬ nI c = nI 15 from by rw [e 15 (by omega)]; omega), zit_f (show ¬ nI c = nI 21 from by rw [e 21 (by omega)]; omega)]
section ZWN
variable {S : zSD} {M : zM}
theorem vs_x (hS : zSx S M) (ho : zSok S) {a : Nat} (ha : a < S 0 0) : F_X9_staying 4 (nI a) M = zI (nI (zvs S a)) M := by
  have hn := so_n ho
  obtain ⟨a3, b3, -⟩ := so_i ho a ha
  unfold F_X9_staying
  refine zfor (i := 0) (f := zN) (a := ()) (S 3 a) (fun f k (_ : Unit) => F_X9_staying_L2 4 (nI a) (fun (M3 : zM) => zI 0 M3) f (nI k) M) (fun k _ => zvo (fun i => zvw (S 4 (9 * a + i))) (S 3 a - k) k = zvs S a) (fun o => o = zI (nI (zvs S a)) M) ?_ ?_ (by omega) (zN_ge (by omega)) rfl
  · rintro f k _ hk hI
    rw [zvo_s hk] at hI
    have l := so_4 ho a ha k hk
    have e := sx_4 hS a ha k hk
    show F_X9_staying_L2 4 _ _ (f + 1) _ M = _ ∨ ∃ _, F_X9_staying_L2 4 _ _ (f + 1) _ M = F_X9_staying_L2 4 _ _ f _ M ∧ _
    rw [F_X9_staying_L2]
    unfold F_X9_sign
    simp (disch := omega) only [zck_t, zbI_I, zjo_eq, c_le_f, li_9, gr_4_1, gr_4_0, pk_mul, nI_add, nI_1, zin_k, zix_k, sx_3 hS]
    rw [Nat.mul_comm a 9, e, show (nI 9) = 9 from rfl, vw_cases (by omega)]
    cases hz : zvw (S 4 (9 * a + k)) with
    | true =>
      rw [hz, if_pos rfl] at hI
      rw [if_pos rfl, hI]
      exact Or.inl rfl
    | false =>
      rw [hz, if_neg (by decide)] at hI
      rw [if_neg (by decide)]
      exact Or.inr ⟨(), rfl, hI⟩
  · rintro f _ hI
    rw [Nat.sub_self] at hI
    show F_X9_staying_L2 4 _ _ (f + 1) _ M = _
    rw [F_X9_staying_L2, ← hI]
    simp (disch := omega) only [zck_t, c_le_t, gr_4_1, zin_k, zix_k, sx_3 hS]
    rfl
theorem vs_m (hS : zSm S M) (ho : zSok S) {a : Nat} (ha : a < S 0 0) : F_X12_vowel 79 (nI a) M = zI (nI (zvs S a)) M := by
  have hn := so_n ho
  obtain ⟨a3, b3, -⟩ := so_i ho a ha
  unfold F_X12_vowel
  refine zfor (i := 0) (f := zN) (a := ()) (S 3 a) (fun f k (_ : Unit) => F_X12_vowel_L2 79 (nI a) (fun (M3 : zM) => zI 0 M3) f (nI k) M) (fun k _ => zvo (fun i => zvw (S 4 (9 * a + i))) (S 3 a - k) k = zvs S a) (fun o => o = zI (nI (zvs S a)) M) ?_ ?_ (by omega) (zN_ge (by omega)) rfl
  · rintro f k _ hk hI
    rw [zvo_s hk] at hI
    have l := so_4 ho a ha k hk
    have e := sm_4 hS a ha k hk
    show F_X12_vowel_L2 79 _ _ (f + 1) _ M = _ ∨ ∃ _, F_X12_vowel_L2 79 _ _ (f + 1) _ M = F_X12_vowel_L2 79 _ _ f _ M ∧ _
    rw [F_X12_vowel_L2]
    simp (disch := omega) only [zck_t, zlt_eq, zjo_eq, c_le_f, li_9, gr_79_6, gr_79_5, pk_mul, nI_add, nI_1, zin_k, zix_k, sm_3 hS]
    rw [e, show (nI 9) = 9 from rfl, vw_cases (by omega)]
    cases hz : zvw (S 4 (9 * a + k)) with
    | true =>
      rw [hz, if_pos rfl] at hI
      rw [if_pos rfl, hI]
      exact Or.inl rfl
    | false =>
      rw [hz, if_neg (by decide)] at hI
      rw [if_neg (by decide)]
      exact Or.inr ⟨(), rfl, hI⟩
  · rintro f _ hI
    rw [Nat.sub_self] at hI
    show F_X12_vowel_L2 79 _ _ (f + 1) _ M = _
    rw [F_X12_vowel_L2, ← hI]
    simp (disch := omega) only [zck_t, c_le_t, gr_79_6, zin_k, zix_k, sm_3 hS]
    rfl
end ZWN
/-- what stays of a name: its end, its beginning -/
def zwe1 (S : zSD) (a m : Nat) : Nat := max (zvs S a + 1) (S 3 a - m)
def zwe0 (S : zSD) (a m : Nat) : Nat := min (zvs S a) (m - (S 3 a - zwe1 S a m))
theorem z_maxs {p l m : Nat} (hp : p < 2 ^ 30) (hl : l < 2 ^ 30) (hm : m < 2 ^ 30) : (if nI p < nI l - nI m then nI l - nI m else nI p) = nI (max p (l - m)) := by
  by_cases h : m ≤ l
  · rw [s_sub h, z_max (by omega) (by omega)]
  · rw [nn_sub (by omega), if_neg (fun e => by
      rw [Int32.lt_iff_toInt_lt, nn_toInt (by omega), nI_toInt (by omega)] at e
      omega), show l - m = 0 from by omega, Nat.max_eq_left (by omega)]
theorem op_worn (q : zSt) (ho : zok q) (a b c : Int32) : zOp 2 (F_X11_worn 0 a b c) (F_X12_worn 79 a b c) zNSE zIAE q := by
  have hn := qo_n ho
  have hY : ∀ M, F_X12_worn 79 a b c M = F_X12_worn 79 a b c (zup M 79 0 0) := fun M => by unfold F_X12_worn; rw [zup_idem]
  rcases zci hn a with ⟨j, hj, rfl⟩ | ha
  · rcases zca (m := 99) (by omega) b with ⟨m, hm, rfl⟩ | hb
    · obtain ⟨a3, b3, -⟩ := so_i (qo_S ho) j hj
      have hv : zvs (tS q) j < tS q 3 j := zvo_lt _ _ _ (by omega) (by omega)
      have h1 : zwe1 (tS q) j m ≤ tS q 3 j ∧ zvs (tS q) j < zwe1 (tS q) j m ∧ tS q 3 j - zwe1 (tS q) j m ≤ m := by
        unfold zwe1
        omega
      have h2 : zwe0 (tS q) j m ≤ zvs (tS q) j := by
        unfold zwe0
        omega
      have ex : ∀ M, zQx q M → F_X11_worn 0 (nI j) (nI m) c M = zit (c = -1) (zI (nI (zwe1 (tS q) j m - zwe0 (tS q) j m)) M) (zbV (F_X11_needBelow c (nI (zwe1 (tS q) j m - zwe0 (tS q) j m)) M) (fun M5 => zbI (F_X9_sign 4 (nI j) (nI (zwe0 (tS q) j m) + c) M5) (fun r3 M6 => zI r3 M6))) := fun M h => by
        have e1 : F_X9_wornEnd 4 (nI j) (nI m) M = zI (nI (zwe1 (tS q) j m)) M := by
          unfold F_X9_wornEnd
          rw [vs_x (qx_S h) (qo_S ho) hj, zbI_I]
          simp (disch := omega) only [zck_t, zin_k, zix_k, gr_4_1, sx_3 (qx_S h), nI_1, z_maxs]
          rfl
        have e0 : F_X9_wornStart 4 (nI j) (nI m) M = zI (nI (zwe0 (tS q) j m)) M := by
          unfold F_X9_wornStart
          rw [e1, zbI_I, vs_x (qx_S h) (qo_S ho) hj]
          simp (disch := omega) only [zck_t, zlt_eq, zbI_I, zin_k, zix_k, gr_4_1, sx_3 (qx_S h), s_sub, z_min]
          rfl
        unfold F_X11_worn
        rw [px_name_in (sx_n (qx_S h)) hn hj, zbV_V, show (99 : Int32) = nI 99 from rfl, px_amount_in hm (by omega), zbV_V, gr_0_1, gr_3_4, e0, zbI_I, e1, zbI_I, zlt_eq, s_sub (by omega)]
      have em : ∀ M, zQm q M → M 79 0 = 0 → F_X12_worn 79 (nI j) (nI m) c M = zjo (fun (w3 : Int32) (M9 : zM) => zbI (F_X12_right 79 w3 1 M9) (fun r5 M10 => zit (r5 = 0) (zI 0 M10) (zjo (fun (w4 : Int32) (M11 : zM) => zI w4 M11) (fun (k5 : Int32 → zM → zO) => zit (c = (-1)) (k5 (nI (zwe1 (tS q) j m) - nI (zwe0 (tS q) j m)) M10) (zck (zin (((9 * nI j) + nI (zwe0 (tS q) j m)) + c) 72) (k5 (M10 (zgr 79 5) (zix (((9 * nI j) + nI (zwe0 (tS q) j m)) + c))) M10)))))) (fun (k3 : Int32 → zM → zO) => zjo (fun (M8 : zM) => k3 0 M8) (fun (k4 : zM → zO) => zit (c < (-1)) (k4 M) (zit ((nI (zwe1 (tS q) j m) - nI (zwe0 (tS q) j m)) ≤ c) (k4 M) (k3 1 M)))) := fun M h h0 => by
        unfold F_X12_worn
        rw [zst_eq, zup_same h0, pm_one_in h0 (sm_n (qm_S h)) hn hj, zbI_I, zjo_eq, zit_f (by decide), show F_X12_within (nI m) 0 99 M = zI 1 M from pm_within_in (lo := 0) (hi := 99) (by omega) hm (by omega), zbI_I, pm_right1 h0 (by decide), zbI_I, zit_f (by decide), vs_m (qm_S h) (qo_S ho) hj, zbI_I, zin_k (k := j) (n := 8) (by omega) (by omega), zck_t, zlt_eq, zix_k (k := j) (by omega), gr_79_6, sm_3 (qm_S h) j hj]
        obtain ⟨T, hT⟩ : ∃ T : Nat → Nat, ∀ k, T k = max (zvs (tS q) j + 1) (tS q 3 j - k) := ⟨_, fun _ => rfl⟩
        obtain ⟨F, hF⟩ : ∃ F : Nat → Nat, ∀ k, F k = min (zvs (tS q) j) (k - (tS q 3 j - T k)) := ⟨_, fun _ => rfl⟩
        have key : ∀ K : Int32 → Int32 → zM → zO, F_X12_worn_L51 79 (nI j) (nI m) c (nI (zvs (tS q) j)) K zN (nI (F 0)) (nI (T 0)) (nI 0) M = K (nI (F m)) (nI (T m)) M := fun K => by
          refine zfor (i := 0) (f := zN) (a := ()) m (fun f k (_ : Unit) => F_X12_worn_L51 79 (nI j) (nI m) c (nI (zvs (tS q) j)) K f (nI (F k)) (nI (T k)) (nI k) M) (fun _ _ => True) (fun o => o = _) ?_ ?_ (by omega) (zN_ge (by omega)) trivial
          · rintro f k _ hk -
            refine Or.inr ⟨(), ?_, trivial⟩
            have t0 := hT k
            have t1 := hT (k + 1)
            have f0 := hF k
            have f1 := hF (k + 1)
            show F_X12_worn_L51 79 _ _ _ _ K (f + 1) _ _ _ M = F_X12_worn_L51 79 _ _ _ _ K f _ _ _ M
            rw [F_X12_worn_L51, zit_f (nI_ge hk (by omega)), zjo_eq]
            have g1 : 1 ≤ T k := by omega
            rw [show (1 : Int32) = nI 1 from rfl, s_sub g1, s_addn g1, nI_add, nI_add]
            by_cases p : T k - 1 ≤ zvs (tS q) j
            · rw [zit_t (nI_le p (by omega))]
              by_cases p2 : zvs (tS q) j ≤ F k
              · rw [zit_t (nI_le p2 (by omega)), show F (k + 1) = F k from by omega, show T (k + 1) = T k from by omega]
              · rw [zit_f (nI_ge (by omega) (by omega)), show F (k + 1) = F k + 1 from by omega, show T (k + 1) = T k from by omega]
            · rw [zit_f (nI_ge (by omega) (by omega)), show F (k + 1) = F k from by omega, show T (k + 1) = T k - 1 from by omega]
          · rintro f _ -
            show F_X12_worn_L51 79 _ _ _ _ K (f + 1) _ _ _ M = _
            rw [F_X12_worn_L51, zit_t (nI_le (Nat.le_refl _) (by omega))]
        have t0 := hT 0
        have f0 := hF 0
        have e0 : F 0 = 0 := by omega
        have e1 : T 0 = tS q 3 j := by omega
        rw [e0, e1] at key
        refine (key _).trans ?_
        have e2 : T m = zwe1 (tS q) j m := hT m
        have e3 : F m = zwe0 (tS q) j m := by
          rw [hF m, e2]
          rfl
        rw [e2, e3]
      by_cases hc : c = -1
      · subst hc
        refine zop_self hY (zop0_ret (r := nI (zwe1 (tS q) j m - zwe0 (tS q) j m)) (fun M h => ⟨M, ?_, zoff_rfl⟩) (fun M h h0 => ⟨M, ?_, zoff_rfl⟩))
        · rw [ex M h, zit_t rfl]
        · rw [em M h h0]
          simp only [zjo_eq]
          rw [s_sub (by omega), zit_f (by decide), zit_f (by
            intro e
            rw [Int32.le_iff_toInt_le, nI_toInt (by omega), show (-1 : Int32).toInt = -1 from by decide] at e
            omega), pm_right1 h0 (by decide), zbI_I, zit_f (by decide), zit_t trivial]
      · rcases zcj (zwe1 (tS q) j m - zwe0 (tS q) j m) c with ⟨i, hi, rfl⟩ | ho'
        · refine zop_self hY (zop0_ret (r := nI (tS q 4 (9 * j + (zwe0 (tS q) j m + i)))) (fun M h => ⟨M, ?_, zoff_rfl⟩) (fun M h h0 => ⟨M, ?_, zoff_rfl⟩))
          · have e := sx_4 (qx_S h) j hj (zwe0 (tS q) j m + i) (by omega)
            rw [ex M h, zit_f hc]
            unfold F_X11_needBelow F_X9_sign
            simp (disch := omega) only [zbI_I, zbI_E, zbV_V, zbV_E, zbJ_J, zbH_I, zbH_E, zlt_eq, zltL_eq, zst_eq, zjo_eq, zck_t, zbo_0, zbo_1, li_0, li_9, c_lt_f, c_lt_t, gr_4_0, pk_mul, nI_add, zin_k, zix_k]
            rw [Nat.mul_comm j 9, e]
          · have e := sm_4 (qm_S h) j hj (zwe0 (tS q) j m + i) (by omega)
            rw [em M h h0]
            simp only [zjo_eq]
            rw [s_sub (by omega), zit_f (by
              intro e
              rw [Int32.lt_iff_toInt_lt, nI_toInt (by omega), show (-1 : Int32).toInt = -1 from by decide] at e
              omega), zit_f (nI_ge hi (by omega)), pm_right1 h0 (by decide), zbI_I, zit_f (by decide), zit_f hc]
            simp (disch := omega) only [zck_t, li_9, gr_79_5, zin_k, zix_k, pk_mul, nI_add]
            rw [Nat.add_assoc, e]
        · refine zop_rf hY 1 (Or.inl rfl) (by omega) (fun M h => ?_) (fun M h h0 => ⟨0, ?_⟩)
          · rw [ex M h, zit_f hc]
            unfold F_X11_needBelow
            simp only [zjo_eq]
            by_cases h0' : c < 0
            · rw [zit_t h0', zbV_E]
              rfl
            · rw [zit_f h0', zit_f (out_nl ho' h0'), zbV_E]
              rfl
          · rw [em M h h0]
            simp only [zjo_eq]
            rw [s_sub (by omega)]
            have e : ∀ k : Int32 → zM → zO, (∀ M, k 0 M = zI 0 M) → zbI (F_X12_right 79 0 1 M) k = zI 0 (zup M 79 0 (nI 1)) := fun k hk => by
              rw [pm_right0 h0 (by decide), zbI_I, hk]
              rfl
            by_cases h0' : c < 0
            · rw [zit_t (n1_lt h0' hc)]
              exact e _ (fun M => rfl)
            · by_cases h1' : c < -1
              · rw [zit_t h1']
                exact e _ (fun M => rfl)
              · rw [zit_f h1', zit_t (ho'.resolve_left h0')]
                exact e _ (fun M => rfl)
    · refine zop_rf hY 2 (Or.inr rfl) (by omega) (fun M h => ?_) (fun M h h0 => ⟨0, ?_⟩)
      · unfold F_X11_worn
        rw [px_name_in (sx_n (qx_S h)) hn hj, zbV_V, show F_X11_needAmount b 99 M = zE zIAE M from px_amount_out (m := nI 99) hb, zbV_E]
        rfl
      · unfold F_X12_worn
        rw [zst_eq, zup_same h0, pm_one_in h0 (sm_n (qm_S h)) hn hj, zbI_I, zjo_eq, zit_f (by decide), show F_X12_within b 0 99 M = zI 0 M from pm_within_out (hi := nI 99) hb, zbI_I, pm_right0 h0 (by decide), zbI_I]
        rfl
  · refine zop_rf hY 1 (Or.inl rfl) (by omega) (fun M h => ?_) (fun M h h0 => ⟨0, ?_⟩)
    · unfold F_X11_worn
      rw [px_name_out (sx_n (qx_S h)) ha, zbV_E]
      rfl
    · unfold F_X12_worn
      rw [zst_eq, zup_same h0, pm_one_out h0 (sm_n (qm_S h)) ha, zbI_I]
      rfl
