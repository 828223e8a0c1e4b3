/-! CALLS THAT READ -/
theorem pm_what_in {k m : Nat} {M : zM} (h : M 79 0 = 0) (hk : k ≤ m) (hm : m < 2 ^ 31) : F_X12_isWhat 79 (nI k) (nI m) M = zI 1 M := by
  unfold F_X12_isWhat
  rw [show (0 : Int32) = nI 0 from rfl, pm_within_in (by omega) hk hm, zbI_I, pm_right1 h (by decide), zbI_I, zbo_1, zck_t]
theorem pm_what_out {m : Nat} {a : Int32} {M : zM} (h : M 79 0 = 0) (ha : a < 0 ∨ nI m < a) : F_X12_isWhat 79 a (nI m) M = zI 0 (zup M 79 0 1) := by
  unfold F_X12_isWhat
  rw [pm_within_out ha, zbI_I, pm_right0 h (by decide), zbI_I, zbo_0, zck_t]
section ZRD
variable {S : zSD} {w : zWD} {M : zM}
theorem ah_x (hS : zSx S M) (ho : zSok S) (hW : zWx 40 w M) (hk : zWok S w) : F_X10_atHome 40 M = zI (nI (zcu (fun i => decide (w.1 i = i)) (S 0 0))) M := by
  have hn := so_n ho
  have hw : ∀ i, i < 8 → M 41 i = nI (w.1 i) := hW.1
  unfold F_X10_atHome
  refine zfor (i := 0) (f := zN) (a := ()) (S 0 0) (fun f i (_ : Unit) => F_X10_atHome_L4 40 (fun (y1 : Int32) (M2 : zM) => zI y1 M2) f (nI (zcu (fun i => decide (w.1 i = i)) i)) (nI i) M) (fun _ _ => True) (fun o => o = zI (nI (zcu (fun i => decide (w.1 i = i)) (S 0 0))) M) ?_ ?_ (Nat.zero_le _) (zN_ge (by omega)) trivial
  · intro f i _ hi _
    refine Or.inr ⟨(), ?_, trivial⟩
    have h8 := hk.1 i (by omega)
    show F_X10_atHome_L4 40 _ (f + 1) _ _ M = F_X10_atHome_L4 40 _ f _ _ M
    rw [F_X10_atHome_L4]
    simp (disch := omega) only [zbI_I, zbI_E, zbV_V, zbV_E, zbJ_J, zbH_I, zbH_E, zlt_eq, zltL_eq, zst_eq, zjo_eq, zck_t, zbo_0, zbo_1, zbo_n0, zbo_n1, c_lt_t, c_lt_f, c_le_t, c_le_f, c_eq_t, c_eq_f, c_T, c_F, d_ltpn, d_ltnp, d_ltnn_t, d_ltnn_f, d_lepn, d_lenp, d_eqpn, d_eqnp, d_eqnn_t, d_eqnn_f, zin_k, zix_k, nI_add, pk_mul, s_sub, s_addn, nn_nn, z_abs, li_0, li_1, gr_40_0, gr_40_1, sx_n hS, hw, i_eq]
    by_cases h : w.1 i = i
    · rw [zit_t h, zcu_t (decide_eq_true h)]
    · rw [zit_f h, zcu_f (decide_eq_false h)]
      rfl
  · intro f _ _
    show F_X10_atHome_L4 40 _ (f + 1) _ _ M = _
    rw [F_X10_atHome_L4]
    simp (disch := omega) only [zbI_I, zbI_E, zbV_V, zbV_E, zbJ_J, zbH_I, zbH_E, zlt_eq, zltL_eq, zst_eq, zjo_eq, zck_t, zbo_0, zbo_1, zbo_n0, zbo_n1, c_lt_t, c_lt_f, c_le_t, c_le_f, c_eq_t, c_eq_f, c_T, c_F, d_ltpn, d_ltnp, d_ltnn_t, d_ltnn_f, d_lepn, d_lenp, d_eqpn, d_eqnp, d_eqnn_t, d_eqnn_f, gr_40_0, sx_n hS]
theorem ah_m (hS : zSm S M) (ho : zSok S) (hW : zWr (M 102) 0 w) (hk : zWok S w) : F_X12_atHome 79 M = zI (nI (zcu (fun i => decide (w.1 i = i)) (S 0 0))) M := by
  have hn := so_n ho
  have hw := wr_n hW
  unfold F_X12_atHome
  refine zfor (i := 0) (f := zN) (a := ()) (S 0 0) (fun f i (_ : Unit) => F_X12_atHome_L4 79 (fun (y1 : Int32) (M2 : zM) => zI y1 M2) f (nI (zcu (fun i => decide (w.1 i = i)) i)) (nI i) M) (fun _ _ => True) (fun o => o = zI (nI (zcu (fun i => decide (w.1 i = i)) (S 0 0))) M) ?_ ?_ (Nat.zero_le _) (zN_ge (by omega)) trivial
  · intro f i _ hi _
    refine Or.inr ⟨(), ?_, trivial⟩
    have h8 := hk.1 i (by omega)
    show F_X12_atHome_L4 79 _ (f + 1) _ _ M = F_X12_atHome_L4 79 _ f _ _ M
    rw [F_X12_atHome_L4]
    simp (disch := omega) only [zbI_I, zbI_E, zbV_V, zbV_E, zbJ_J, zbH_I, zbH_E, zlt_eq, zltL_eq, zst_eq, zjo_eq, zck_t, zbo_0, zbo_1, zbo_n0, zbo_n1, c_lt_t, c_lt_f, c_le_t, c_le_f, c_eq_t, c_eq_f, c_T, c_F, d_ltpn, d_ltnp, d_ltnn_t, d_ltnn_f, d_lepn, d_lenp, d_eqpn, d_eqnp, d_eqnn_t, d_eqnn_f, zin_k, zix_k, nI_add, pk_mul, s_sub, s_addn, nn_nn, z_abs, li_0, li_1, gr_79_47, sm_n hS, hw, i_eq]
    by_cases h : w.1 i = i
    · rw [zit_t h, zcu_t (decide_eq_true h)]
    · rw [zit_f h, zcu_f (decide_eq_false h)]
      rfl
  · intro f _ _
    show F_X12_atHome_L4 79 _ (f + 1) _ _ M = _
    rw [F_X12_atHome_L4]
    simp (disch := omega) only [zbI_I, zbI_E, zbV_V, zbV_E, zbJ_J, zbH_I, zbH_E, zlt_eq, zltL_eq, zst_eq, zjo_eq, zck_t, zbo_0, zbo_1, zbo_n0, zbo_n1, c_lt_t, c_lt_f, c_le_t, c_le_f, c_eq_t, c_eq_f, c_T, c_F, d_ltpn, d_ltnp, d_ltnn_t, d_ltnn_f, d_lepn, d_lenp, d_eqpn, d_eqnp, d_eqnn_t, d_eqnn_f, sm_n hS]
/-- the first of a range -/
def zfi (P : Nat → Bool) : Nat → Nat → Int32
  | 0, _ => -1
  | d + 1, i => if P i = true then nI i else zfi P d (i + 1)
theorem zfi_s {P : Nat → Bool} {n i : Nat} (h : i < n) : zfi P (n - i) i = if P i = true then nI i else zfi P (n - (i + 1)) (i + 1) := by
  obtain ⟨d, hd⟩ : ∃ d, n - i = d + 1 := ⟨n - i - 1, by omega⟩
  rw [hd, show n - (i + 1) = d from by omega]
  rfl
theorem hd_x (hS : zSx S M) (ho : zSok S) (hW : zWx 40 w M) (hk : zWok S w) {a : Nat} (ha : a < 8) : F_X10_holder 40 (nI a) M = zI (zfi (fun i => decide (w.1 i = a)) (S 0 0) 0) M := by
  have hn := so_n ho
  have hw : ∀ i, i < 8 → M 41 i = nI (w.1 i) := hW.1
  unfold F_X10_holder
  refine zfor (i := 0) (f := zN) (a := ()) (S 0 0) (fun f i (_ : Unit) => F_X10_holder_L2 40 (nI a) (fun (M1 : zM) => zI (-1) M1) f (nI i) M) (fun i _ => zfi (fun i => decide (w.1 i = a)) (S 0 0 - i) i = zfi (fun i => decide (w.1 i = a)) (S 0 0) 0) (fun o => o = zI (zfi (fun i => decide (w.1 i = a)) (S 0 0) 0) M) ?_ ?_ (Nat.zero_le _) (zN_ge (by omega)) rfl
  · intro f i _ hi hI
    have h8 := hk.1 i (by omega)
    rw [zfi_s hi] at hI
    by_cases h : w.1 i = a
    · rw [if_pos (decide_eq_true h)] at hI
      refine Or.inl ?_
      rw [← hI]
      show F_X10_holder_L2 40 _ _ (f + 1) _ M = _
      rw [F_X10_holder_L2]
      simp (disch := omega) only [zbI_I, zbI_E, zbV_V, zbV_E, zbJ_J, zbH_I, zbH_E, zlt_eq, zltL_eq, zst_eq, zjo_eq, zck_t, zbo_0, zbo_1, zbo_n0, zbo_n1, c_lt_t, c_lt_f, c_le_t, c_le_f, c_eq_t, c_eq_f, c_T, c_F, d_ltpn, d_ltnp, d_ltnn_t, d_ltnn_f, d_lepn, d_lenp, d_eqpn, d_eqnp, d_eqnn_t, d_eqnn_f, zin_k, zix_k, nI_add, pk_mul, s_sub, s_addn, nn_nn, z_abs, li_1, gr_40_0, gr_40_1, sx_n hS, hw]
    · rw [if_neg (by rw [decide_eq_false h]; decide)] at hI
      refine Or.inr ⟨(), ?_, hI⟩
      show F_X10_holder_L2 40 _ _ (f + 1) _ M = F_X10_holder_L2 40 _ _ f _ M
      rw [F_X10_holder_L2]
      simp (disch := omega) only [zbI_I, zbI_E, zbV_V, zbV_E, zbJ_J, zbH_I, zbH_E, zlt_eq, zltL_eq, zst_eq, zjo_eq, zck_t, zbo_0, zbo_1, zbo_n0, zbo_n1, c_lt_t, c_lt_f, c_le_t, c_le_f, c_eq_t, c_eq_f, c_T, c_F, d_ltpn, d_ltnp, d_ltnn_t, d_ltnn_f, d_lepn, d_lenp, d_eqpn, d_eqnp, d_eqnn_t, d_eqnn_f, zin_k, zix_k, nI_add, pk_mul, s_sub, s_addn, nn_nn, z_abs, li_1, gr_40_0, gr_40_1, sx_n hS, hw]
  · intro f _ hI
    rw [← hI, Nat.sub_self]
    show F_X10_holder_L2 40 _ _ (f + 1) _ M = _
    rw [F_X10_holder_L2]
    simp (disch := omega) only [zbI_I, zbI_E, zbV_V, zbV_E, zbJ_J, zbH_I, zbH_E, zlt_eq, zltL_eq, zst_eq, zjo_eq, zck_t, zbo_0, zbo_1, zbo_n0, zbo_n1, c_lt_t, c_lt_f, c_le_t, c_le_f, c_eq_t, c_eq_f, c_T, c_F, d_ltpn, d_ltnp, d_ltnn_t, d_ltnn_f, d_lepn, d_lenp, d_eqpn, d_eqnp, d_eqnn_t, d_eqnn_f, gr_40_0, sx_n hS]
    rfl
theorem hd_m {r : Nat} (hr : zal r = 73) (hS : zSm S M) (ho : zSok S) (hW : zWr (M r) 0 w) (hk : zWok S w) {a : Nat} (ha : a < 8) : F_X12_holder 79 r (nI a) M = zI (zfi (fun i => decide (w.1 i = a)) (S 0 0) 0) M := by
  have hn := so_n ho
  have hw := wr_n hW
  unfold F_X12_holder
  refine zfor (i := 0) (f := zN) (a := ()) (S 0 0) (fun f i (_ : Unit) => F_X12_holder_L2 79 r (nI a) (fun (M1 : zM) => zI (-1) M1) f (nI i) M) (fun i _ => zfi (fun i => decide (w.1 i = a)) (S 0 0 - i) i = zfi (fun i => decide (w.1 i = a)) (S 0 0) 0) (fun o => o = zI (zfi (fun i => decide (w.1 i = a)) (S 0 0) 0) M) ?_ ?_ (Nat.zero_le _) (zN_ge (by omega)) rfl
  · intro f i _ hi hI
    have h8 := hk.1 i (by omega)
    rw [zfi_s hi] at hI
    by_cases h : w.1 i = a
    · rw [if_pos (decide_eq_true h)] at hI
      refine Or.inl ?_
      rw [← hI]
      show F_X12_holder_L2 79 _ _ _ (f + 1) _ M = _
      rw [F_X12_holder_L2]
      simp (disch := omega) only [zbI_I, zbI_E, zbV_V, zbV_E, zbJ_J, zbH_I, zbH_E, zlt_eq, zltL_eq, zst_eq, zjo_eq, zck_t, zbo_0, zbo_1, zbo_n0, zbo_n1, c_lt_t, c_lt_f, c_le_t, c_le_f, c_eq_t, c_eq_f, c_T, c_F, d_ltpn, d_ltnp, d_ltnn_t, d_ltnn_f, d_lepn, d_lenp, d_eqpn, d_eqnp, d_eqnn_t, d_eqnn_f, zin_k, zix_k, nI_add, pk_mul, s_sub, s_addn, nn_nn, z_abs, li_1, hr, sm_n hS, hw]
    · rw [if_neg (by rw [decide_eq_false h]; decide)] at hI
      refine Or.inr ⟨(), ?_, hI⟩
      show F_X12_holder_L2 79 _ _ _ (f + 1) _ M = F_X12_holder_L2 79 _ _ _ f _ M
      rw [F_X12_holder_L2]
      simp (disch := omega) only [zbI_I, zbI_E, zbV_V, zbV_E, zbJ_J, zbH_I, zbH_E, zlt_eq, zltL_eq, zst_eq, zjo_eq, zck_t, zbo_0, zbo_1, zbo_n0, zbo_n1, c_lt_t, c_lt_f, c_le_t, c_le_f, c_eq_t, c_eq_f, c_T, c_F, d_ltpn, d_ltnp, d_ltnn_t, d_ltnn_f, d_lepn, d_lenp, d_eqpn, d_eqnp, d_eqnn_t, d_eqnn_f, zin_k, zix_k, nI_add, pk_mul, s_sub, s_addn, nn_nn, z_abs, li_1, hr, sm_n hS, hw]
  · intro f _ hI
    rw [← hI, Nat.sub_self]
    show F_X12_holder_L2 79 _ _ _ (f + 1) _ M = _
    rw [F_X12_holder_L2]
    simp (disch := omega) only [zbI_I, zbI_E, zbV_V, zbV_E, zbJ_J, zbH_I, zbH_E, zlt_eq, zltL_eq, zst_eq, zjo_eq, zck_t, zbo_0, zbo_1, zbo_n0, zbo_n1, c_lt_t, c_lt_f, c_le_t, c_le_f, c_eq_t, c_eq_f, c_T, c_F, d_ltpn, d_ltnp, d_ltnn_t, d_ltnn_f, d_lepn, d_lenp, d_eqpn, d_eqnp, d_eqnn_t, d_eqnn_f, sm_n hS]
    rfl
/-- isles that lie on each other -/
def zli (S : zSD) (w : zWD) (a b t : Nat) : Bool := decide (S 6 (w.1 a) = S 6 (w.1 b) ∧ max (S 5 (w.1 a)) (S 5 (w.1 b)) + t + t < min (S 5 (w.1 a) + S 3 (w.1 a)) (S 5 (w.1 b) + S 3 (w.1 b)))
theorem li_x (hS : zSx S M) (ho : zSok S) (hW : zWx 40 w M) (hk : zWok S w) {a b t : Nat} (ha : a < S 0 0) (hb : b < S 0 0) (ht : t ≤ 9) : F_X10_lieOnEachOther 40 (nI a) (nI b) (nI t) M = zI (if zli S w a b t = true then 1 else 0) M := by
  have hn := so_n ho
  have hw : ∀ i, i < 8 → M 41 i = nI (w.1 i) := hW.1
  have hi := wo_n hk a ha
  have hj := wo_n hk b hb
  obtain ⟨a3, b3, a5, a6, a7⟩ := so_i ho _ hi
  obtain ⟨c3, d3, c5, c6, c7⟩ := so_i ho _ hj
  unfold F_X10_lieOnEachOther
  simp (disch := omega) only [zbI_I, zbI_E, zbV_V, zbV_E, zbJ_J, zbH_I, zbH_E, zlt_eq, zltL_eq, zst_eq, zjo_eq, zck_t, zbo_0, zbo_1, zbo_n0, zbo_n1, gr_40_0, gr_40_1, gr_3_6, gr_3_7, gr_3_4, gr_4_1, zin_k, zix_k, hw, sx_3 hS, sx_5 hS, sx_6 hS, nI_add, z_max, z_min, i_sle, i_eq]
  by_cases h1 : S 6 (w.1 a) = S 6 (w.1 b)
  · rw [zit_t h1]
    by_cases h2 : min (S 5 (w.1 a) + S 3 (w.1 a)) (S 5 (w.1 b) + S 3 (w.1 b)) ≤ max (S 5 (w.1 a)) (S 5 (w.1 b)) + t + t
    · rw [zit_t h2, show zli S w a b t = false from decide_eq_false (fun z => by omega)]
      rfl
    · rw [zit_f h2, show zli S w a b t = true from decide_eq_true ⟨h1, by omega⟩]
      rfl
  · rw [zit_f h1, show zli S w a b t = false from decide_eq_false (fun z => h1 z.1)]
    rfl
theorem li_m (hS : zSm S M) (ho : zSok S) (hW : zWr (M 102) 0 w) (hk : zWok S w) {a b t : Nat} (ha : a < S 0 0) (hb : b < S 0 0) (ht : t ≤ 9) : F_X12_lie 79 (nI a) (nI b) (nI t) M = zI (if zli S w a b t = true then 1 else 0) M := by
  have hn := so_n ho
  have hw := wr_n hW
  have hi := wo_n hk a ha
  have hj := wo_n hk b hb
  obtain ⟨a3, b3, a5, a6, a7⟩ := so_i ho _ hi
  obtain ⟨c3, d3, c5, c6, c7⟩ := so_i ho _ hj
  unfold F_X12_lie
  simp (disch := omega) only [zbI_I, zbI_E, zbV_V, zbV_E, zbJ_J, zbH_I, zbH_E, zlt_eq, zltL_eq, zst_eq, zjo_eq, zck_t, zbo_0, zbo_1, zbo_n0, zbo_n1, gr_79_47, gr_79_6, gr_79_7, gr_79_8, zin_k, zix_k, hw, sm_3 hS, sm_5 hS, sm_6 hS, nI_add, i_sle, i_eq, i_le]
  by_cases h0 : S 5 (w.1 a) ≤ S 5 (w.1 b)
  · rw [zit_t h0]
    by_cases h1 : S 6 (w.1 a) = S 6 (w.1 b)
    · rw [zit_t h1]
      by_cases h2 : S 5 (w.1 a) + S 3 (w.1 a) ≤ S 5 (w.1 b) + t + t
      · rw [zit_t h2, show zli S w a b t = false from decide_eq_false (fun z => by omega)]
        rfl
      · rw [zit_f h2]
        by_cases h3 : S 5 (w.1 b) + S 3 (w.1 b) ≤ S 5 (w.1 b) + t + t
        · rw [zit_t h3, show zli S w a b t = false from decide_eq_false (fun z => by omega)]
          rfl
        · rw [zit_f h3, show zli S w a b t = true from decide_eq_true ⟨h1, by omega⟩]
          rfl
    · rw [zit_f h1, show zli S w a b t = false from decide_eq_false (fun z => h1 z.1)]
      rfl
  · rw [zit_f h0]
    by_cases h1 : S 6 (w.1 a) = S 6 (w.1 b)
    · rw [zit_t h1]
      by_cases h2 : S 5 (w.1 a) + S 3 (w.1 a) ≤ S 5 (w.1 a) + t + t
      · rw [zit_t h2, show zli S w a b t = false from decide_eq_false (fun z => by omega)]
        rfl
      · rw [zit_f h2]
        by_cases h3 : S 5 (w.1 b) + S 3 (w.1 b) ≤ S 5 (w.1 a) + t + t
        · rw [zit_t h3, show zli S w a b t = false from decide_eq_false (fun z => by omega)]
          rfl
        · rw [zit_f h3, show zli S w a b t = true from decide_eq_true ⟨h1, by omega⟩]
          rfl
    · rw [zit_f h1, show zli S w a b t = false from decide_eq_false (fun z => h1 z.1)]
      rfl
end ZRD
