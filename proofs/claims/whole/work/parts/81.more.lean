/-! STILL MORE THAT READ -/
/-- the least of those that are -/
theorem zleast {P : Nat → Prop} : ∀ n, P n → ∃ m, m ≤ n ∧ P m ∧ ∀ k, k < m → ¬ P k := by
  intro n
  induction n using Nat.strongRecOn with
  | ind n ih =>
    intro h
    by_cases hx : ∃ k, k < n ∧ P k
    · obtain ⟨k, hk, hp⟩ := hx
      obtain ⟨m, h1, h2, h3⟩ := ih k hk hp
      exact ⟨m, by omega, h2, h3⟩
    · exact ⟨n, Nat.le_refl _, h, fun k hk hp => hx ⟨k, hk, hp⟩⟩
def zorb (p : Nat → Nat) (i : Nat) : Nat → Nat
  | 0 => i
  | k + 1 => p (zorb p i k)
theorem zorb_lt {n : Nat} {p : Nat → Nat} (h : ∀ i, i < n → p i < n) {i : Nat} (hi : i < n) : ∀ k, zorb p i k < n
  | 0 => hi
  | k + 1 => h _ (zorb_lt h hi k)
theorem zorb_back {n : Nat} {p : Nat → Nat} (h : ∀ i, i < n → p i < n) (hj : ∀ i, i < n → ∀ j, j < n → p i = p j → i = j) {i : Nat} (hi : i < n) : ∀ a b, zorb p i a = zorb p i (b + a) → zorb p i 0 = zorb p i b
  | 0, b, e => e
  | a + 1, b, e => zorb_back h hj hi a b (hj _ (zorb_lt h hi _) _ (zorb_lt h hi _) e)
/-- one comes back to where one began -/
theorem zring {n : Nat} {p : Nat → Nat} (h : ∀ i, i < n → p i < n) (hj : ∀ i, i < n → ∀ j, j < n → p i = p j → i = j) {i : Nat} (hi : i < n) : ∃ m, 1 ≤ m ∧ m ≤ n ∧ zorb p i m = i ∧ ∀ k, 1 ≤ k → k < m → zorb p i k ≠ i := by
  obtain ⟨a, b, hab, hb, e⟩ := zpig n (zorb p i) (fun k _ => zorb_lt h hi k)
  obtain ⟨c, rfl⟩ : ∃ c, b = c + a := ⟨b - a, by omega⟩
  have e1 := zorb_back h hj hi a c e
  obtain ⟨m, h1, ⟨h2, h3⟩, h4⟩ := zleast (P := fun m => 1 ≤ m ∧ zorb p i m = i) c ⟨by omega, e1.symm⟩
  exact ⟨m, h2, by omega, h3, fun k hk1 hk2 hz => h4 k hk2 ⟨hk1, hz⟩⟩
theorem op_caravan (q : zSt) (ho : zok q) (a : Int32) : zOp 1 (F_X11_caravan 0 a) (F_X12_caravan 79 a) zNSE zIAE q := by
  have hn := qo_n ho
  have hW := qo_W ho
  refine zop_one ho (by omega) a (fun _ => rfl) (fun _ => rfl) (fun M => ⟨0, rfl⟩) ?_
  rintro i hi rfl
  obtain ⟨m, m1, m2, m3, m4⟩ := zring hW.2.2.1 hW.2.1 hi
  have hlt := zorb_lt hW.2.2.1 hi
  refine zop0_ret (r := nI m) (fun M h => ⟨M, ?_, zoff_rfl⟩) (fun M h h0 => ⟨M, ?_, zoff_rfl⟩)
  · simp (disch := omega) only [zbI_I, zbI_E, zbV_V, zbV_E, zbJ_J, zbH_I, zbH_E, zlt_eq, zltL_eq, zst_eq, zjo_eq, zck_t, zbo_0, zbo_1, zbo_n0, zbo_n1, gr_0_4, gr_40_1, zin_k, zix_k, x_n h]
    refine zwhl (fun f k => F_X11_caravan_L17 0 (nI i) (fun (y1 : Int32) (M2 : zM) => zI y1 M2) f (nI (zorb (tW q).1 i k)) (nI k) M) (fun d k => k + d = m ∧ 1 ≤ k) (fun o => o = zI (nI m) M) ?_ (m - 1) zN 1 (zN_ge (by omega)) ⟨by omega, by omega⟩
    rintro f d k ⟨hk, hk1⟩
    have hlk := hlt k
    show F_X11_caravan_L17 0 (nI i) _ (f + 1) _ _ M = _ ∨ _
    rw [F_X11_caravan_L17]
    by_cases hd : d = 0
    · subst hd
      obtain rfl : k = m := by omega
      refine Or.inl ?_
      rw [zit_t (by rw [m3])]
    · refine Or.inr ⟨d - 1, k + 1, by omega, ?_, by omega, by omega⟩
      have := m4 k hk1 (by omega)
      simp (disch := omega) only [zbI_I, zbI_E, zbV_V, zbV_E, zbJ_J, zbH_I, zbH_E, zlt_eq, zltL_eq, zst_eq, zjo_eq, zck_t, zbo_0, zbo_1, zbo_n0, zbo_n1, c_lt_t, c_lt_f, c_le_t, c_le_f, c_eq_t, c_eq_f, c_T, c_F, d_ltpn, d_ltnp, d_ltnn_t, d_ltnn_f, d_lepn, d_lenp, d_eqpn, d_eqnp, d_eqnn_t, d_eqnn_f, li_8, li_1, nI_add, gr_0_4, gr_40_1, zin_k, zix_k, x_n h]
      rfl
  · simp (disch := omega) only [zbI_I, zbI_E, zbV_V, zbV_E, zbJ_J, zbH_I, zbH_E, zlt_eq, zltL_eq, zst_eq, zjo_eq, zck_t, zbo_0, zbo_1, zbo_n0, zbo_n1, c_lt_t, c_lt_f, c_le_t, c_le_f, c_eq_t, c_eq_f, c_T, c_F, d_ltpn, d_ltnp, d_ltnn_t, d_ltnn_f, d_lepn, d_lenp, d_eqpn, d_eqnp, d_eqnn_t, d_eqnn_f, li_1, li_0, gr_79_47, zin_k, zix_k, m_n h]
    refine zwhl (fun f k => F_X12_caravan_L24 79 (nI i) (fun (y1 : Int32) (M2 : zM) => zI y1 M2) f (nI k) (nI (zorb (tW q).1 i k)) M) (fun d k => k + d = m ∧ 1 ≤ k) (fun o => o = zI (nI m) M) ?_ (m - 1) zN 1 (zN_ge (by omega)) ⟨by omega, by omega⟩
    rintro f d k ⟨hk, hk1⟩
    have hlk := hlt k
    show F_X12_caravan_L24 79 (nI i) _ (f + 1) _ _ M = _ ∨ _
    rw [F_X12_caravan_L24]
    by_cases hd : d = 0
    · subst hd
      obtain rfl : k = m := by omega
      refine Or.inl ?_
      rw [zit_t (by rw [m3])]
    · refine Or.inr ⟨d - 1, k + 1, by omega, ?_, by omega, by omega⟩
      have := m4 k hk1 (by omega)
      simp (disch := omega) only [zbI_I, zbI_E, zbV_V, zbV_E, zbJ_J, zbH_I, zbH_E, zlt_eq, zltL_eq, zst_eq, zjo_eq, zck_t, zbo_0, zbo_1, zbo_n0, zbo_n1, c_lt_t, c_lt_f, c_le_t, c_le_f, c_eq_t, c_eq_f, c_T, c_F, d_ltpn, d_ltnp, d_ltnn_t, d_ltnn_f, d_lepn, d_lenp, d_eqpn, d_eqnp, d_eqnn_t, d_eqnn_f, li_1, nI_add, gr_79_47, zin_k, zix_k, m_n h]
      rfl
/-- owed -/
def zos (w : zWD) (i : Nat) : Nat → Int32
  | 0 => 0
  | k + 1 => zos w i k + (if 0 < w.2.1 (8 * k + i) then w.2.1 (8 * k + i) else 0)
theorem neg_nl {x : Int32} (h : x = -x) : ¬ 0 < x := fun hx => by
  rw [Int32.lt_iff_toInt_lt] at hx
  have h1 := congrArg Int32.toInt h
  have h2 := Int32.toInt_lt x
  have h3 := Int32.le_toInt x
  rw [Int32.toInt_neg] at h1
  rw [show (0 : Int32).toInt = 0 from rfl] at hx
  rw [Int.bmod_eq_of_le (by omega) (by omega)] at h1
  omega
section ZOW
variable {S : zSD} {w : zWD} {M : zM}
theorem ow_x (hS : zSx S M) (ho : zSok S) (hW : zWx 40 w M) {i : Nat} (hi : i < S 0 0) : F_X10_owedTo 40 (nI i) M = zI (zos w i (S 0 0)) M := by
  have hn := so_n ho
  have hd : ∀ a, a < 8 → ∀ b, b < 8 → M 42 (a * 8 + b) = w.2.1 (8 * a + b) := wx_d hW
  unfold F_X10_owedTo
  refine zfor (i := 0) (f := zN) (a := ()) (S 0 0) (fun f k (_ : Unit) => F_X10_owedTo_L4 40 (nI i) (fun (y1 : Int32) (M2 : zM) => zI y1 M2) f (zos w i k) (nI k) M) (fun _ _ => True) (fun o => o = _) ?_ ?_ (by omega) (zN_ge (by omega)) trivial
  · rintro f k _ hk -
    refine Or.inr ⟨(), ?_, trivial⟩
    show F_X10_owedTo_L4 40 (nI i) _ (f + 1) _ _ M = F_X10_owedTo_L4 40 (nI i) _ f _ _ M
    rw [F_X10_owedTo_L4]
    unfold F_X10_owes
    simp (disch := omega) only [zbI_I, zbI_E, zbV_V, zbV_E, zbJ_J, zbH_I, zbH_E, zlt_eq, zltL_eq, zst_eq, zjo_eq, zck_t, zbo_0, zbo_1, zbo_n0, zbo_n1, c_lt_t, c_lt_f, c_le_t, c_le_f, c_eq_t, c_eq_f, c_T, c_F, d_ltpn, d_ltnp, d_ltnn_t, d_ltnn_f, d_lepn, d_lenp, d_eqpn, d_eqnp, d_eqnn_t, d_eqnn_f, li_8, gr_40_0, gr_40_2, pk_mul, nI_add, nI_1, zin_k, zix_k, sx_n hS, hd]
    rfl
  · rintro f _ -
    show F_X10_owedTo_L4 40 (nI i) _ (f + 1) _ _ M = _
    rw [F_X10_owedTo_L4]
    simp (disch := omega) only [c_lt_t, c_lt_f, c_le_t, c_le_f, c_eq_t, c_eq_f, c_T, c_F, d_ltpn, d_ltnp, d_ltnn_t, d_ltnn_f, d_lepn, d_lenp, d_eqpn, d_eqnp, d_eqnn_t, d_eqnn_f, gr_40_0, sx_n hS]
theorem ow_m (hS : zSm S M) (ho : zSok S) (hW : zWr (M 102) 0 w) (hk : zWok S w) {i : Nat} (hi : i < S 0 0) : F_X12_owedTo 79 (nI i) M = zI (zos w i (S 0 0)) M := by
  have hn := so_n ho
  have hd := wr_d hW
  unfold F_X12_owedTo
  refine zfor (i := 0) (f := zN) (a := ()) (S 0 0) (fun f k (_ : Unit) => F_X12_owedTo_L4 79 (nI i) (fun (y1 : Int32) (M2 : zM) => zI y1 M2) f (zos w i k) (nI k) M) (fun _ _ => True) (fun o => o = _) ?_ ?_ (by omega) (zN_ge (by omega)) trivial
  · rintro f k _ hkk -
    refine Or.inr ⟨(), ?_, trivial⟩
    show F_X12_owedTo_L4 79 (nI i) _ (f + 1) _ _ M = F_X12_owedTo_L4 79 (nI i) _ f _ _ M
    rw [F_X12_owedTo_L4]
    simp (disch := omega) only [zbI_I, zbI_E, zbV_V, zbV_E, zbJ_J, zbH_I, zbH_E, zlt_eq, zltL_eq, zst_eq, zjo_eq, zck_t, zbo_0, zbo_1, zbo_n0, zbo_n1, c_le_f, li_8, gr_79_47, pk_mul, nI_add, nI_1, zin_k, zix_k, sm_n hS, hd, i_eq]
    have hs : zos w i (k + 1) = zos w i k + (if 0 < w.2.1 (8 * k + i) then w.2.1 (8 * k + i) else 0) := rfl
    rw [hs]
    by_cases hki : k = i
    · subst hki
      rw [zit_t rfl, if_neg (neg_nl (hk.2.2.2 k (by omega) k (by omega)))]
    · rw [zit_f hki]
      by_cases hp : 0 < w.2.1 (8 * k + i)
      · rw [if_pos hp, zit_f (fun z => Int32.lt_irrefl (Int32.lt_of_lt_of_le hp z))]
      · rw [if_neg hp, zit_t (Int32.not_lt.mp hp)]
  · rintro f _ -
    show F_X12_owedTo_L4 79 (nI i) _ (f + 1) _ _ M = _
    rw [F_X12_owedTo_L4]
    simp (disch := omega) only [c_lt_t, c_lt_f, c_le_t, c_le_f, c_eq_t, c_eq_f, c_T, c_F, d_ltpn, d_ltnp, d_ltnn_t, d_ltnn_f, d_lepn, d_lenp, d_eqpn, d_eqnp, d_eqnn_t, d_eqnn_f, sm_n hS]
end ZOW
/-- most, whom -/
def zod (S : zSD) (w : zWD) : Nat → Int32 × Int32
  | 0 => (0, -1)
  | i + 1 => if zos w i (S 0 0) ≤ (zod S w i).1 then zod S w i else (zos w i (S 0 0), nI i)
theorem op_owed (q : zSt) (ho : zok q) (a : Int32) : zOp 1 (F_X11_owed 0 a) (F_X12_owed 79 a) zNSE zIAE q := by
  have hn := qo_n ho
  have hY : ∀ M, F_X12_owed 79 a M = F_X12_owed 79 a (zup M 79 0 0) := fun M => by unfold F_X12_owed; rw [zup_idem]
  rcases zca (m := 1) (by omega) a with ⟨t, ht, rfl⟩ | ha
  · refine zop_self hY (zop0_ret (r := if t = 0 then (zod (tS q) (tW q) (tS q 0 0)).2 else (zod (tS q) (tW q) (tS q 0 0)).1) (fun M h => ⟨M, ?_, zoff_rfl⟩) (fun M h h0 => ⟨M, ?_, zoff_rfl⟩))
    · unfold F_X11_owed
      have e0 : F_X11_needFirstOrCount (nI t) M = zV M := by
        unfold F_X11_needFirstOrCount
        have : t = 0 ∨ t = 1 := by omega
        rcases this with rfl | rfl
        · simp only [zjo_eq]; rw [zit_t (by decide)]
        · simp only [zjo_eq]; rw [zit_f (by decide), zit_t (by decide)]
      rw [e0, zbV_V]
      refine zfor (i := 0) (f := zN) (a := ()) (tS q 0 0) (fun f k (_ : Unit) => F_X11_owed_L11 0 (nI t) (fun (y1 : Int32) (y2 : Int32) (M4 : zM) => zjo (fun (w3 : Int32) (M5 : zM) => zI w3 M5) (fun (k2 : Int32 → zM → zO) => zit (nI t = 0) (k2 y2 M4) (k2 y1 M4))) f (zod (tS q) (tW q) k).1 (zod (tS q) (tW q) k).2 (nI k) M) (fun _ _ => True) (fun o => o = _) ?_ ?_ (by omega) (zN_ge (by omega)) trivial
      · rintro f k _ hk -
        refine Or.inr ⟨(), ?_, trivial⟩
        show F_X11_owed_L11 0 (nI t) _ (f + 1) _ _ _ M = F_X11_owed_L11 0 (nI t) _ f _ _ _ M
        rw [F_X11_owed_L11, gr_0_4, ow_x (qx_S h) (qo_S ho) (qx_W h) hk]
        simp (disch := omega) only [zbI_I, zbI_E, zbV_V, zbV_E, zbJ_J, zbH_I, zbH_E, zlt_eq, zltL_eq, zst_eq, zjo_eq, zck_t, zbo_0, zbo_1, zbo_n0, zbo_n1, c_le_f, gr_0_1, nI_1, sx_n (qx_S h)]
        have hs : zod (tS q) (tW q) (k + 1) = if zos (tW q) k (tS q 0 0) ≤ (zod (tS q) (tW q) k).1 then zod (tS q) (tW q) k else (zos (tW q) k (tS q 0 0), nI k) := rfl
        rw [hs]
        by_cases hz : zos (tW q) k (tS q 0 0) ≤ (zod (tS q) (tW q) k).1
        · rw [zit_t hz, if_pos hz]
        · rw [zit_f hz, if_neg hz]
      · rintro f _ -
        show F_X11_owed_L11 0 (nI t) _ (f + 1) _ _ _ M = _
        rw [F_X11_owed_L11]
        simp (disch := omega) only [zbI_I, zbI_E, zbV_V, zbV_E, zbJ_J, zbH_I, zbH_E, zlt_eq, zltL_eq, zst_eq, zjo_eq, zck_t, zbo_0, zbo_1, zbo_n0, zbo_n1, c_le_t, gr_0_1, sx_n (qx_S h)]
        have : t = 0 ∨ t = 1 := by omega
        rcases this with rfl | rfl
        · rfl
        · rfl
    · unfold F_X12_owed
      rw [zst_eq, zup_same h0, show (1 : Int32) = nI 1 from rfl, pm_what_in h0 ht (by omega), zbI_I, zit_f (by decide)]
      refine zfor (i := 0) (f := zN) (a := ()) (tS q 0 0) (fun f k (_ : Unit) => F_X12_owed_L23 79 (nI t) (fun (y1 : Int32) (y2 : Int32) (M6 : zM) => zjo (fun (w3 : Int32) (M7 : zM) => zI w3 M7) (fun (k2 : Int32 → zM → zO) => zit (nI t = 0) (k2 y1 M6) (k2 y2 M6))) f (zod (tS q) (tW q) k).2 (zod (tS q) (tW q) k).1 (nI k) M) (fun _ _ => True) (fun o => o = _) ?_ ?_ (by omega) (zN_ge (by omega)) trivial
      · rintro f k _ hk -
        refine Or.inr ⟨(), ?_, trivial⟩
        show F_X12_owed_L23 79 (nI t) _ (f + 1) _ _ _ M = F_X12_owed_L23 79 (nI t) _ f _ _ _ M
        rw [F_X12_owed_L23]
        simp (disch := omega) only [zbI_I, zbI_E, zbV_V, zbV_E, zbJ_J, zbH_I, zbH_E, zlt_eq, zltL_eq, zst_eq, zjo_eq, zck_t, zbo_0, zbo_1, zbo_n0, zbo_n1, c_le_f, nI_1, sm_n (qm_S h), ow_m (qm_S h) (qo_S ho) (qm_W h) (qo_W ho) hk]
        have hs : zod (tS q) (tW q) (k + 1) = if zos (tW q) k (tS q 0 0) ≤ (zod (tS q) (tW q) k).1 then zod (tS q) (tW q) k else (zos (tW q) k (tS q 0 0), nI k) := rfl
        rw [hs]
        by_cases hz : zos (tW q) k (tS q 0 0) ≤ (zod (tS q) (tW q) k).1
        · rw [zit_f (Int32.not_lt.mpr hz), if_pos hz]
        · rw [zit_t (Int32.not_le.mp hz), if_neg hz]
      · rintro f _ -
        show F_X12_owed_L23 79 (nI t) _ (f + 1) _ _ _ M = _
        rw [F_X12_owed_L23]
        simp (disch := omega) only [zbI_I, zbI_E, zbV_V, zbV_E, zbJ_J, zbH_I, zbH_E, zlt_eq, zltL_eq, zst_eq, zjo_eq, zck_t, zbo_0, zbo_1, zbo_n0, zbo_n1, c_le_t, sm_n (qm_S h)]
        have : t = 0 ∨ t = 1 := by omega
        rcases this with rfl | rfl
        · rfl
        · rfl
  · refine zop_rf hY 1 (Or.inl rfl) (by omega) (fun M h => ?_) (fun M h h0 => ⟨0, ?_⟩)
    · unfold F_X11_owed F_X11_needFirstOrCount
      simp only [zjo_eq, li_0, li_1]
      rw [zit_f (out_ne ha (by omega) (by omega)), zit_f (out_ne ha (by omega) (by omega)), zbV_E]
      rfl
    · unfold F_X12_owed
      rw [zst_eq, zup_same h0, show (1 : Int32) = nI 1 from rfl, pm_what_out h0 ha, zbI_I]
      rfl
