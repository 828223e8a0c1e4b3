/-! WHETHER THEY MAY, on both sides -/
theorem zx_bI {X : zO} {k : Int32 → zM → zO} {r r' : Int32} {P P' : zM → Prop} (h : ∃ M', X = zI r M' ∧ P M') (hk : ∀ M', P M' → ∃ M'', k r M' = zI r' M'' ∧ P' M'') : ∃ M'', zbI X k = zI r' M'' ∧ P' M'' := by
  obtain ⟨M', e, hp⟩ := h
  rw [e, zbI_I]
  exact hk M' hp
theorem zx_bV {X : zO} {k : zM → zO} {r' : Int32} {P P' : zM → Prop} (h : ∃ M', X = zV M' ∧ P M') (hk : ∀ M', P M' → ∃ M'', k M' = zI r' M'' ∧ P' M'') : ∃ M'', zbV X k = zI r' M'' ∧ P' M'' := by
  obtain ⟨M', e, hp⟩ := h
  rw [e, zbV_V]
  exact hk M' hp
/-! facts of a sea, one by one -/
section ZSF
variable {S : zSD} {M : zM}
theorem sx_n (h : zSx S M) : M 3 0 = nI (S 0 0) := h.1
theorem sx_f (h : zSx S M) : M 3 1 = nI (S 1 0) := h.2.1
theorem sx_v (h : zSx S M) : M 3 2 = nI (S 2 0) := h.2.2.1
theorem sx_3 (h : zSx S M) : ∀ i, i < S 0 0 → M 6 i = nI (S 3 i) := fun i hi => (h.2.2.2.1 i hi).1
theorem sx_5 (h : zSx S M) : ∀ i, i < S 0 0 → M 13 i = nI (S 5 i) := fun i hi => (h.2.2.2.1 i hi).2.1
theorem sx_6 (h : zSx S M) : ∀ i, i < S 0 0 → M 14 i = nI (S 6 i) := fun i hi => (h.2.2.2.1 i hi).2.2.1
theorem sx_7 (h : zSx S M) : ∀ i, i < S 0 0 → M 15 i = nI (S 7 i) := fun i hi => (h.2.2.2.1 i hi).2.2.2
theorem sx_4 (h : zSx S M) : ∀ i, i < S 0 0 → ∀ j, j < S 3 i → M 5 (9 * i + j) = nI (S 4 (9 * i + j)) := h.2.2.2.2.1
theorem sx_8 (h : zSx S M) : ∀ i, i < S 0 0 → ∀ k, k < S 0 0 → M 17 (8 * i + k) = nI (S 8 (8 * i + k)) := h.2.2.2.2.2.1
theorem sx_9 (h : zSx S M) : ∀ f, f < S 1 0 → M 18 f = nI (S 9 f) := fun f hf => (h.2.2.2.2.2.2.1 f hf).1
theorem sx_10 (h : zSx S M) : ∀ f, f < S 1 0 → M 19 f = nI (S 10 f) := fun f hf => (h.2.2.2.2.2.2.1 f hf).2.1
theorem sx_11 (h : zSx S M) : ∀ f, f < S 1 0 → M 20 f = nI (S 11 f) := fun f hf => (h.2.2.2.2.2.2.1 f hf).2.2
theorem sm_n (h : zSm S M) : M 79 1 = nI (S 0 0) := h.1
theorem sm_f (h : zSm S M) : M 79 2 = nI (S 1 0) := h.2.1
theorem sm_v (h : zSm S M) : M 79 3 = nI (S 2 0) := h.2.2.1
theorem sm_3 (h : zSm S M) : ∀ i, i < S 0 0 → M 81 i = nI (S 3 i) := fun i hi => (h.2.2.2.1 i hi).1
theorem sm_5 (h : zSm S M) : ∀ i, i < S 0 0 → M 82 i = nI (S 5 i) := fun i hi => (h.2.2.2.1 i hi).2.1
theorem sm_6 (h : zSm S M) : ∀ i, i < S 0 0 → M 83 i = nI (S 6 i) := fun i hi => (h.2.2.2.1 i hi).2.2.1
theorem sm_7 (h : zSm S M) : ∀ i, i < S 0 0 → M 84 i = nI (S 7 i) := fun i hi => (h.2.2.2.1 i hi).2.2.2
theorem sm_4 (h : zSm S M) : ∀ i, i < S 0 0 → ∀ j, j < S 3 i → M 80 (9 * i + j) = nI (S 4 (9 * i + j)) := h.2.2.2.2.1
theorem sm_9 (h : zSm S M) : ∀ f, f < S 1 0 → M 87 (3 * f) = nI (S 9 f) := fun f hf => (h.2.2.2.2.2.2 f hf).1
theorem sm_10 (h : zSm S M) : ∀ f, f < S 1 0 → M 87 (3 * f + 1) = nI (S 10 f) := fun f hf => (h.2.2.2.2.2.2 f hf).2.1
theorem sm_11 (h : zSm S M) : ∀ f, f < S 1 0 → M 87 (3 * f + 2) = nI (S 11 f) := fun f hf => (h.2.2.2.2.2.2 f hf).2.2
theorem so_n (h : zSok S) : S 0 0 ≤ 8 := h.1
theorem so_f (h : zSok S) : S 1 0 ≤ 12 := h.2.1
theorem so_i (h : zSok S) : ∀ i, i < S 0 0 → 1 ≤ S 3 i ∧ S 3 i ≤ 9 ∧ S 5 i ≤ 60 ∧ S 6 i ≤ 60 ∧ S 7 i ≤ 2 := h.2.2.2.2.1
theorem so_g (h : zSok S) : ∀ f, f < S 1 0 → S 9 f ≤ 200 ∧ S 10 f < S 0 0 ∧ S 11 f < S 0 0 ∧ S 10 f ≠ S 11 f := h.2.2.2.2.2.2.2
/-! a world's -/
variable {c : Nat} {w : zWD} {row : Nat → Int32}
theorem wx_n (h : zWx c w M) : ∀ i, i < 8 → M (c + 1) i = nI (w.1 i) := h.1
theorem wx_d (h : zWx c w M) : ∀ a, a < 8 → ∀ b, b < 8 → M (c + 2) (a * 8 + b) = w.2.1 (8 * a + b) := fun a ha b hb => by
  rw [Nat.mul_comm]
  exact h.2.1 _ (by omega)
theorem wx_y (h : zWx c w M) : M c 3 = w.2.2 := h.2.2
theorem wr_n (h : zWr row 0 w) : ∀ i, i < 8 → row i = nI (w.1 i) := fun i hi => by
  have := h.1 i hi
  rwa [Nat.zero_add] at this
theorem wr_d (h : zWr row 0 w) : ∀ a, a < 8 → ∀ b, b < 8 → row (8 + 8 * a + b) = w.2.1 (8 * a + b) := fun a ha b hb => by
  have := h.2.1 (8 * a + b) (by omega)
  rwa [Nat.zero_add, ← Nat.add_assoc] at this
theorem wr_y (h : zWr row 0 w) : row 72 = w.2.2 := h.2.2
theorem wo_n (h : zWok S w) : ∀ i, i < S 0 0 → w.1 i < S 0 0 := h.2.2.1
end ZSF
theorem zal102 : zal 102 = 73 := by decide +kernel
theorem zal103 : zal 103 = 73 := by decide +kernel
/-- the class: a law that is told -/
theorem ho_x {M : zM} {s : List (Nat × Nat)} {v : Nat → Int32} (h3 : M 9 3 = nI s.length) (hl : s.length ≤ 700) (hx : zxt (M 11) 0 s) (hd : zdep s 0 = some 1) (hv : ∀ k, k < 7 → M 10 k = v k) : ∃ M', F_X0_holds 9 M = zI (if (zrun v s 0 (fun _ => 0)).2 0 = 0 then 0 else 1) M' ∧ zoff [12] M M' := by
  unfold F_X0_holds
  have e := lw_x (fun (y1 : Int32) (M8 : zM) => zjo (fun (w4 : Int32) (M10 : zM) => zck (zbo w4) (zI w4 M10)) (fun (k4 : Int32 → zM → zO) => zjo (fun  (M9 : zM) => k4 0 M9) (fun (k5 : zM → zO) => zit (y1 < 1) (k5 M8) (zck (zin (y1 - 1) 40) (zit ((M8 (zgr 9 2) (zix (y1 - 1))) = 0) (k5 M8) (k4 1 M8)))))) M v hv s 0 0 1 (M 12) zN (by rw [h3, Nat.zero_add]) (by omega) hx hd (by omega) (zN_ge (by omega))
  rw [zupA_self] at e
  refine ⟨zupA M 12 (zrun v s 0 (M 12)).2, ?_, zoff_upA zoff_rfl (by decide)⟩
  refine Eq.trans e ?_
  rw [zrun_dep s 0 1 _ hd]
  simp (disch := omega) only [zbI_I, zbI_E, zbV_V, zbV_E, zbJ_J, zbH_I, zbH_E, zlt_eq, zltL_eq, zst_eq, zjo_eq, zck_t, zbo_0, zbo_1, zbo_n0, zbo_n1, zin_k, zix_k, zup_upA, zupA_A, zup_ne, zup_row, zupA_ne, zupA_eq, upd_eq, upd_ne, c_lt_t, c_lt_f, c_le_t, c_le_f, c_eq_t, c_eq_f, c_T, c_F, d_ltpn, d_ltnp, d_ltnn_t, d_ltnn_f, d_lepn, d_lenp, d_eqpn, d_eqnp, d_eqnn_t, d_eqnn_f, gr_9_2, li_1, s_sub]
  rw [zrun_cg s 0 1 (M 12) (fun _ => 0) hd (fun j hj => absurd hj (by omega)) 0 (by omega)]
  by_cases h : (zrun v s 0 (fun _ => 0)).2 0 = 0
  · rw [zit_t h, if_pos h]
  · rw [zit_f h, if_neg h]
theorem lh_x {S : zSD} {L : zLw} {M : zM} (hS : zSx S M) (ho : zSok S) (hk : zLok L) (hL : zLx L M) {i j : Nat} (hi : i < S 0 0) (hj : j < S 0 0) (debt year : Int32) : ∃ M', F_X6_lawHolds 3 (nI i) (nI j) debt year M = zI (if zlaw S L i j debt year = true then 1 else 0) M' ∧ zoff [10, 12] M M' := by
  unfold F_X6_lawHolds
  rw [gr_3_5, gr_3_4, gr_3_8, gr_9_0, gr_4_1]
  cases L with
  | none =>
    have h0 : M 9 4 = 0 := hL
    exact ⟨M, by rw [zit_t h0]; rfl, zoff_rfl⟩
  | some s =>
    obtain ⟨h4, h3, hx⟩ := hL
    obtain ⟨hl, hd⟩ := hk
    have hn := so_n ho
    obtain ⟨a3, b3, a5, a6, a7⟩ := so_i ho i hi
    obtain ⟨c3, d3, c5, c6, c7⟩ := so_i ho j hj
    rw [zit_f (by rw [h4]; decide)]
    simp (disch := omega) only [zbI_I, zbI_E, zbV_V, zbV_E, zbJ_J, zbH_I, zbH_E, zlt_eq, zltL_eq, zst_eq, zjo_eq, zck_t, zbo_0, zbo_1, F_X6_apart, gr_3_6, gr_3_7, li_0, li_1, li_2, li_3, li_4, li_5, li_6, zin_k, zix_k, zup_upA, zupA_A, zup_ne, zup_row, zupA_ne, zupA_eq, upd_eq, upd_ne, sx_3 hS, sx_5 hS, sx_6 hS, sx_7 hS, z_abs, nI_add]
    refine zx_bI (ho_x (s := s) (v := zvl S i j debt year) ?_ hl ?_ hd ?_) ?_
    · simp (disch := omega) only [zup_ne]
      exact h3
    · simp (disch := omega) only [zup_ne]
      exact hx
    · intro k hk
      have : k = 0 ∨ k = 1 ∨ k = 2 ∨ k = 3 ∨ k = 4 ∨ k = 5 ∨ k = 6 := by omega
      rcases this with rfl | rfl | rfl | rfl | rfl | rfl | rfl
      all_goals
        simp (disch := omega) only [zup_row, upd_eq, upd_ne]
        rfl
    · intro M' ho'
      have e1 : (if (zrun (zvl S i j debt year) s 0 (fun _ => 0)).2 0 = 0 then (0 : Int32) else 1) = if zlaw S (some s) i j debt year = true then 1 else 0 := by
        unfold zlaw
        by_cases h : (zrun (zvl S i j debt year) s 0 (fun _ => 0)).2 0 = 0
        · simp [h]
        · simp [h]
      rw [e1]
      refine ⟨M', ?_, ?_⟩
      · cases zlaw S (some s) i j debt year <;> rfl
      · intro z hz
        simp only [List.mem_cons, List.mem_nil_iff, or_false, not_or] at hz
        rw [ho' z (by simp only [List.mem_cons, List.mem_nil_iff, or_false]; exact hz.2)]
        simp only [zup_ne hz.1]
theorem zLx_off {L : zLw} {M M' : zM} (h : zLx L M) (e9 : M' 9 = M 9) (e11 : M' 11 = M 11) : zLx L M' := by
  unfold zLx at h ⊢
  rw [e9, e11]
  exact h
theorem zSx_off {S : zSD} {M M' : zM} (h : zSx S M) (e : ∀ i, i ∈ [3, 5, 6, 13, 14, 15, 17, 18, 19, 20, 23] → M' i = M i) : zSx S M' := by
  unfold zSx at h ⊢
  rw [e 3 (by decide), e 5 (by decide), e 6 (by decide), e 13 (by decide), e 14 (by decide), e 15 (by decide), e 17 (by decide), e 18 (by decide), e 19 (by decide), e 20 (by decide), e 23 (by decide)]
  exact h
/-- whether they might with these names -/
theorem lw_xx {S : zSD} {L : zLw} {w : zWD} {M : zM} {c : Nat} (hc : c = 40 ∨ c = 43) (hS : zSx S M) (ho : zSok S) (hk : zLok L) (hL : zLx L M) (hW : zWx c w M) {a b i j : Nat} (ha : a < 8) (hb : b < 8) (hi : i < S 0 0) (hj : j < S 0 0) : ∃ M', F_X10_letsWith c (nI a) (nI b) (nI i) (nI j) M = zI (if zmw S L w a b i j = true then 1 else 0) M' ∧ zoff [10, 12] M M' := by
  have hg : zgr c 0 = 3 ∧ zgr c 2 = c + 2 ∧ c ≠ 10 ∧ c ≠ 12 ∧ c + 2 ≠ 10 ∧ c + 2 ≠ 12 := by
    rcases hc with rfl | rfl
    · exact ⟨gr_40_0, gr_40_2, by decide, by decide, by decide, by decide⟩
    · exact ⟨gr_43_0, gr_43_2, by decide, by decide, by decide, by decide⟩
  obtain ⟨g0, g2, n1, n2, n3, n4⟩ := hg
  unfold F_X10_letsWith F_X10_owes
  simp (disch := omega) only [zbI_I, zbI_E, zbV_V, zbV_E, zbJ_J, zbH_I, zbH_E, zlt_eq, zltL_eq, zst_eq, zjo_eq, zck_t, zbo_0, zbo_1, g0, g2, li_8, pk_mul, nI_add, zin_k, zix_k, wx_d hW, wx_y hW]
  refine zx_bI (lh_x hS ho hk hL hi hj _ _) ?_
  intro M1 o1
  have e1 : ∀ i, i ≠ 10 → i ≠ 12 → M1 i = M i := fun i h1 h2 => o1 i (by simp [h1, h2])
  have hS1 : zSx S M1 := zSx_off hS (fun i hi => e1 i (fun e => by subst e; revert hi; decide) (fun e => by subst e; revert hi; decide))
  have hL1 : zLx L M1 := zLx_off hL (e1 9 (by decide) (by decide)) (e1 11 (by decide) (by decide))
  rw [e1 c n1 n2, e1 (c + 2) n3 n4]
  unfold zmw
  cases h1 : zlaw S L i j (w.2.1 (8 * a + b)) w.2.2 with
  | false => exact ⟨M1, by simp only [Bool.false_and, Bool.false_eq_true, if_false]; rfl, o1⟩
  | true =>
    simp only [Bool.true_and, if_true]
    rw [zit_f (by decide)]
    simp (disch := omega) only [wx_d hW, wx_y hW]
    refine zx_bI (lh_x hS1 ho hk hL1 hj hi _ _) ?_
    intro M2 o2
    refine ⟨M2, ?_, zoff_trans o1 o2⟩
    cases zlaw S L j i (w.2.1 (8 * b + a)) w.2.2 <;> rfl
theorem lt_x {S : zSD} {L : zLw} {w : zWD} {M : zM} {c : Nat} (hc : c = 40 ∨ c = 43) (hS : zSx S M) (ho : zSok S) (hk : zLok L) (hL : zLx L M) (hW : zWx c w M) (hw : zWok S w) {a b : Nat} (ha : a < S 0 0) (hb : b < S 0 0) : ∃ M', F_X10_lets c (nI a) (nI b) M = zI (if zmay S L w a b = true then 1 else 0) M' ∧ zoff [10, 12] M M' := by
  have hg : zgr c 1 = c + 1 := by
    rcases hc with rfl | rfl
    · exact gr_40_1
    · exact gr_43_1
  have hn := so_n ho
  unfold F_X10_lets
  simp (disch := omega) only [zbI_I, zbI_E, zbV_V, zbV_E, zbJ_J, zbH_I, zbH_E, zlt_eq, zltL_eq, zst_eq, zjo_eq, zck_t, zbo_0, zbo_1, hg, zin_k, zix_k, wx_n hW]
  refine zx_bI (lw_xx hc hS ho hk hL hW (by omega) (by omega) (wo_n hw a ha) (wo_n hw b hb)) ?_
  intro M1 o1
  refine ⟨M1, ?_, o1⟩
  unfold zmay
  cases zmw S L w a b (w.1 a) (w.1 b) <;> rfl
/-- the reference -/
theorem of_m {p q : Nat} {M : zM} (hp : p < 2 ^ 31) (hq : q < 2 ^ 31) : F_X12_off (nI p) (nI q) M = zI (nI ((p - q) + (q - p))) M := by
  unfold F_X12_off
  simp only [zjo_eq]
  by_cases h : q ≤ p
  · rw [zit_t (nI_le h hp), s_sub h, show q - p = 0 from by omega, Nat.add_zero]
  · rw [zit_f (nI_ge (by omega) hq), s_sub (by omega), show p - q = 0 from by omega, Nat.zero_add]
theorem ap_m {S : zSD} {M : zM} (h5 : ∀ i, i < S 0 0 → M 82 i = nI (S 5 i)) (h6 : ∀ i, i < S 0 0 → M 83 i = nI (S 6 i)) (ho : zSok S) {i j : Nat} (hi : i < S 0 0) (hj : j < S 0 0) : F_X12_apart 79 (nI i) (nI j) M = zI (nI (zap S i j)) M := by
  have hn := so_n ho
  obtain ⟨a3, b3, a5, a6, a7⟩ := so_i ho i hi
  obtain ⟨c3, d3, c5, c6, c7⟩ := so_i ho j hj
  unfold F_X12_apart
  simp (disch := omega) only [zbI_I, zbI_E, zbV_V, zbV_E, zbJ_J, zbH_I, zbH_E, zlt_eq, zltL_eq, zst_eq, zjo_eq, zck_t, zbo_0, zbo_1, gr_79_7, gr_79_8, zin_k, zix_k, h5, h6, of_m, nI_add]
  rfl
theorem re_m {M : zM} {s : List (Nat × Nat)} {v : Nat → Int32} {p : Nat} (h3 : M 79 4 = nI p) (hl : p + zcl s ≤ 1900) (hx : zat (M 88) p s) (hd : zdep s 0 = some 1) (hln : s.length ≤ 700) (hv : ∀ k, k < 7 → M 105 k = v k) : ∃ M', F_X12_reckons 79 M = zI ((zrun v s 0 (fun _ => 0)).2 0) M' ∧ zoff [106] M M' := by
  unfold F_X12_reckons
  have e := lw_m (fun  (M9 : zM) => zck (zin 0 950) (zI (M9 (zgr 79 52) (zix 0)) M9)) M v hv s p 0 1 (M 106) zN hl hx hd (by omega) (zN_ge (by omega))
  rw [zupA_self] at e
  refine ⟨zupA M 106 (zrun v s 0 (M 106)).2, ?_, zoff_upA zoff_rfl (by decide)⟩
  rw [zlt_eq, h3]
  refine Eq.trans e ?_
  simp (disch := omega) only [zbI_I, zbI_E, zbV_V, zbV_E, zbJ_J, zbH_I, zbH_E, zlt_eq, zltL_eq, zst_eq, zjo_eq, zck_t, zbo_0, zbo_1, li_0, zin_k, zix_k, gr_79_52, zupA_eq]
  rw [zrun_cg s 0 1 (M 106) (fun _ => 0) hd (fun j hj => absurd hj (by omega)) 0 (by omega)]
  rfl
set_option maxRecDepth 20000 in
theorem lh_m {S : zSD} {L : zLw} {w : zWD} {M : zM} {r : Nat} (hr : r = 102 ∨ r = 103) (hS : zSm S M) (ho : zSok S) (hk : zLok L) (hL : zLm L M) (hW : zWr (M r) 0 w) {a b : Nat} (ha : a < 8) (hb : b < 8) (hi : w.1 a < S 0 0) (hj : w.1 b < S 0 0) : ∃ M', F_X12_holds 79 r (nI a) (nI b) M = zI (if zlaw S L (w.1 a) (w.1 b) (w.2.1 (8 * a + b)) w.2.2 = true then 1 else 0) M' ∧ zoff [105, 106] M M' := by
  have hg : zal r = 73 ∧ r ≠ 105 := by
    rcases hr with rfl | rfl
    · exact ⟨zal102, by decide⟩
    · exact ⟨zal103, by decide⟩
  obtain ⟨g1, g2⟩ := hg
  unfold F_X12_holds
  cases L with
  | none =>
    have h0 : M 79 4 = -1 := hL
    exact ⟨M, by rw [zit_t h0]; rfl, zoff_rfl⟩
  | some s =>
    obtain ⟨p, h4, h3, hx⟩ := hL
    obtain ⟨hl, hd⟩ := hk
    have hn := so_n ho
    obtain ⟨a3, b3, a5, a6, a7⟩ := so_i ho _ hi
    obtain ⟨c3, d3, c5, c6, c7⟩ := so_i ho _ hj
    rw [zit_f (by rw [h4]; exact n_eqpn (b := 1) (by omega) (by omega) (by omega))]
    have w1 := wr_n hW a ha
    have w2 := wr_n hW b hb
    have w3 : M r (zix (8 + 8 * nI a + nI b)) = w.2.1 (8 * a + b) := by simp (disch := omega) only [li_8, pk_mul, nI_add, zix_k, wr_d hW]
    have w4 : M r (zix 72) = w.2.2 := by simp (disch := omega) only [li_72, zix_k, wr_y hW]
    have t1 : zin (nI a) (zal r) = true := by simp (disch := omega) only [g1, zin_k]
    have t2 : zin (nI b) (zal r) = true := by simp (disch := omega) only [g1, zin_k]
    have t3 : zin 72 (zal r) = true := by simp (disch := omega) only [g1, li_72, zin_k]
    have t4 : zin (8 + 8 * nI a + nI b) (zal r) = true := by simp (disch := omega) only [g1, li_8, pk_mul, nI_add, zin_k]
    have i1 : zix (nI a) = a := zix_k (by omega)
    have i2 : zix (nI b) = b := zix_k (by omega)
    rw [t1, zck_t, i1, w1, zlt_eq, t2, zck_t, i2, w2, zlt_eq]
    simp (disch := omega) only [zck_t, zst_eq, zbI_I, F_X12_apart, of_m, nI_add, gr_79_7, gr_79_8, sm_5 hS, sm_6 hS, t3, t4, gr_79_51, gr_79_6, gr_79_9, li_0, li_1, li_2, li_3, li_4, li_5, li_6, zin_k, zix_k, zup_ne, w3, w4, sm_3 hS, sm_7 hS]
    refine zx_bI (re_m (s := s) (v := zvl S (w.1 a) (w.1 b) (w.2.1 (8 * a + b)) w.2.2) (p := p) ?_ h3 ?_ hd hl ?_) ?_
    · simp (disch := omega) only [zup_ne]
      exact h4
    · simp (disch := omega) only [zup_ne]
      exact hx
    · intro k hk
      have : k = 0 ∨ k = 1 ∨ k = 2 ∨ k = 3 ∨ k = 4 ∨ k = 5 ∨ k = 6 := by omega
      rcases this with rfl | rfl | rfl | rfl | rfl | rfl | rfl
      all_goals
        simp (disch := omega) only [zup_row, upd_eq, upd_ne]
        rfl
    · intro M' ho'
      refine ⟨M', ?_, ?_⟩
      · by_cases h : (zrun (zvl S (w.1 a) (w.1 b) (w.2.1 (8 * a + b)) w.2.2) s 0 (fun _ => 0)).2 0 = 0
        · have hz : zlaw S (some s) (w.1 a) (w.1 b) (w.2.1 (8 * a + b)) w.2.2 = false := by
            unfold zlaw
            simp [h]
          rw [hz]
          try simp only [zjo_eq]
          rw [zit_t (show _ = nI 0 from h), zbo_n0, zck_t]
          rfl
        · have hz : zlaw S (some s) (w.1 a) (w.1 b) (w.2.1 (8 * a + b)) w.2.2 = true := by
            unfold zlaw
            simp [h]
          rw [hz]
          try simp only [zjo_eq]
          rw [zit_f (show ¬ _ = nI 0 from h), zbo_n1, zck_t]
          rfl
      · intro z hz
        simp only [List.mem_cons, List.mem_nil_iff, or_false, not_or] at hz
        rw [ho' z (by simp only [List.mem_cons, List.mem_nil_iff, or_false]; exact hz.2)]
        simp only [zup_ne hz.1]
theorem zSm_off {S : zSD} {M M' : zM} (h : zSm S M) (e79 : ∀ k, k ∈ [1, 2, 3] → M' 79 k = M 79 k) (e : ∀ i, i ∈ [80, 81, 82, 83, 84, 85, 86, 87] → M' i = M i) : zSm S M' := by
  unfold zSm at h ⊢
  rw [e79 1 (by decide), e79 2 (by decide), e79 3 (by decide), e 80 (by decide), e 81 (by decide), e 82 (by decide), e 83 (by decide), e 84 (by decide), e 85 (by decide), e 86 (by decide), e 87 (by decide)]
  exact h
theorem zLm_off {L : zLw} {M M' : zM} (h : zLm L M) (e9 : M' 79 4 = M 79 4) (e11 : M' 88 = M 88) : zLm L M' := by
  unfold zLm at h ⊢
  rw [e9, e11]
  exact h
theorem lt_m {S : zSD} {L : zLw} {w : zWD} {M : zM} {r : Nat} (hr : r = 102 ∨ r = 103) (hS : zSm S M) (ho : zSok S) (hk : zLok L) (hL : zLm L M) (hW : zWr (M r) 0 w) {a b : Nat} (ha : a < 8) (hb : b < 8) (hi : w.1 a < S 0 0) (hj : w.1 b < S 0 0) : ∃ M', F_X12_maySwap 79 r (nI a) (nI b) M = zI (if zmay S L w a b = true then 1 else 0) M' ∧ zoff [105, 106] M M' := by
  unfold F_X12_maySwap
  refine zx_bI (lh_m hr hS ho hk hL hW ha hb hi hj) ?_
  intro M1 o1
  have e1 : ∀ i, i ≠ 105 → i ≠ 106 → M1 i = M i := fun i h1 h2 => o1 i (by simp [h1, h2])
  have hS1 : zSm S M1 := zSm_off hS (fun k _ => by rw [e1 79 (by decide) (by decide)]) (fun i hi => e1 i (fun e => by subst e; revert hi; decide) (fun e => by subst e; revert hi; decide))
  have hL1 : zLm L M1 := zLm_off hL (by rw [e1 79 (by decide) (by decide)]) (e1 88 (by decide) (by decide))
  have hW1 : zWr (M1 r) 0 w := by
    rw [e1 r (by rcases hr with rfl | rfl <;> decide) (by rcases hr with rfl | rfl <;> decide)]
    exact hW
  unfold zmay zmw
  cases h1 : zlaw S L (w.1 a) (w.1 b) (w.2.1 (8 * a + b)) w.2.2 with
  | false => exact ⟨M1, by simp only [Bool.false_and, Bool.false_eq_true, if_false]; rfl, o1⟩
  | true =>
    simp only [Bool.true_and, if_true, zjo_eq]
    rw [zit_f (by decide)]
    refine zx_bI (lh_m hr hS1 ho hk hL1 hW1 hb ha hj hi) ?_
    intro M2 o2
    refine ⟨M2, ?_, zoff_trans o1 o2⟩
    cases zlaw S L (w.1 b) (w.1 a) (w.2.1 (8 * b + a)) w.2.2 <;> rfl
