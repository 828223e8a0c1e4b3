/-! WORDS: inside, joined, worn -/
def zra (S : zSD) (a fa b fb len : Nat) : Bool := decide (∀ k, k < len → S 4 (9 * a + (fa + k)) = S 4 (9 * b + (fb + k)))
def zov (S : zSD) (a b : Nat) : Nat → Nat
  | 0 => 0
  | d + 1 => if zra S a (S 3 a - (d + 1)) b 0 (d + 1) = true then d + 1 else zov S a b d
def zan (P : Nat → Bool) : Nat → Nat → Bool
  | 0, _ => false
  | d + 1, i => P i || zan P d (i + 1)
theorem zan_s {P : Nat → Bool} {n i : Nat} (h : i < n) : zan P (n - i) i = (P i || zan P (n - (i + 1)) (i + 1)) := by
  obtain ⟨d, hd⟩ : ∃ d, n - i = d + 1 := ⟨n - i - 1, by omega⟩
  rw [hd, show n - (i + 1) = d from by omega]
  rfl
theorem zov_le (S : zSD) (a b : Nat) : ∀ d, zov S a b d ≤ d
  | 0 => Nat.le_refl _
  | d + 1 => by
    have := zov_le S a b d
    unfold zov
    split <;> omega
def zcm (S : zSD) (a b : Nat) : Nat := zov S a b (min (S 3 a) (S 3 b) - 1)
theorem zcm_lt {S : zSD} (ho : zSok S) {a b : Nat} (ha : a < S 0 0) (hb : b < S 0 0) : zcm S a b < S 3 a ∧ zcm S a b < S 3 b := by
  obtain ⟨a3, -⟩ := so_i ho a ha
  obtain ⟨b3, -⟩ := so_i ho b hb
  have := zov_le S a b (min (S 3 a) (S 3 b) - 1)
  unfold zcm
  omega
def zii (S : zSD) (a b : Nat) : Bool := zan (fun f => zra S a 0 b f (S 3 a)) (S 3 b + 1 - S 3 a) 0
theorem so_4 {S : zSD} (h : zSok S) : ∀ i, i < S 0 0 → ∀ j, j < S 3 i → 1 ≤ S 4 (9 * i + j) ∧ S 4 (9 * i + j) ≤ 26 := h.2.2.2.2.2.1
section ZWD
variable {S : zSD} {M : zM}
theorem ra_x (hS : zSx S M) (ho : zSok S) {a b fa fb len : Nat} (ha : a < S 0 0) (hb : b < S 0 0) (h1 : fa + len ≤ S 3 a) (h2 : fb + len ≤ S 3 b) : F_X9_runsAlike 4 (nI a) (nI fa) (nI b) (nI fb) (nI len) M = zI (if zra S a fa b fb len = true then 1 else 0) M := by
  have hn := so_n ho
  obtain ⟨a3, b3, -⟩ := so_i ho a ha
  obtain ⟨c3, d3, -⟩ := so_i ho b hb
  unfold F_X9_runsAlike
  refine zfor (i := 0) (f := zN) (a := ()) len (fun f k (_ : Unit) => F_X9_runsAlike_L3 4 (nI a) (nI fa) (nI b) (nI fb) (nI len) (fun (M3 : zM) => zck (zbo 1) (zI 1 M3)) f (nI k) M) (fun k _ => ∀ j, j < k → S 4 (9 * a + (fa + j)) = S 4 (9 * b + (fb + j))) (fun o => o = zI (if zra S a fa b fb len = true then 1 else 0) M) ?_ ?_ (by omega) (zN_ge (by omega)) (fun j hj => absurd hj (Nat.not_lt_zero _))
  · rintro f k _ hk hI
    have l1 := so_4 ho a ha (fa + k) (by omega)
    have l2 := so_4 ho b hb (fb + k) (by omega)
    have e1 := sx_4 hS a ha (fa + k) (by omega)
    have e2 := sx_4 hS b hb (fb + k) (by omega)
    show F_X9_runsAlike_L3 4 _ _ _ _ _ _ (f + 1) _ M = _ ∨ ∃ _, F_X9_runsAlike_L3 4 _ _ _ _ _ _ (f + 1) _ M = F_X9_runsAlike_L3 4 _ _ _ _ _ _ f _ M ∧ _
    rw [F_X9_runsAlike_L3]
    unfold F_X9_sign
    simp (disch := omega) only [zbI_I, zbI_E, zbV_V, zbV_E, zbJ_J, zbH_I, zbH_E, zlt_eq, zltL_eq, zst_eq, zjo_eq, zck_t, zbo_0, zbo_1, c_le_f, li_9, gr_4_0, pk_mul, nI_add, nI_1, zin_k, zix_k]
    rw [Nat.mul_comm a 9, Nat.mul_comm b 9, e1, e2]
    by_cases p : S 4 (9 * a + (fa + k)) = S 4 (9 * b + (fb + k))
    · rw [zit_t (by rw [p])]
      refine Or.inr ⟨(), rfl, fun j hj => ?_⟩
      by_cases hjk : j = k
      · rw [hjk]; exact p
      · exact hI j (by omega)
    · rw [zit_f (fun e => p ((nI_eq (by omega) (by omega)).mp e)), show zra S a fa b fb len = false from decide_eq_false (fun z => p (z k hk))]
      exact Or.inl rfl
  · rintro f _ hI
    show F_X9_runsAlike_L3 4 _ _ _ _ _ _ (f + 1) _ M = _
    rw [F_X9_runsAlike_L3, show zra S a fa b fb len = true from decide_eq_true hI]
    simp (disch := omega) only [zbI_I, zbI_E, zbV_V, zbV_E, zbJ_J, zbH_I, zbH_E, zlt_eq, zltL_eq, zst_eq, zjo_eq, zck_t, zbo_0, zbo_1, c_le_t]
    rfl
theorem ov_x (hS : zSx S M) (ho : zSok S) {a b : Nat} (ha : a < S 0 0) (hb : b < S 0 0) : F_X9_overlap 4 (nI a) (nI b) M = zI (nI (zcm S a b)) M := by
  have hn := so_n ho
  obtain ⟨a3, b3, -⟩ := so_i ho a ha
  obtain ⟨c3, d3, -⟩ := so_i ho b hb
  unfold F_X9_overlap
  simp (disch := omega) only [zbI_I, zbI_E, zbV_V, zbV_E, zbJ_J, zbH_I, zbH_E, zlt_eq, zltL_eq, zst_eq, zjo_eq, zck_t, zbo_0, zbo_1, gr_4_1, zin_k, zix_k, sx_3 hS, z_min, li_1, s_sub]
  refine zdown (i := min (S 3 a) (S 3 b) - 1) (f := zN) (a := ()) (fun f d (_ : Unit) => F_X9_overlap_L18 4 (nI a) (nI b) (fun (M2 : zM) => zI 0 M2) f (nI d) M) (fun d _ => d < S 3 a ∧ d < S 3 b ∧ zov S a b d = zcm S a b) (fun o => o = zI (nI (zcm S a b)) M) ?_ ?_ (zN_ge (by omega)) ⟨by omega, by omega, rfl⟩
  · rintro f d _ ⟨hd1, hd2, hI⟩
    show F_X9_overlap_L18 4 _ _ _ (f + 1) _ M = _ ∨ ∃ _, F_X9_overlap_L18 4 _ _ _ (f + 1) _ M = F_X9_overlap_L18 4 _ _ _ f _ M ∧ _
    rw [F_X9_overlap_L18]
    simp (disch := omega) only [zbI_I, zbI_E, zbV_V, zbV_E, zbJ_J, zbH_I, zbH_E, zlt_eq, zltL_eq, zst_eq, zjo_eq, zck_t, zbo_0, zbo_1, c_le_f, li_0, li_1, gr_4_1, zin_k, zix_k, sx_3 hS, s_sub, s_addn]
    rw [ra_x hS ho ha hb (by omega) (by omega), zbI_I]
    replace hI : (if zra S a (S 3 a - (d + 1)) b 0 (d + 1) = true then d + 1 else zov S a b d) = _ := hI
    cases hz : zra S a (S 3 a - (d + 1)) b 0 (d + 1) with
    | true =>
      rw [hz, if_pos rfl] at hI
      rw [if_pos rfl, zit_f (by decide), hI]
      exact Or.inl rfl
    | false =>
      rw [hz, if_neg (by decide)] at hI
      rw [if_neg (by decide), zit_t (by decide)]
      exact Or.inr ⟨(), rfl, by omega, by omega, hI⟩
  · rintro f _ ⟨-, -, hI⟩
    show F_X9_overlap_L18 4 _ _ _ (f + 1) (nI 0) M = _
    rw [F_X9_overlap_L18, ← hI]
    simp (disch := omega) only [c_le_t, li_0]
    rfl
theorem ii_x (hS : zSx S M) (ho : zSok S) {a b : Nat} (ha : a < S 0 0) (hb : b < S 0 0) : F_X9_isIn 4 (nI a) (nI b) M = zI (if zii S a b = true then 1 else 0) M := by
  have hn := so_n ho
  obtain ⟨a3, b3, -⟩ := so_i ho a ha
  obtain ⟨c3, d3, -⟩ := so_i ho b hb
  unfold F_X9_isIn
  refine zfor (i := 0) (f := zN) (a := ()) (S 3 b + 1 - S 3 a) (fun f k (_ : Unit) => F_X9_isIn_L2 4 (nI a) (nI b) (fun (M2 : zM) => zck (zbo 0) (zI 0 M2)) f (nI k) M) (fun k _ => zan (fun f => zra S a 0 b f (S 3 a)) (S 3 b + 1 - S 3 a - k) k = zii S a b) (fun o => o = zI (if zii S a b = true then 1 else 0) M) ?_ ?_ (by omega) (zN_ge (by omega)) rfl
  · rintro f k _ hk hI
    rw [zan_s hk] at hI
    show F_X9_isIn_L2 4 _ _ _ (f + 1) _ M = _ ∨ ∃ _, F_X9_isIn_L2 4 _ _ _ (f + 1) _ M = F_X9_isIn_L2 4 _ _ _ f _ M ∧ _
    rw [F_X9_isIn_L2]
    simp (disch := omega) only [zbI_I, zbI_E, zbV_V, zbV_E, zbJ_J, zbH_I, zbH_E, zlt_eq, zltL_eq, zst_eq, zjo_eq, zck_t, zbo_0, zbo_1, c_lt_f, li_0, li_1, gr_4_1, zin_k, zix_k, sx_3 hS, nI_add]
    rw [ra_x hS ho ha hb (by omega) (by omega), zbI_I]
    cases hz : zra S a 0 b k (S 3 a) with
    | true =>
      rw [hz] at hI
      rw [if_pos rfl, zit_f (by decide), ← hI]
      exact Or.inl rfl
    | false =>
      rw [hz] at hI
      rw [if_neg (by decide), zit_t (by decide)]
      exact Or.inr ⟨(), rfl, hI⟩
  · rintro f _ hI
    rw [Nat.sub_self] at hI
    show F_X9_isIn_L2 4 _ _ _ (f + 1) _ M = _
    rw [F_X9_isIn_L2, ← hI]
    simp (disch := omega) only [zbI_I, zbI_E, zbV_V, zbV_E, zbJ_J, zbH_I, zbH_E, zlt_eq, zltL_eq, zst_eq, zjo_eq, zck_t, zbo_0, zbo_1, c_lt_t, gr_4_1, zin_k, zix_k, sx_3 hS, nI_add]
    rfl
/-- the reference's runs -/
theorem rc_m (hS : zSm S M) (ho : zSok S) {a b len : Nat} (ha : a < S 0 0) (hb : b < S 0 0) (h1 : len ≤ S 3 a) (h2 : len ≤ S 3 b) (K : Int32 → zM → zO) : F_X12_common_L49 79 (nI a) (nI b) (nI len) K zN 1 0 M = K (if zra S a (S 3 a - len) b 0 len = true then 1 else 0) M := by
  have hn := so_n ho
  obtain ⟨a3, b3, -⟩ := so_i ho a ha
  obtain ⟨c3, d3, -⟩ := so_i ho b hb
  refine zwhl (α := Nat × Nat) (fun f p => F_X12_common_L49 79 (nI a) (nI b) (nI len) K f (nI p.1) (nI p.2) M) (fun d p => d = len - p.2 ∧ p.2 ≤ len ∧ (p.1 = 1 ∧ (∀ j, j < p.2 → S 4 (9 * a + (S 3 a - len + j)) = S 4 (9 * b + (0 + j))) ∨ p.1 = 0 ∧ zra S a (S 3 a - len) b 0 len = false)) (fun o => o = K (if zra S a (S 3 a - len) b 0 len = true then 1 else 0) M) ?_ len zN (1, 0) (zN_ge (by omega)) ⟨rfl, by simp only; omega, Or.inl ⟨rfl, fun j hj => absurd hj (Nat.not_lt_zero _)⟩⟩
  rintro f d ⟨x, k⟩ ⟨hd, hk, hI⟩
  simp only at hd hk hI
  show F_X12_common_L49 79 _ _ _ K (f + 1) (nI x) (nI k) M = _ ∨ _
  rw [F_X12_common_L49]
  by_cases hkl : k = len
  · subst hkl
    refine Or.inl ?_
    rw [zit_t (nI_le (Nat.le_refl _) (by omega))]
    rcases hI with ⟨rfl, hI⟩ | ⟨rfl, hI⟩
    · rw [show zra S a (S 3 a - k) b 0 k = true from decide_eq_true hI]
      rfl
    · rw [hI]
      rfl
  · rw [zit_f (nI_ge (by omega) (by omega))]
    rcases hI with ⟨rfl, hI⟩ | ⟨rfl, hI⟩
    · rw [zit_f (by decide)]
      have l1 := so_4 ho a ha (S 3 a - len + k) (by omega)
      have l2 := so_4 ho b hb (0 + k) (by omega)
      have e1 := sm_4 hS a ha (S 3 a - len + k) (by omega)
      have e2 := sm_4 hS b hb (0 + k) (by omega)
      simp (disch := omega) only [zbI_I, zbI_E, zbV_V, zbV_E, zbJ_J, zbH_I, zbH_E, zlt_eq, zltL_eq, zst_eq, zjo_eq, zck_t, zbo_0, zbo_1, li_9, gr_79_6, gr_79_5, pk_mul, nI_add, nI_1, zin_k, zix_k, sm_3 hS, s_sub]
      rw [show 9 * a + S 3 a - len + k = 9 * a + (S 3 a - len + k) from by omega, e1, show 9 * b + k = 9 * b + (0 + k) from by omega, e2]
      by_cases p : S 4 (9 * a + (S 3 a - len + k)) = S 4 (9 * b + (0 + k))
      · rw [zit_t (by rw [p])]
        refine Or.inr ⟨len - (k + 1), (1, k + 1), by omega, rfl, rfl, by simp only; omega, Or.inl ⟨rfl, fun j hj => ?_⟩⟩
        simp only at hj
        by_cases hjk : j = k
        · rw [hjk]; exact p
        · exact hI j (by omega)
      · rw [zit_f (fun e => p ((nI_eq (by omega) (by omega)).mp e))]
        exact Or.inr ⟨len - (k + 1), (0, k + 1), by omega, rfl, rfl, by simp only; omega, Or.inr ⟨rfl, decide_eq_false (fun z => p (z k (by omega)))⟩⟩
    · refine Or.inl ?_
      rw [zit_t (by decide), hI]
      rfl
theorem cm_m (hS : zSm S M) (ho : zSok S) {a b : Nat} (ha : a < S 0 0) (hb : b < S 0 0) : F_X12_common 79 (nI a) (nI b) M = zI (nI (zcm S a b)) M := by
  have hn := so_n ho
  obtain ⟨a3, b3, -⟩ := so_i ho a ha
  obtain ⟨c3, d3, -⟩ := so_i ho b hb
  have main : ∀ m, m = min (S 3 a) (S 3 b) - 1 → F_X12_common_L38 79 (nI a) (nI b) (fun (M4 : zM) => zI 0 M4) zN (nI m) M = zI (nI (zcm S a b)) M := by
    intro m hm
    refine zdown (i := m) (f := zN) (a := ()) (fun f d (_ : Unit) => F_X12_common_L38 79 (nI a) (nI b) (fun (M4 : zM) => zI 0 M4) f (nI d) M) (fun d _ => d < S 3 a ∧ d < S 3 b ∧ zov S a b d = zcm S a b) (fun o => o = zI (nI (zcm S a b)) M) ?_ ?_ (zN_ge (by omega)) ⟨by omega, by omega, by rw [hm]; rfl⟩
    · rintro f d _ ⟨hd1, hd2, hI⟩
      show F_X12_common_L38 79 _ _ _ (f + 1) _ M = _ ∨ ∃ _, F_X12_common_L38 79 _ _ _ (f + 1) _ M = F_X12_common_L38 79 _ _ _ f _ M ∧ _
      rw [F_X12_common_L38, rc_m hS ho ha hb (by omega) (by omega)]
      simp (disch := omega) only [c_le_f, li_0, li_1, s_addn]
      replace hI : (if zra S a (S 3 a - (d + 1)) b 0 (d + 1) = true then d + 1 else zov S a b d) = _ := hI
      cases hz : zra S a (S 3 a - (d + 1)) b 0 (d + 1) with
      | true =>
        rw [hz, if_pos rfl] at hI
        rw [if_pos rfl, zit_f (by decide), hI]
        exact Or.inl rfl
      | false =>
        rw [hz, if_neg (by decide)] at hI
        rw [if_neg (by decide), zit_t (by decide)]
        exact Or.inr ⟨(), rfl, by omega, by omega, hI⟩
    · rintro f _ ⟨-, -, hI⟩
      show F_X12_common_L38 79 _ _ _ (f + 1) (nI 0) M = _
      rw [F_X12_common_L38, ← hI]
      simp (disch := omega) only [c_le_t, li_0]
      rfl
  unfold F_X12_common
  simp (disch := omega) only [zbI_I, zbI_E, zbV_V, zbV_E, zbJ_J, zbH_I, zbH_E, zlt_eq, zltL_eq, zst_eq, zjo_eq, zck_t, zbo_0, zbo_1, gr_79_6, zin_k, zix_k, sm_3 hS, li_1, s_sub]
  by_cases p : S 3 b ≤ S 3 a
  · rw [zit_t (nI_le p (by omega))]
    exact main _ (by omega)
  · rw [zit_f (nI_ge (by omega) (by omega))]
    exact main _ (by omega)
theorem ri_m (hS : zSm S M) (ho : zSok S) {a b fb : Nat} (ha : a < S 0 0) (hb : b < S 0 0) (h2 : fb + S 3 a ≤ S 3 b) (K : Int32 → zM → zO) : F_X12_isIn_L25 79 (nI a) (nI b) (nI fb) K zN 1 0 M = K (if zra S a 0 b fb (S 3 a) = true then 1 else 0) M := by
  have hn := so_n ho
  obtain ⟨a3, b3, -⟩ := so_i ho a ha
  obtain ⟨c3, d3, -⟩ := so_i ho b hb
  refine zwhl (α := Nat × Nat) (fun f p => F_X12_isIn_L25 79 (nI a) (nI b) (nI fb) K f (nI p.1) (nI p.2) M) (fun d p => d = S 3 a - p.2 ∧ p.2 ≤ S 3 a ∧ (p.1 = 1 ∧ (∀ j, j < p.2 → S 4 (9 * a + (0 + j)) = S 4 (9 * b + (fb + j))) ∨ p.1 = 0 ∧ zra S a 0 b fb (S 3 a) = false)) (fun o => o = K (if zra S a 0 b fb (S 3 a) = true then 1 else 0) M) ?_ (S 3 a) zN (1, 0) (zN_ge (by omega)) ⟨rfl, by simp only; omega, Or.inl ⟨rfl, fun j hj => absurd hj (Nat.not_lt_zero _)⟩⟩
  rintro f d ⟨x, k⟩ ⟨hd, hk, hI⟩
  simp only at hd hk hI
  show F_X12_isIn_L25 79 _ _ _ K (f + 1) (nI x) (nI k) M = _ ∨ _
  rw [F_X12_isIn_L25]
  simp (disch := omega) only [zck_t, zin_k, zix_k, gr_79_6, sm_3 hS]
  by_cases hkl : k = S 3 a
  · refine Or.inl ?_
    rw [zit_t (by rw [hkl]; exact nI_le (Nat.le_refl _) (by omega))]
    rw [hkl] at hI
    rcases hI with ⟨rfl, hI⟩ | ⟨rfl, hI⟩
    · rw [show zra S a 0 b fb (S 3 a) = true from decide_eq_true hI]
      rfl
    · rw [hI]
      rfl
  · rw [zit_f (nI_ge (by omega) (by omega))]
    rcases hI with ⟨rfl, hI⟩ | ⟨rfl, hI⟩
    · rw [zit_f (by decide)]
      have l1 := so_4 ho a ha (0 + k) (by omega)
      have l2 := so_4 ho b hb (fb + k) (by omega)
      have e1 := sm_4 hS a ha (0 + k) (by omega)
      have e2 := sm_4 hS b hb (fb + k) (by omega)
      simp (disch := omega) only [zbI_I, zbI_E, zbV_V, zbV_E, zbJ_J, zbH_I, zbH_E, zlt_eq, zltL_eq, zst_eq, zjo_eq, zck_t, zbo_0, zbo_1, li_9, gr_79_5, pk_mul, nI_add, nI_1, zin_k, zix_k]
      rw [show 9 * a + k = 9 * a + (0 + k) from by omega, e1, show 9 * b + fb + k = 9 * b + (fb + k) from by omega, e2]
      by_cases p : S 4 (9 * a + (0 + k)) = S 4 (9 * b + (fb + k))
      · rw [zit_t (by rw [p])]
        refine Or.inr ⟨S 3 a - (k + 1), (1, k + 1), by omega, rfl, rfl, by simp only; omega, Or.inl ⟨rfl, fun j hj => ?_⟩⟩
        simp only at hj
        by_cases hjk : j = k
        · rw [hjk]; exact p
        · exact hI j (by omega)
      · rw [zit_f (fun e => p ((nI_eq (by omega) (by omega)).mp e))]
        exact Or.inr ⟨S 3 a - (k + 1), (0, k + 1), by omega, rfl, rfl, by simp only; omega, Or.inr ⟨rfl, decide_eq_false (fun z => p (z k (by omega)))⟩⟩
    · refine Or.inl ?_
      rw [zit_t (by decide), hI]
      rfl
theorem ii_m (hS : zSm S M) (ho : zSok S) {a b : Nat} (ha : a < S 0 0) (hb : b < S 0 0) : F_X12_isIn 79 (nI a) (nI b) M = zI (if zii S a b = true then 1 else 0) M := by
  have hn := so_n ho
  obtain ⟨a3, b3, -⟩ := so_i ho a ha
  obtain ⟨c3, d3, -⟩ := so_i ho b hb
  unfold F_X12_isIn
  refine zfor (i := 0) (f := zN) (a := ()) (S 3 b + 1 - S 3 a) (fun f k (_ : Unit) => F_X12_isIn_L2 79 (nI a) (nI b) (fun (M3 : zM) => zck (zbo 0) (zI 0 M3)) f (nI k) M) (fun k _ => zan (fun f => zra S a 0 b f (S 3 a)) (S 3 b + 1 - S 3 a - k) k = zii S a b) (fun o => o = zI (if zii S a b = true then 1 else 0) M) ?_ ?_ (by omega) (zN_ge (by omega)) rfl
  · rintro f k _ hk hI
    rw [zan_s hk] at hI
    show F_X12_isIn_L2 79 _ _ _ (f + 1) _ M = _ ∨ ∃ _, F_X12_isIn_L2 79 _ _ _ (f + 1) _ M = F_X12_isIn_L2 79 _ _ _ f _ M ∧ _
    rw [F_X12_isIn_L2, ri_m hS ho ha hb (by omega)]
    simp (disch := omega) only [zbI_I, zbI_E, zbV_V, zbV_E, zbJ_J, zbH_I, zbH_E, zlt_eq, zltL_eq, zst_eq, zjo_eq, zck_t, zbo_0, zbo_1, c_lt_f, li_1, gr_79_6, zin_k, zix_k, sm_3 hS, nI_add]
    cases hz : zra S a 0 b k (S 3 a) with
    | true =>
      rw [hz] at hI
      rw [if_pos rfl, zit_f (by decide), ← hI]
      exact Or.inl rfl
    | false =>
      rw [hz] at hI
      rw [if_neg (by decide), zit_t (by decide)]
      exact Or.inr ⟨(), rfl, hI⟩
  · rintro f _ hI
    rw [Nat.sub_self] at hI
    show F_X12_isIn_L2 79 _ _ _ (f + 1) _ M = _
    rw [F_X12_isIn_L2, ← hI]
    simp (disch := omega) only [zbI_I, zbI_E, zbV_V, zbV_E, zbJ_J, zbH_I, zbH_E, zlt_eq, zltL_eq, zst_eq, zjo_eq, zck_t, zbo_0, zbo_1, c_lt_t, gr_79_6, zin_k, zix_k, sm_3 hS, nI_add]
    rfl
end ZWD
theorem op_inside (q : zSt) (ho : zok q) (a b : Int32) : zOp 1 (F_X11_inside 0 a b) (F_X12_inside 79 a b) zNSE zIAE q := by
  have hn := qo_n ho
  have hY : ∀ M, F_X12_inside 79 a b M = F_X12_inside 79 a b (zup M 79 0 0) := fun M => by unfold F_X12_inside; rw [zup_idem]
  rcases zci hn a with ⟨j, hj, rfl⟩ | ha
  · rcases zci hn b with ⟨k, hk, rfl⟩ | hb
    · refine zop_self hY (zop0_ret (r := if zii (tS q) j k = true then 1 else 0) (fun M h => ⟨M, ?_, zoff_rfl⟩) (fun M h h0 => ⟨M, ?_, zoff_rfl⟩))
      · unfold F_X11_inside
        rw [px_name_in (sx_n (qx_S h)) hn hj, zbV_V, px_name_in (sx_n (qx_S h)) hn hk, zbV_V, gr_0_1, gr_3_4, ii_x (qx_S h) (qo_S ho) hj hk, zbI_I]
        cases zii (tS q) j k <;> rfl
      · unfold F_X12_inside
        rw [zst_eq, zup_same h0, pm_one_in h0 (sm_n (qm_S h)) hn hj, zbI_I]
        simp only [zjo_eq]
        rw [zit_f (by decide), pm_one_in h0 (sm_n (qm_S h)) hn hk, zbI_I, zit_f (by decide), ii_m (qm_S h) (qo_S ho) hj hk, zbI_I]
        cases zii (tS q) j k <;> rfl
    · refine zop_rf hY 1 (Or.inl rfl) (by omega) (fun M h => ?_) (fun M h h0 => ⟨0, ?_⟩)
      · unfold F_X11_inside
        rw [px_name_in (sx_n (qx_S h)) hn hj, zbV_V, px_name_out (sx_n (qx_S h)) hb, zbV_E]
        rfl
      · unfold F_X12_inside
        rw [zst_eq, zup_same h0, pm_one_in h0 (sm_n (qm_S h)) hn hj, zbI_I]
        simp only [zjo_eq]
        rw [zit_f (by decide), pm_one_out h0 (sm_n (qm_S h)) hb, zbI_I]
        rfl
  · refine zop_rf hY 1 (Or.inl rfl) (by omega) (fun M h => ?_) (fun M h h0 => ⟨0, ?_⟩)
    · unfold F_X11_inside
      rw [px_name_out (sx_n (qx_S h)) ha, zbV_E]
      rfl
    · unfold F_X12_inside
      rw [zst_eq, zup_same h0, pm_one_out h0 (sm_n (qm_S h)) ha, zbI_I]
      rfl
