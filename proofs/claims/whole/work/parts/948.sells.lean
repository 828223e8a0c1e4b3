/-! SALES, the reference's loops -/
def zSl : List Nat := [79, 103, 105, 106, 117, 118, 119, 120]
def zSr (M M' : zM) : Prop := zoff zSl M M' ∧ ∀ f, f ≠ 70 → f ≠ 71 → M' 79 f = M 79 f
theorem zSr_rfl {M : zM} : zSr M M := ⟨zoff_rfl, fun _ _ _ => rfl⟩
theorem zSr_trans {M M' M'' : zM} (h : zSr M M') (h' : zSr M' M'') : zSr M M'' := ⟨zoff_trans h.1 h'.1, fun f h1 h2 => by rw [h'.2 f h1 h2, h.2 f h1 h2]⟩
theorem zSr_of {M M' : zM} {l : List Nat} (o : zoff l M M') (hl : ∀ i ∈ l, i ∈ zSl ∧ i ≠ 79) : zSr M M' := ⟨zoff_mono o (fun i hi => (hl i hi).1), fun f _ _ => by rw [o 79 (fun hz => (hl 79 hz).2 rfl)]⟩
theorem zSr_f {M : zM} {f : Nat} {v : Int32} (hf : f = 70 ∨ f = 71) : zSr M (zup M 79 f v) := ⟨zoff_up zoff_rfl (by decide), fun g h1 h2 => by rw [zup_row, upd_ne (by omega)]⟩
theorem zSr_q {q : zSt} {M M' : zM} (h : zQm q M) (r : zSr M M') : zQm q M' := zQm_off h (fun i h1 h2 hi => r.1 i (fun hz => hi (by
  simp only [zSl, List.mem_cons, List.mem_nil_iff, or_false] at hz
  rcases hz with rfl | rfl | rfl | rfl | rfl | rfl | rfl | rfl
  · omega
  all_goals decide))) (fun k hk => r.2 k (fun e => by subst e; revert hk; decide) (fun e => by subst e; revert hk; decide))
theorem zpr_in : ∀ n, n < 9 → ∀ s ∈ zpr n, s.1 < n ∧ s.2 < n ∧ s.1 < s.2 := by decide +kernel
theorem cdv : ∀ a, a < 8 → ∀ b, b < 8 → nI (10 * a + b) / 10 = nI a ∧ nI (10 * a + b) - nI (10 * a + b) / 10 * 10 = nI b := by decide +kernel
theorem zal118 : zal 118 = 3 := by decide +kernel
theorem zal119 : zal 119 = 3 := by decide +kernel
/-- couples in their row -/
def zcq (M : zM) (P : List (Nat × Nat)) : Prop := M 79 70 = nI P.length ∧ ∀ i, i < P.length → M 117 i = nI (10 * (P.getD i (0, 0)).1 + (P.getD i (0, 0)).2)
theorem cq_m {n : Nat} (hn : n ≤ 8) (a1 : Int32) (K : zM → zO) {M : zM} (h1 : M 79 1 = nI n) (h70 : M 79 70 = 0) : ∃ M', F_X12_sells_L7 79 a1 K zN 0 M = K M' ∧ (zcq M' (zpr n) ∧ zSr M M') := by
  have st : ∀ M1, zSr M M1 → M1 79 1 = nI n := fun M1 r => by rw [r.2 1 (by omega) (by omega)]; exact h1
  refine zfor (i := 0) (f := zN) (a := M) n (fun f a (M1 : zM) => F_X12_sells_L7 79 a1 K f (nI a) M1) (fun a M1 => zcq M1 (zpo n a) ∧ zSr M M1) (fun o => ∃ M', o = K M' ∧ (zcq M' (zpr n) ∧ zSr M M')) ?_ ?_ (by omega) (zN_ge (by omega)) ⟨⟨h70, fun i hi => absurd hi (Nat.not_lt_zero _)⟩, zSr_rfl⟩
  · rintro f a M1 ha ⟨hq1, r1⟩
    refine Or.inr ?_
    have key : ∃ M2, F_X12_sells_L19 79 a1 (nI a) (fun (M4 : zM) => F_X12_sells_L7 79 a1 K f (nI (a + 1)) M4) zN (nI (a + 1)) M1 = F_X12_sells_L7 79 a1 K f (nI (a + 1)) M2 ∧ (zcq M2 (zpo n (a + 1)) ∧ zSr M M2) := by
      refine zfor (i := a + 1) (f := zN) (a := M1) n (fun f' b (M2 : zM) => F_X12_sells_L19 79 a1 (nI a) (fun (M4 : zM) => F_X12_sells_L7 79 a1 K f (nI (a + 1)) M4) f' (nI b) M2) (fun b M2 => a < b ∧ zcq M2 (zpo n a ++ zpi a b) ∧ zSr M M2) (fun o => ∃ M2, o = F_X12_sells_L7 79 a1 K f (nI (a + 1)) M2 ∧ (zcq M2 (zpo n (a + 1)) ∧ zSr M M2)) ?_ ?_ (by omega) (zN_ge (by omega)) ⟨by omega, by rw [zpi_lo a (a + 1) (Nat.le_refl _), List.append_nil]; exact hq1, r1⟩
      · rintro f' b M2 hb ⟨hab, ⟨q1, q2⟩, r2⟩
        refine Or.inr ?_
        have h28 := zpo_28 n (by omega) a ha b hb hab
        have eP : zpo n a ++ zpi a (b + 1) = (zpo n a ++ zpi a b) ++ [(a, b)] := by
          show zpo n a ++ (zpi a b ++ (if a < b then [(a, b)] else [])) = _
          rw [if_pos hab, List.append_assoc]
        obtain ⟨P, hP⟩ : ∃ P, zpo n a ++ zpi a b = P := ⟨_, rfl⟩
        rw [hP] at q1 q2 h28 eP
        show ∃ M3, F_X12_sells_L19 79 a1 (nI a) _ (f' + 1) (nI b) M2 = F_X12_sells_L19 79 a1 (nI a) _ f' (nI (b + 1)) M3 ∧ _
        rw [F_X12_sells_L19, st M2 r2, zit_f (nI_ge hb (by omega)), q1, zin_k (k := P.length) (n := 28) (by omega) (by omega), zck_t, zst_eq, gr_79_66, zix_k (k := P.length) (by omega), show (10 : Int32) = nI 10 from rfl, pk_mul, nI_add, zst_eq, zup_ne (by omega), q1, nI_1, nI_1]
        refine ⟨_, rfl, by omega, ?_, zSr_trans r2 (zSr_trans (zSr_of (zoff_up zoff_rfl (List.mem_singleton.mpr rfl)) (by decide)) (zSr_f (Or.inl rfl)))⟩
        rw [eP]
        refine ⟨by rw [zup_row, upd_eq, List.length_append]; rfl, fun i hi => ?_⟩
        rw [List.length_append] at hi
        rw [zup_ne (by omega), zup_row, getD_ap _ _ P i hi]
        by_cases e : i = P.length
        · rw [e, upd_eq, if_pos rfl]
        · rw [upd_ne e, if_neg e]
          exact q2 i (by simp only [List.length_singleton] at hi; omega)
      · rintro f' M2 ⟨-, hq2, r2⟩
        show ∃ M3, F_X12_sells_L19 79 a1 (nI a) _ (f' + 1) _ M2 = _ ∧ _
        rw [F_X12_sells_L19, st M2 r2, zit_t (nI_le (Nat.le_refl _) (by omega))]
        exact ⟨M2, rfl, hq2, r2⟩
    obtain ⟨M2, e2, h2⟩ := key
    refine ⟨M2, ?_, h2⟩
    show F_X12_sells_L7 79 a1 K (f + 1) (nI a) M1 = _
    rw [F_X12_sells_L7, st M1 r1, zit_f (nI_ge ha (by omega)), zlt_eq, nI_1]
    exact e2
  · rintro f M1 ⟨hq1, r1⟩
    show ∃ M', F_X12_sells_L7 79 a1 K (f + 1) _ M1 = _ ∧ _
    rw [F_X12_sells_L7, st M1 r1, zit_t (nI_le (Nat.le_refl _) (by omega))]
    rw [← zpr_eq] at hq1
    exact ⟨M1, rfl, hq1, r1⟩
theorem oft_m (a1 : Int32) (K : zM → zO) {M : zM} : ∃ M', F_X12_sells_L66 79 a1 K zN 0 M = K M' ∧ ((∀ i, i < 64 → M' 120 i = 0) ∧ zoff [120] M M') := by
  refine zfor (i := 0) (f := zN) (a := M) 64 (fun f c (M1 : zM) => F_X12_sells_L66 79 a1 K f (nI c) M1) (fun c M1 => (∀ i, i < c → M1 120 i = 0) ∧ zoff [120] M M1) (fun o => ∃ M', o = K M' ∧ ((∀ i, i < 64 → M' 120 i = 0) ∧ zoff [120] M M')) ?_ ?_ (by omega) (zN_ge (by omega)) ⟨fun i hi => absurd hi (Nat.not_lt_zero _), zoff_rfl⟩
  · rintro f c M1 hc ⟨h1, o1⟩
    refine Or.inr ?_
    show ∃ M2, F_X12_sells_L66 79 a1 K (f + 1) (nI c) M1 = F_X12_sells_L66 79 a1 K f (nI (c + 1)) M2 ∧ _
    rw [F_X12_sells_L66, show (64 : Int32) = nI 64 from rfl, zit_f (nI_ge hc (by omega)), zin_k (k := c) (n := 64) (by omega) (by omega), zck_t, zst_eq, gr_79_69, zix_k (k := c) (by omega), nI_1]
    refine ⟨_, rfl, fun i hi => ?_, zoff_up o1 (by decide)⟩
    rw [zup_row]
    by_cases e : i = c
    · rw [e, upd_eq]
    · rw [upd_ne e]
      exact h1 i (by omega)
  · rintro f M1 ⟨h1, o1⟩
    show ∃ M2, F_X12_sells_L66 79 a1 K (f + 1) (nI 64) M1 = _ ∧ _
    rw [F_X12_sells_L66, show (64 : Int32) = nI 64 from rfl, zit_t (nI_le (Nat.le_refl _) (by omega))]
    exact ⟨M1, rfl, h1, o1⟩
theorem pw_m {C k : Nat} (hk : k ≤ 3) (K : Int32 → zM → zO) {M : zM} (h : M 79 70 = nI C) : F_X12_sells_L94 79 (nI k) K zN 1 0 M = K (nI (C ^ k)) M := by
  refine zfor (i := 0) (f := zN) (a := ()) k (fun f c (_ : Unit) => F_X12_sells_L94 79 (nI k) K f (nI (C ^ c)) (nI c) M) (fun _ _ => True) (fun o => o = K (nI (C ^ k)) M) ?_ ?_ (by omega) (zN_ge (by omega)) trivial
  · rintro f c _ hc -
    refine Or.inr ⟨(), ?_, trivial⟩
    show F_X12_sells_L94 79 (nI k) K (f + 1) _ _ M = _
    rw [F_X12_sells_L94, zit_f (nI_ge hc (by omega)), h, pk_mul, zlt_eq, nI_1, ← Nat.pow_succ]
  · rintro f _ -
    show F_X12_sells_L94 79 (nI k) K (f + 1) _ _ M = _
    rw [F_X12_sells_L94, zit_t (nI_le (Nat.le_refl _) (by omega))]
/-- a number's couples -/
theorem dg_m {P : List (Nat × Nat)} (hP : P.length ≤ 28) {k x : Nat} (hk : k ≤ 3) (hx : x < P.length ^ k) (x2 x3 : Int32) (K : zM → zO) {M : zM} (hq : zcq M P) : ∃ M', F_X12_sells_L127 79 (nI k) x2 x3 K zN (nI x) (nI k - 1) M = K M' ∧ ((∀ j, j < k → M' 118 j = nI (10 * ((zdg P k x).getD j (0, 0)).1 + ((zdg P k x).getD j (0, 0)).2)) ∧ zoff [118] M M') := by
  have hb : x < 22000 := by
    have h1 : P.length ^ k ≤ 28 ^ k := Nat.pow_le_pow_left hP k
    have h2 : 28 ^ k ≤ 28 ^ 3 := Nat.pow_le_pow_right (by decide) hk
    omega
  have h0 : 0 < k → 0 < P.length := fun hk0 => by
    rcases Nat.eq_zero_or_pos P.length with h | h
    · rw [h, Nat.zero_pow hk0] at hx
      omega
    · exact h
  have key : ∃ M', F_X12_sells_L127 79 (nI k) x2 x3 K zN (nI (x / P.length ^ (k - k))) (nI k - 1) M = K M' ∧ ((∀ j, j < k → M' 118 j = nI (10 * ((zdg P k x).getD j (0, 0)).1 + ((zdg P k x).getD j (0, 0)).2)) ∧ zoff [118] M M') := by
    refine zdown (i := k) (f := zN) (a := M) (fun f i (M1 : zM) => F_X12_sells_L127 79 (nI k) x2 x3 K f (nI (x / P.length ^ (k - i))) (nI i - 1) M1) (fun i M1 => i ≤ k ∧ (∀ j, i ≤ j → j < k → M1 118 j = nI (10 * ((zdg P k x).getD j (0, 0)).1 + ((zdg P k x).getD j (0, 0)).2)) ∧ zoff [118] M M1) (fun o => ∃ M', o = K M' ∧ ((∀ j, j < k → M' 118 j = nI (10 * ((zdg P k x).getD j (0, 0)).1 + ((zdg P k x).getD j (0, 0)).2)) ∧ zoff [118] M M')) ?_ ?_ (zN_ge (by omega)) ⟨Nat.le_refl _, fun j h1 h2 => absurd h2 (by omega), zoff_rfl⟩
    · rintro f i M1 ⟨hi, h1, o1⟩
      refine Or.inr ?_
      have hp := h0 (by omega)
      have hy : x / P.length ^ (k - (i + 1)) ≤ x := Nat.div_le_self _ _
      have hm : x / P.length ^ (k - (i + 1)) % P.length < P.length := Nat.mod_lt _ hp
      have e70 : M1 79 70 = nI P.length := by rw [o1 79 (by decide)]; exact hq.1
      have e117 : M1 117 = M 117 := o1 117 (by decide)
      have ed : x / P.length ^ (k - (i + 1)) / P.length = x / P.length ^ (k - i) := by
        rw [Nat.div_div_eq_div_mul, ← Nat.pow_succ]
        congr 2
        omega
      show ∃ M2, F_X12_sells_L127 79 (nI k) x2 x3 K (f + 1) (nI (x / P.length ^ (k - (i + 1)))) (nI (i + 1) - 1) M1 = F_X12_sells_L127 79 (nI k) x2 x3 K f (nI (x / P.length ^ (k - i))) (nI i - 1) M2 ∧ _
      rw [F_X12_sells_L127, show nI (i + 1) - 1 = nI i from s_sub (b := 1) (by omega), zit_f (nI_pos (by omega)), e70, decide_eq_false (nI_ne0 hp (by omega)), show (!false) = true from rfl, zck_t, pk_rem (by omega) hp (by omega), zin_k (k := x / P.length ^ (k - (i + 1)) % P.length) (n := 28) (by omega) (by omega), zck_t, zin_k (k := i) (n := 3) (by omega) (by omega), zck_t, zst_eq, gr_79_67, gr_79_66, zix_k (k := i) (by omega), zix_k (k := x / P.length ^ (k - (i + 1)) % P.length) (by omega), zup_ne (by omega), e70, decide_eq_false (nI_ne0 hp (by omega)), show (!false) = true from rfl, zck_t, zlt_eq, pk_div (by omega) hp (by omega), ed, ← Int32.sub_eq_add_neg]
      refine ⟨_, rfl, by omega, fun j hj1 hj2 => ?_, zoff_up o1 (by decide)⟩
      rw [zup_row]
      by_cases e : j = i
      · rw [e, upd_eq, e117, hq.2 _ hm, zdg_get P k x i hx (by omega), show k - 1 - i = k - (i + 1) from by omega]
      · rw [upd_ne e]
        exact h1 j (by omega) hj2
    · rintro f M1 ⟨-, h1, o1⟩
      show ∃ M2, F_X12_sells_L127 79 (nI k) x2 x3 K (f + 1) _ (nI 0 - 1) M1 = _ ∧ _
      rw [F_X12_sells_L127, zit_t (by decide)]
      exact ⟨M1, rfl, fun j hj => h1 j (by omega) hj, o1⟩
  rw [Nat.sub_self, Nat.pow_zero, Nat.div_one] at key
  exact key
