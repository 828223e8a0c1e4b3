/-! SWAPS IN A WORLD -/
theorem zWex_1 (S : zSD) (a b : Nat) (w : zWD) (i : Nat) : (zWex S a b w).1 i = w.1 (if i = a then b else if i = b then a else i) := by
  show (if i = a then w.1 b else if i = b then w.1 a else w.1 i) = _
  by_cases h1 : i = a
  · rw [if_pos h1, if_pos h1]
  · rw [if_neg h1, if_neg h1]
    by_cases h2 : i = b
    · rw [if_pos h2, if_pos h2]
    · rw [if_neg h2, if_neg h2]
theorem zsg {a b i n : Nat} (ha : a < n) (hb : b < n) (hi : i < n) : (if i = a then b else if i = b then a else i) < n := by
  split
  · exact hb
  · split
    · exact ha
    · exact hi
theorem zWex_ok {S : zSD} {w : zWD} (ho : zSok S) (hk : zWok S w) {a b : Nat} (ha : a < S 0 0) (hb : b < S 0 0) (hab : a ≠ b) : zWok S (zWex S a b w) := by
  have hn := so_n ho
  obtain ⟨h1, h2, h3, h4⟩ := hk
  refine ⟨fun i hi => ?_, fun i hi j hj e => ?_, fun i hi => ?_, fun i hi j hj => ?_⟩
  · rw [zWex_1]
    refine h1 _ ?_
    split
    · omega
    · split <;> omega
  · rw [zWex_1, zWex_1] at e
    have e2 := h2 _ (zsg ha hb hi) _ (zsg ha hb hj) e
    by_cases p1 : i = a
    · rw [if_pos p1] at e2
      by_cases p2 : j = a
      · omega
      · rw [if_neg p2] at e2
        by_cases p3 : j = b
        · rw [if_pos p3] at e2; omega
        · rw [if_neg p3] at e2; omega
    · rw [if_neg p1] at e2
      by_cases p4 : i = b
      · rw [if_pos p4] at e2
        by_cases p2 : j = a
        · rw [if_pos p2] at e2; omega
        · rw [if_neg p2] at e2
          by_cases p3 : j = b
          · omega
          · rw [if_neg p3] at e2; omega
      · rw [if_neg p4] at e2
        by_cases p2 : j = a
        · rw [if_pos p2] at e2; omega
        · rw [if_neg p2] at e2
          by_cases p3 : j = b
          · rw [if_pos p3] at e2; omega
          · rw [if_neg p3] at e2; omega
  · rw [zWex_1]
    refine h3 _ ?_
    split
    · omega
    · split <;> omega
  · obtain ⟨D, hD⟩ : ∃ D : Int32, w.2.1 (8 * a + b) + (nI (S 3 (w.1 b)) - nI (S 3 (w.1 a))) = D := ⟨_, rfl⟩
    show (if 8 * j + i = 8 * a + b then w.2.1 (8 * a + b) + (nI (S 3 (w.1 b)) - nI (S 3 (w.1 a))) else if 8 * j + i = 8 * b + a then - (w.2.1 (8 * a + b) + (nI (S 3 (w.1 b)) - nI (S 3 (w.1 a)))) else w.2.1 (8 * j + i)) = - (if 8 * i + j = 8 * a + b then w.2.1 (8 * a + b) + (nI (S 3 (w.1 b)) - nI (S 3 (w.1 a))) else if 8 * i + j = 8 * b + a then - (w.2.1 (8 * a + b) + (nI (S 3 (w.1 b)) - nI (S 3 (w.1 a)))) else w.2.1 (8 * i + j))
    rw [hD]
    by_cases p1 : j = a ∧ i = b
    · obtain ⟨rfl, rfl⟩ := p1
      rw [if_pos rfl, if_neg (by omega), if_pos rfl, Int32.neg_neg]
    · by_cases p2 : j = b ∧ i = a
      · obtain ⟨rfl, rfl⟩ := p2
        rw [if_neg (by omega), if_pos rfl, if_pos rfl]
      · rw [if_neg (by omega), if_neg (by omega), if_neg (by omega), if_neg (by omega)]
        exact h4 i hi j hj
section ZEX
variable {S : zSD} {w : zWD} {M : zM}
theorem ex_x {c : Nat} (hc : c = 40 ∨ c = 43) (hS : zSx S M) (ho : zSok S) (hW : zWx c w M) (hk : zWok S w) {a b : Nat} (ha : a < S 0 0) (hb : b < S 0 0) (hab : a ≠ b) : ∃ M', F_X10_exchange c (nI a) (nI b) M = zI (nI (S 3 (w.1 b)) - nI (S 3 (w.1 a))) M' ∧ (zWx c (zWex S a b w) M' ∧ zoff [c + 1, c + 2] M M') := by
  have hg : zgr c 0 = 3 ∧ zgr c 1 = c + 1 ∧ zgr c 2 = c + 2 ∧ 20 < c := by
    rcases hc with rfl | rfl
    · exact ⟨gr_40_0, gr_40_1, gr_40_2, by decide⟩
    · exact ⟨gr_43_0, gr_43_1, gr_43_2, by decide⟩
  obtain ⟨g0, g1, g2, gc⟩ := hg
  have hn := so_n ho
  have hi := wo_n hk a ha
  have hj := wo_n hk b hb
  unfold F_X10_exchange F_X10_owes F_X10_setDebt
  simp (disch := omega) only [zbI_I, zbI_E, zbV_V, zbV_E, zbJ_J, zbH_I, zbH_E, zlt_eq, zltL_eq, zst_eq, zjo_eq, zck_t, zbo_0, zbo_1, zbo_n0, zbo_n1, g0, g1, g2, gr_3_4, gr_4_1, li_8, pk_mul, nI_add, zin_k, zix_k, wx_n hW, sx_3 hS, zup_ne, wx_d hW]
  refine ⟨_, rfl, ⟨fun i hi8 => ?_, fun k hk8 => ?_, ?_⟩, fun z hz => ?_⟩
  · simp (disch := omega) only [zup_ne, zup_row]
    show upd (upd (M (c + 1)) a (nI (w.1 b))) b (nI (w.1 a)) i = nI (if i = a then w.1 b else if i = b then w.1 a else w.1 i)
    by_cases h1 : i = b
    · rw [h1, upd_eq, if_neg (Ne.symm hab), if_pos rfl]
    · rw [upd_ne h1]
      by_cases h2 : i = a
      · rw [h2, upd_eq, if_pos rfl]
      · rw [upd_ne h2, if_neg h2, if_neg h1, hW.1 i hi8]
  · simp (disch := omega) only [zup_ne, zup_row]
    show upd (upd (M (c + 2)) (a * 8 + b) _) (b * 8 + a) _ k = (if k = 8 * a + b then w.2.1 (8 * a + b) + (nI (S 3 (w.1 b)) - nI (S 3 (w.1 a))) else if k = 8 * b + a then - (w.2.1 (8 * a + b) + (nI (S 3 (w.1 b)) - nI (S 3 (w.1 a)))) else w.2.1 k)
    by_cases h1 : k = 8 * b + a
    · rw [if_neg (by omega), if_pos h1, show k = b * 8 + a from by omega, upd_eq]
    · rw [upd_ne (by omega)]
      by_cases h2 : k = 8 * a + b
      · rw [if_pos h2, show k = a * 8 + b from by omega, upd_eq]
      · rw [upd_ne (by omega), if_neg h2, if_neg h1, hW.2.1 k hk8]
  · simp (disch := omega) only [zup_ne]
    exact hW.2.2
  · simp only [List.mem_cons, List.mem_nil_iff, or_false, not_or] at hz
    rw [zup_ne hz.2, zup_ne hz.2, zup_ne hz.1, zup_ne hz.1]
theorem si_m {r : Nat} (hr : r = 102 ∨ r = 103) (hS : zSm S M) (ho : zSok S) (hW : zWr (M r) 0 w) (hk : zWok S w) {a b : Nat} (ha : a < S 0 0) (hb : b < S 0 0) (hab : a ≠ b) : ∃ M', F_X12_swapsIn 79 r (nI a) (nI b) M = zV M' ∧ (zWr (M' r) 0 (zWex S a b w) ∧ zoff [r] M M') := by
  have hg : zal r = 73 ∧ 100 < r := by
    rcases hr with rfl | rfl
    · exact ⟨zal102, by decide⟩
    · exact ⟨zal103, by decide⟩
  obtain ⟨g1, g2⟩ := hg
  have hn := so_n ho
  have hi := wo_n hk a ha
  have hj := wo_n hk b hb
  have hanti := hk.2.2.2 a (by omega) b (by omega)
  unfold F_X12_swapsIn F_X12_changes
  simp (disch := omega) only [zbI_I, zbI_E, zbV_V, zbV_E, zbJ_J, zbH_I, zbH_E, zlt_eq, zltL_eq, zst_eq, zjo_eq, zck_t, zbo_0, zbo_1, zbo_n0, zbo_n1, g1, gr_79_6, li_8, pk_mul, nI_add, zin_k, zix_k, wr_n hW, sm_3 hS, zup_ne, zup_row, upd_ne, wr_d hW]
  refine ⟨_, rfl, ⟨fun i hi8 => ?_, fun k hk8 => ?_, ?_⟩, fun z hz => ?_⟩
  · rw [Nat.zero_add]
    simp (disch := omega) only [zup_row]
    show upd (upd (upd (upd (M r) (8 + 8 * a + b) _) (8 + 8 * b + a) _) a (nI (w.1 b))) b (nI (w.1 a)) i = nI (if i = a then w.1 b else if i = b then w.1 a else w.1 i)
    by_cases h1 : i = b
    · rw [h1, upd_eq, if_neg (Ne.symm hab), if_pos rfl]
    · rw [upd_ne h1]
      by_cases h2 : i = a
      · rw [h2, upd_eq, if_pos rfl]
      · rw [upd_ne h2, upd_ne (by omega), upd_ne (by omega), if_neg h2, if_neg h1, wr_n hW i hi8]
  · simp (disch := omega) only [zup_row]
    show upd (upd (upd (upd (M r) (8 + 8 * a + b) _) (8 + 8 * b + a) _) a (nI (w.1 b))) b (nI (w.1 a)) (0 + 8 + k) = (if k = 8 * a + b then w.2.1 (8 * a + b) + (nI (S 3 (w.1 b)) - nI (S 3 (w.1 a))) else if k = 8 * b + a then - (w.2.1 (8 * a + b) + (nI (S 3 (w.1 b)) - nI (S 3 (w.1 a)))) else w.2.1 k)
    rw [upd_ne (by omega), upd_ne (by omega)]
    by_cases h1 : k = 8 * b + a
    · rw [if_neg (by omega), if_pos h1, show 0 + 8 + k = 8 + 8 * b + a from by omega, upd_eq, hanti, Int32.neg_add, ← Int32.neg_sub (a := nI (S 3 (w.1 a)))]
    · rw [upd_ne (by omega)]
      by_cases h2 : k = 8 * a + b
      · rw [if_pos h2, show 0 + 8 + k = 8 + 8 * a + b from by omega, upd_eq]
      · rw [upd_ne (by omega), if_neg h2, if_neg h1]
        exact hW.2.1 k hk8
  · simp (disch := omega) only [zup_row]
    show upd (upd (upd (upd (M r) (8 + 8 * a + b) _) (8 + 8 * b + a) _) a (nI (w.1 b))) b (nI (w.1 a)) (0 + 72) = w.2.2
    rw [upd_ne (by omega), upd_ne (by omega), upd_ne (by omega), upd_ne (by omega)]
    exact hW.2.2
  · simp only [List.mem_cons, List.mem_nil_iff, or_false] at hz
    rw [zup_ne hz, zup_ne hz, zup_ne hz, zup_ne hz]
end ZEX
/-- worlds that are the same -/
theorem zWx_eq {c : Nat} {a b : zWD} {M : zM} (e : zWeq a b) (h : zWx c b M) : zWx c a M := ⟨fun i hi => by rw [e.1 i hi]; exact h.1 i hi, fun k hk => by rw [e.2.1 k hk]; exact h.2.1 k hk, by rw [e.2.2]; exact h.2.2⟩
/-- a swap undone by itself -/
theorem zWex_2 {S : zSD} {w : zWD} {a b : Nat} (ha : a < 8) (hb : b < 8) (hab : a ≠ b) (h4 : ∀ i, i < 8 → ∀ j, j < 8 → w.2.1 (8 * j + i) = - w.2.1 (8 * i + j)) : zWeq w (zWex S a b (zWex S a b w)) := by
  have e1 : (zWex S a b w).1 a = w.1 b := by rw [zWex_1, if_pos rfl]
  have e2 : (zWex S a b w).1 b = w.1 a := by rw [zWex_1, if_neg (Ne.symm hab), if_pos rfl]
  have e3 : (zWex S a b w).2.1 (8 * a + b) = w.2.1 (8 * a + b) + (nI (S 3 (w.1 b)) - nI (S 3 (w.1 a))) := if_pos rfl
  have e4 : w.2.1 (8 * a + b) + (nI (S 3 (w.1 b)) - nI (S 3 (w.1 a))) + (nI (S 3 (w.1 a)) - nI (S 3 (w.1 b))) = w.2.1 (8 * a + b) := by
    rw [← Int32.neg_sub (a := nI (S 3 (w.1 b))), ← Int32.sub_eq_add_neg, Int32.add_sub_cancel]
  refine ⟨fun i hi => ?_, fun k hk => ?_, rfl⟩
  · rw [zWex_1, zWex_1]
    by_cases h1 : i = a
    · rw [if_pos h1, if_neg (Ne.symm hab), if_pos rfl, h1]
    · rw [if_neg h1]
      by_cases h2 : i = b
      · rw [if_pos h2, if_pos rfl, h2]
      · rw [if_neg h2, if_neg h1, if_neg h2]
  · show w.2.1 k = (if k = 8 * a + b then (zWex S a b w).2.1 (8 * a + b) + (nI (S 3 ((zWex S a b w).1 b)) - nI (S 3 ((zWex S a b w).1 a))) else if k = 8 * b + a then - ((zWex S a b w).2.1 (8 * a + b) + (nI (S 3 ((zWex S a b w).1 b)) - nI (S 3 ((zWex S a b w).1 a)))) else (zWex S a b w).2.1 k)
    rw [e1, e2, e3, e4]
    by_cases h1 : k = 8 * a + b
    · rw [if_pos h1, h1]
    · rw [if_neg h1]
      by_cases h2 : k = 8 * b + a
      · rw [if_pos h2, h2, h4 a ha b hb]
      · rw [if_neg h2]
        show _ = (if k = 8 * a + b then _ else if k = 8 * b + a then _ else w.2.1 k)
        rw [if_neg h1, if_neg h2]
theorem zWex_cg {S : zSD} {v w : zWD} {a b : Nat} (ha : a < 8) (hb : b < 8) (h : zWeq v w) : zWeq (zWex S a b v) (zWex S a b w) := by
  refine ⟨fun i hi => ?_, fun k hk => ?_, h.2.2⟩
  · rw [zWex_1, zWex_1]
    exact h.1 _ (zsg (by omega) (by omega) (by omega))
  · show (if k = 8 * a + b then v.2.1 (8 * a + b) + (nI (S 3 (v.1 b)) - nI (S 3 (v.1 a))) else if k = 8 * b + a then - (v.2.1 (8 * a + b) + (nI (S 3 (v.1 b)) - nI (S 3 (v.1 a)))) else v.2.1 k) = (if k = 8 * a + b then w.2.1 (8 * a + b) + (nI (S 3 (w.1 b)) - nI (S 3 (w.1 a))) else if k = 8 * b + a then - (w.2.1 (8 * a + b) + (nI (S 3 (w.1 b)) - nI (S 3 (w.1 a)))) else w.2.1 k)
    rw [h.1 a ha, h.1 b hb, h.2.1 (8 * a + b) (by omega), h.2.1 k hk]
