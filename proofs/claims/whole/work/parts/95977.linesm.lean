/-! the reference reads LINES -/
def zt31 (a b : Bool) : Nat := (if a = true then 4096 else 0) + (if b = true then 8192 else 0)
theorem zt31_t : ∀ a b : Bool, (((nI (zt31 a b) >>> (nI 12 &&& 31)) &&& 1 = 1) ↔ a = true) ∧ (((nI (zt31 a b) >>> (nI 13 &&& 31)) &&& 1 = 1) ↔ b = true) ∧ (nI (zt31 a b) ||| ((1 : Int32) <<< (nI 12 &&& 31))) = nI (zt31 true b) ∧ (nI (zt31 a b) ||| ((1 : Int32) <<< (nI 13 &&& 31))) = nI (zt31 a true) := by decide
section ZML
variable {B : Nat → Nat} {n : Nat}
def zDmn (g : zDr) (M : zM) : Prop := M 79 27 = nI (g.1 0 0) ∧ M 79 28 = nI (g.1 1 0) ∧ M 79 29 = nI (g.1 2 0) ∧ (match g.2.2 with
    | none => M 79 30 = -1 ∧ M 79 33 = nI 0
    | some c => M 79 30 = nI 0 ∧ zrow (M 99) (zenc c ++ [0]) ∧ (zenc c).length + 1 ≤ 1900) ∧ M 79 31 = nI (zt31 g.2.1 g.2.2.isSome) ∧ (∀ i, i < g.1 0 0 → M 92 i = nI (g.1 3 i) ∧ M 93 i = nI (g.1 5 i) ∧ M 94 i = nI (g.1 6 i) ∧ M 95 i = nI (g.1 7 i)) ∧ (∀ i, i < g.1 0 0 → ∀ j, j < g.1 3 i → M 91 (9 * i + j) = nI (g.1 4 (9 * i + j))) ∧ (∀ i, i < 8 → M 97 i = nI (g.1 12 i)) ∧ (∀ i, i < 8 → ∀ k, k < g.1 12 i → ∃ v, v < 8 ∧ M 96 (8 * i + k) = nI v ∧ g.1 8 (8 * i + v) = k + 1) ∧ (∀ i, i < 8 → ∀ v, v < 8 → g.1 8 (8 * i + v) ≠ 0 → M 96 (8 * i + (g.1 8 (8 * i + v) - 1)) = nI v) ∧ (∀ f, f < g.1 1 0 → M 98 (3 * f) = nI (g.1 9 f) ∧ M 98 (3 * f + 1) = nI (g.1 10 f) ∧ M 98 (3 * f + 2) = nI (g.1 11 f))
def zTw (X : Nat → Bool) (M : zM) : Prop := ∃ T, T < 256 ∧ M 79 32 = nI T ∧ ∀ j, j < 8 → zbi T j = X j
def zDmm (g : zDr) (M : zM) : Prop := zDmn g M ∧ zTw (fun j => decide (0 < g.1 12 j)) M
def zMx (M M' : zM) : Prop := (∀ k, k < 16 ∨ k = 18 ∨ k = 19 ∨ 36 ≤ k → k ≠ 1026 → M' 79 k = M 79 k) ∧ zoff [79, 91, 92, 93, 94, 95, 96, 97, 98, 99, 100, 101] M M'
theorem zMx_rfl {M : zM} : zMx M M := ⟨fun _ _ _ => rfl, zoff_rfl⟩
theorem zMx_tr {M M' M'' : zM} (h : zMx M M') (h' : zMx M' M'') : zMx M M'' := ⟨fun k hk h2 => (h'.1 k hk h2).trans (h.1 k hk h2), zoff_trans h.2 h'.2⟩
theorem zMx_p {M M' : zM} (h : zMp M M') : zMx M M' := ⟨fun k hk h2 => h.1 k (by omega) h2, zoff_mono h.2 (by decide)⟩
theorem zMx_e {M M' : zM} (h : zEo M M') : zMx M M' := ⟨fun k hk h2 => h.1 k (by omega) h2, zoff_mono h.2 (by decide)⟩
theorem zMx_o {M M' : zM} (h : zoff [91, 92, 93, 94, 95, 96, 97, 98] M M') : zMx M M' := ⟨fun k _ _ => by rw [h 79 (by decide)], zoff_mono h (by decide)⟩
theorem zDmn_p {g : zDr} {M M' : zM} (h : zDmn g M) (o : zMp M M') : zDmn g M' := by
  unfold zDmn at *
  rw [o.1 27 (by omega) (by omega), o.1 28 (by omega) (by omega), o.1 29 (by omega) (by omega), o.1 30 (by omega) (by omega), o.1 31 (by omega) (by omega), o.1 33 (by omega) (by omega), o.2 91 (by decide), o.2 92 (by decide), o.2 93 (by decide), o.2 94 (by decide), o.2 95 (by decide), o.2 96 (by decide), o.2 97 (by decide), o.2 98 (by decide), o.2 99 (by decide)]
  exact h
theorem zTw_p {X : Nat → Bool} {M M' : zM} (h : zTw X M) (o : zMp M M') : zTw X M' := by
  unfold zTw at *
  rw [o.1 32 (by omega) (by omega)]
  exact h
theorem zDmm_p {g : zDr} {M M' : zM} (h : zDmm g M) (o : zMp M M') : zDmm g M' := ⟨zDmn_p h.1 o, zTw_p h.2 o⟩
def zMss (B : Nat → Nat) (n : Nat) (s : (Nat × Nat) × zDr) (M : zM) : Prop := zTmx B n s.1 M ∧ (s.1.1 = 0 → zDmm s.2 M)
/-- the token stays where rows are written -/
theorem zTmx_o {p : Nat × Nat} {M M' : zM} (h : zTmx B n p M) (o : zoff [91, 92, 93, 94, 95, 96, 97, 98] M M') : zTmx B n p M' := zTmx_cg h (fun k _ => by rw [o 79 (by decide)]) (o 89 (by decide))
theorem zax_up {P : Nat → Bool} {k : Nat} : ∀ m, k ≤ m → zax P k = true → zax P m = true
  | 0, h, h2 => by
    obtain rfl : k = 0 := by omega
    exact h2
  | m + 1, h, h2 => by
    by_cases e : k = m + 1
    · rw [← e]; exact h2
    · rw [zax_s, zax_up m (by omega) h2]
      rfl
theorem wdo_m (ht : zTxt B n) {p : Nat × Nat} {M : zM} (h : zTmx B n p M) (hw : tkk B n p.2 = 257) (hl9 : tkl B n p.2 ≤ 9) {S : zSD} (hS : zSok S) {k : Nat} (hk : k < S 0 0) (h92 : M 92 k = nI (S 3 k)) (h91 : ∀ j, j < S 3 k → M 91 (9 * k + j) = nI (S 4 (9 * k + j))) : F_X12_isWordOf 79 (nI k) M = zI (if zsame B n S p.2 k = true then 1 else 0) M := by
  have h8 := so_n hS
  have h9 := so_i hS k hk
  have hwd := tk_word hw
  have hn := ht.1
  have hts := tkst_le (B := B) (n := n) p.2
  have hpl : M 79 22 = nI (tkst B n p.2) := h.2.2.2.2.2.2.1
  unfold F_X12_isWordOf
  rw [zin_k (k := k) (n := 8) (by omega) (by omega), zck_t, gr_79_37, zix_k (k := k) (by omega), h92, slg_m h]
  by_cases c : S 3 k = tkl B n p.2
  · rw [zit_t (by rw [c])]
    refine zfor (i := 0) (f := zN) (a := ()) (tkl B n p.2) (fun f j (_ : Unit) => F_X12_isWordOf_L17 79 (nI k) (fun (M2 : zM) => zck (zbo 1) (zI 1 M2)) f (nI j) M) (fun j _ => ∀ l, l < j → S 4 (9 * k + l) = B (tkst B n p.2 + l) - 96) (fun o => o = zI (if zsame B n S p.2 k = true then 1 else 0) M) ?_ ?_ (by omega) (zN_ge (by omega)) (fun l hl => absurd hl (Nat.not_lt_zero _))
    · rintro f j _ hj hI
      have hb := ht.2.1 (tkst B n p.2 + j)
      have hl := hwd j hj
      have h26 := so_4 hS k hk j (by omega)
      show F_X12_isWordOf_L17 79 (nI k) _ (f + 1) (nI j) M = _ ∨ _
      rw [F_X12_isWordOf_L17, slg_m h, zit_f (nI_ge hj (by omega)), ix9m, zin_k (k := 9 * k + j) (n := 72) (by omega) (by omega), zck_t, hpl, nI_add, bat_m ht h.1 (by omega), zbI_I, gr_79_36, zix_k (k := 9 * k + j) (by omega), h91 j (by omega), show (96 : Int32) = nI 96 from rfl, s_sub (by omega), nI_1]
      by_cases ce : S 4 (9 * k + j) = B (tkst B n p.2 + j) - 96
      · refine Or.inr ⟨(), ?_, fun l hl => ?_⟩
        · rw [zit_t (by rw [ce])]
        · by_cases e : l = j
          · rw [e]; exact ce
          · exact hI l (by omega)
      · refine Or.inl ?_
        rw [zit_f (fun z => ce ((nI_eq (by omega) (by omega)).mp z)), zbo_0, zck_t, if_neg (fun z => ce ((of_decide_eq_true z).2 j hj))]
    · rintro f _ hI
      show F_X12_isWordOf_L17 79 (nI k) _ (f + 1) (nI (tkl B n p.2)) M = _
      rw [F_X12_isWordOf_L17, slg_m h, zit_t (nI_le (Nat.le_refl _) (by omega)), zbo_1, zck_t, if_pos (show zsame B n S p.2 k = true from decide_eq_true ⟨c, hI⟩)]
  · rw [zit_f (fun z => c ((nI_eq (by omega) (by omega)).mp z)), zbo_0, zck_t, if_neg (fun z => c (of_decide_eq_true z).1)]
theorem znm2_f {p : Nat × Nat} (h : p.1 ≠ 0) : (znm2 B n p).1 = p := by
  have e1 : zsn B n 0 60 p = p := by
    unfold zsn
    rw [if_pos h]
  have ez : zstp p = p := zstp_f h
  unfold znm2
  simp [e1, ez, zwd_f h]
/-- letters are laid -/
theorem ltl_m (ht : zTxt B n) {p : Nat × Nat} {M : zM} (h : zTmx B n p M) (hw : tkk B n p.2 = 257) (hl9 : tkl B n p.2 ≤ 9) {m : Nat} (hm : m < 8) (K : zM → zO) : ∃ M', F_X12_readsName_L114 79 (nI m) K zN 0 M = K M' ∧ ((∀ j, j < tkl B n p.2 → M' 91 (9 * m + j) = nI (B (tkst B n p.2 + j) - 96)) ∧ (∀ k, k < 9 * m → M' 91 k = M 91 k) ∧ zoff [91] M M') := by
  have hwd := tk_word hw
  have hn := ht.1
  have hts := tkst_le (B := B) (n := n) p.2
  refine zfor (i := 0) (f := zN) (a := M) (tkl B n p.2) (fun f j (M1 : zM) => F_X12_readsName_L114 79 (nI m) K f (nI j) M1) (fun j M1 => (∀ l, l < j → M1 91 (9 * m + l) = nI (B (tkst B n p.2 + l) - 96)) ∧ (∀ k, k < 9 * m → M1 91 k = M 91 k) ∧ zoff [91] M M1) (fun o => ∃ M', o = K M' ∧ ((∀ j, j < tkl B n p.2 → M' 91 (9 * m + j) = nI (B (tkst B n p.2 + j) - 96)) ∧ (∀ k, k < 9 * m → M' 91 k = M 91 k) ∧ zoff [91] M M')) ?_ ?_ (by omega) (zN_ge (by omega)) ⟨fun l hl => absurd hl (Nat.not_lt_zero _), fun _ _ => rfl, zoff_rfl⟩
  · rintro f j M1 hj ⟨i1, i2, i3⟩
    refine Or.inr ?_
    have h1 := zTmx_o h (zoff_mono i3 (by decide))
    have hpl : M1 79 22 = nI (tkst B n p.2) := h1.2.2.2.2.2.2.1
    have hl := hwd j hj
    show ∃ M2, F_X12_readsName_L114 79 (nI m) K (f + 1) (nI j) M1 = F_X12_readsName_L114 79 (nI m) K f (nI (j + 1)) M2 ∧ _
    rw [F_X12_readsName_L114, slg_m h1, zit_f (nI_ge hj (by omega)), hpl, nI_add, bat_m ht h1.1 (by omega), zbI_I, ix9m, zin_k (k := 9 * m + j) (n := 72) (by omega) (by omega), zck_t, zst_eq, gr_79_36, zix_k (k := 9 * m + j) (by omega), show (96 : Int32) = nI 96 from rfl, s_sub (by omega), nI_1]
    refine ⟨_, rfl, fun l hl => ?_, fun k hk => by rw [zup_row, upd_ne (by omega), i2 k hk], zoff_up i3 (by decide)⟩
    rw [zup_row]
    by_cases e : l = j
    · rw [e, upd_eq]
    · rw [upd_ne (by omega), i1 l (by omega)]
  · rintro f M1 ⟨i1, i2, i3⟩
    have h1 := zTmx_o h (zoff_mono i3 (by decide))
    show ∃ M2, F_X12_readsName_L114 79 (nI m) K (f + 1) (nI (tkl B n p.2)) M1 = _ ∧ _
    rw [F_X12_readsName_L114, slg_m h1, zit_t (nI_le (Nat.le_refl _) (by omega))]
    exact ⟨M1, rfl, i1, i2, i3⟩
/-- is the word new -/
theorem dup_m (ht : zTxt B n) {i : Nat} {M : zM} (h : zTmx B n (0, i) M) (hw : tkk B n i = 257) (hl9 : tkl B n i ≤ 9) {S : zSD} (hS : zSok S) (h92 : ∀ k, k < S 0 0 → M 92 k = nI (S 3 k)) (h91 : ∀ k, k < S 0 0 → ∀ j, j < S 3 k → M 91 (9 * k + j) = nI (S 4 (9 * k + j))) (K : zM → zO) : ∃ M', F_X12_readsName_L63 79 (nI (S 0 0)) K zN 0 M = K M' ∧ (zTmx B n (if zax (zsame B n S i) (S 0 0) = true then (4, i) else (0, i)) M' ∧ zMp M M') := by
  have h8 := so_n hS
  refine zfor (i := 0) (f := zN) (a := M) (S 0 0) (fun f k (M1 : zM) => F_X12_readsName_L63 79 (nI (S 0 0)) K f (nI k) M1) (fun k M1 => zTmx B n (if zax (zsame B n S i) k = true then (4, i) else (0, i)) M1 ∧ zMp M M1) (fun o => ∃ M', o = K M' ∧ (zTmx B n (if zax (zsame B n S i) (S 0 0) = true then (4, i) else (0, i)) M' ∧ zMp M M')) ?_ ?_ (by omega) (zN_ge (by omega)) ⟨h, zMp_rfl⟩
  · rintro f k M1 hk ⟨i1, i2⟩
    show (∃ M', F_X12_readsName_L63 79 (nI (S 0 0)) K (f + 1) (nI k) M1 = K M' ∧ _) ∨ _
    rw [F_X12_readsName_L63, zit_f (nI_ge hk (by omega))]
    cases hz : zax (zsame B n S i) k with
    | true =>
      rw [hz, if_pos rfl] at i1
      refine Or.inl ?_
      rw [gd_m i1, zbI_I, if_neg (by simp), zit_t rfl, if_pos (zax_up (S 0 0) (by omega) hz)]
      exact ⟨M1, rfl, i1, i2⟩
    | false =>
      rw [hz, if_neg (by decide)] at i1
      refine Or.inr ?_
      rw [gd_m i1, zbI_I, if_pos rfl, zit_f (by decide), wdo_m ht i1 hw hl9 hS hk (by rw [i2.2 92 (by decide)]; exact h92 k hk) (fun j hj => by rw [i2.2 91 (by decide)]; exact h91 k hk j hj), zbI_I, zjo_eq, nI_1]
      show ∃ M2, _ = F_X12_readsName_L63 79 (nI (S 0 0)) K f (nI (k + 1)) M2 ∧ (zTmx B n (if zax (zsame B n S i) (k + 1) = true then (4, i) else (0, i)) M2 ∧ zMp M M2)
      rw [zax_s, hz, Bool.false_or]
      cases hs : zsame B n S (0, i).2 k with
      | false =>
        rw [if_neg (by decide), zit_t rfl, if_neg (by decide)]
        exact ⟨M1, rfl, i1, i2⟩
      | true =>
        obtain ⟨M2, e2, t2, k2, o2⟩ := wr_m i1 (w := 4) (by omega) (by omega)
        rw [zrfs_0 rfl] at t2
        rw [if_pos rfl, zit_f (by decide), show F_X12_wrong 79 4 M1 = zV M2 from e2, zbV_V, if_pos rfl]
        exact ⟨M2, rfl, t2, zMp_tr i2 (zMp_w k2 o2)⟩
  · rintro f M1 ⟨i1, i2⟩
    show ∃ M', F_X12_readsName_L63 79 (nI (S 0 0)) K (f + 1) (nI (S 0 0)) M1 = K M' ∧ _
    rw [F_X12_readsName_L63, zit_t (nI_le (Nat.le_refl _) (by omega))]
    exact ⟨M1, rfl, i1, i2⟩
end ZML
