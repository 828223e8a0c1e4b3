/-! century -/
theorem zm_ret2 {Y : zM → zO} {q : zSt} {r : Int32} (h : ∀ M, zQm q M → M 79 0 = 0 → ∃ M1, Y M = zI r M1 ∧ (∀ k, k ∈ zMf ∨ k = 0 → M1 79 k = M 79 k) ∧ zoff (79 :: zMs) M M1) : zOm0 Y q q r := by
  intro M hq h0
  obtain ⟨M1, e, e79, ho⟩ := h M hq h0
  exact ⟨M1, e, by rw [e79 0 (Or.inr rfl), h0], zQm_off hq (fun i h1 h2 hi => ho i (fun hz => by
    rcases List.mem_cons.mp hz with hz | hz
    · omega
    · exact hi hz)) (fun k hk => e79 k (Or.inl hk)), fun i hi => ho i (fun hz => by
    rcases List.mem_cons.mp hz with hz | hz
    · omega
    · have := zMs_gt i hz; omega)⟩
theorem zop0_ret2 {X Y : zM → zO} {q : zSt} {r : Int32} (hX : ∀ M, zQx q M → ∃ M1, X M = zI r M1 ∧ zoff zXc M M1) (hY : ∀ M, zQm q M → M 79 0 = 0 → ∃ M1, Y M = zI r M1 ∧ (∀ k, k ∈ zMf ∨ k = 0 → M1 79 k = M 79 k) ∧ zoff (79 :: zMs) M M1) : zOp0 X Y q := ⟨q, r, by omega, zx_ret hX, zm_ret2 hY⟩
theorem bv15 : ∀ i, i < 32 → 15 ≤ i → (32767#32).getLsbD i = false := by decide
theorem bv_dr (x : BitVec 32) : x.ushiftRight 16 &&& 32767#32 = x.sshiftRight 16 &&& 32767#32 := by
  apply BitVec.eq_of_getLsbD_eq
  intro i hi
  rw [BitVec.getLsbD_and, BitVec.getLsbD_and]
  by_cases h : 15 ≤ i
  · rw [bv15 i hi h, Bool.and_false, Bool.and_false]
  · congr 1
    rw [show x.ushiftRight 16 = x >>> 16 from rfl, BitVec.getLsbD_ushiftRight, BitVec.getLsbD_sshiftRight]
    simp only [show ¬ 32 ≤ i from by omega, decide_false, Bool.not_false, Bool.true_and]
    rw [if_pos (by omega)]
theorem dr_eq (a : Int32) : ((a.toUInt32 >>> ((16 : Int32).toUInt32 &&& Int32.toUInt32 31)).toInt32) &&& 32767 = (a >>> ((16 : Int32) &&& 31)) &&& 32767 := by
  apply Int32.toBitVec_inj.1
  exact bv_dr a.toBitVec
def zdv (s : Int32) : Nat := ((s >>> ((16 : Int32) &&& 31)) &&& 32767).toNatClampNeg
theorem zdv_eq (s : Int32) : zdv s < 32768 ∧ (s >>> ((16 : Int32) &&& 31)) &&& 32767 = nI (zdv s) := by
  obtain ⟨j, hj, e⟩ := pk_andE (s >>> ((16 : Int32) &&& 31)) (m := 32767) 15 (by decide)
  unfold zdv
  rw [e, nI_clamp (by omega)]
  exact ⟨by omega, rfl⟩
def znx (s : Int32) : Int32 := s * 1103515245 + 12345
theorem dw_x {s : Int32} {n : Nat} {M : zM} (h0 : 0 < n) (hn : n ≤ 8) : F_X11_draw s (nI n) M = zI (nI (zdv s % n)) M := by
  obtain ⟨h1, h2⟩ := zdv_eq s
  unfold F_X11_draw
  rw [zjo_eq, zit_f (nI_nle h0 (by omega)), dr_eq, h2, pk_rem (by omega) h0 (by omega), decide_eq_false (nI_ne0 h0 (by omega))]
  rfl
theorem dw_m {n : Nat} {M : zM} (h0 : 0 < n) (hn : n ≤ 8) : F_X12_draw 79 (nI n) M = zI (nI (zdv (znx (M 79 72)) % n)) (zup M 79 72 (znx (M 79 72))) := by
  obtain ⟨h1, h2⟩ := zdv_eq (znx (M 79 72))
  unfold F_X12_draw
  rw [zst_eq, zup_row, upd_eq, show (M 79 72 * 1103515245 + 12345 : Int32) = znx (M 79 72) from rfl, h2, pk_rem (by omega) h0 (by omega), decide_eq_false (nI_ne0 h0 (by omega))]
  rfl
/-- a year of it, all -/
def zcs (S : zSD) (L : zLw) (x : Int32 × Nat × zWD) : Int32 × Nat × zWD :=
  if S 0 0 = 0 then (x.1, x.2.1, zWyr S L x.2.2) else if zdv (znx x.1) % S 0 0 ≠ zdv (znx (znx x.1)) % S 0 0 ∧ zmay S L x.2.2 (zdv (znx x.1) % S 0 0) (zdv (znx (znx x.1)) % S 0 0) = true then (znx (znx x.1), x.2.1 + 1, zWyr S L (zWex S (zdv (znx x.1) % S 0 0) (zdv (znx (znx x.1)) % S 0 0) x.2.2)) else (znx (znx x.1), x.2.1, zWyr S L x.2.2)
def zcy (S : zSD) (L : zLw) (s : Int32) (w : zWD) : Nat → Int32 × Nat × zWD
  | 0 => (s, 0, w)
  | k + 1 => zcs S L (zcy S L s w k)
theorem zcs_ok {S : zSD} {L : zLw} (ho : zSok S) {x : Int32 × Nat × zWD} (h : zWok S x.2.2) : zWok S (zcs S L x).2.2 := by
  unfold zcs
  by_cases h0 : S 0 0 = 0
  · rw [if_pos h0]
    exact zWyr_ok ho h
  · rw [if_neg h0]
    split
    · rename_i hc
      exact zWyr_ok ho (zWex_ok ho h (Nat.mod_lt _ (by omega)) (Nat.mod_lt _ (by omega)) hc.1)
    · exact zWyr_ok ho h
theorem zcy_ok {S : zSD} {L : zLw} (ho : zSok S) {s : Int32} {w : zWD} (h : zWok S w) : ∀ k, zWok S (zcy S L s w k).2.2
  | 0 => h
  | k + 1 => zcs_ok ho (zcy_ok ho h k)
section ZCY
variable {S : zSD} {L : zLw} {w : zWD} {M : zM}
theorem cy_x (hS : zSx S M) (ho : zSok S) (hl : zLok L) (hL : zLx L M) (hW : zWx 43 w M) (hk : zWok S w) (s : Int32) {m : Nat} (hm : m ≤ 100) : ∃ M', F_X11_liveCentury 0 s (nI m) M = zI (nI (zcy S L s w m).2.1) M' ∧ (zWx 43 (zcy S L s w m).2.2 M' ∧ zoff [10, 12, 43, 44, 45] M M') := by
  have hn := so_n ho
  unfold F_X11_liveCentury
  refine zfor (i := 0) (f := zN) (a := M) m (fun n k (M1 : zM) => F_X11_liveCentury_L8 0 (nI m) (fun (y1 : Int32) (M9 : zM) => zI y1 M9) n (zcy S L s w k).1 (nI (zcy S L s w k).2.1) (nI k) M1) (fun k M1 => zWx 43 (zcy S L s w k).2.2 M1 ∧ zoff [10, 12, 43, 44, 45] M M1) (fun o => ∃ M', o = zI (nI (zcy S L s w m).2.1) M' ∧ (zWx 43 (zcy S L s w m).2.2 M' ∧ zoff [10, 12, 43, 44, 45] M M')) ?_ ?_ (by omega) (zN_ge (by omega)) ⟨hW, zoff_rfl⟩
  · rintro n k M1 hkm ⟨hW1, o1⟩
    refine Or.inr ?_
    have hk1 := zcy_ok (L := L) ho (s := s) hk k
    have hs : zcy S L s w (k + 1) = zcs S L (zcy S L s w k) := rfl
    rw [hs]
    obtain ⟨x, hx⟩ : ∃ x, zcy S L s w k = x := ⟨_, rfl⟩
    rw [hx] at hW1 hk1 ⊢
    have hS1 : zSx S M1 := zSx_off hS (fun i hi => o1 i (fun hz => by
      simp only [List.mem_cons, List.mem_nil_iff, or_false] at hi hz
      omega))
    have hL1 : zLx L M1 := zLx_off hL (o1 9 (by decide)) (o1 11 (by decide))
    have yr : ∀ M2 w2 (s2 d2 : Int32), zWx 43 w2 M2 → zWok S w2 → zSx S M2 → zLx L M2 → zoff [10, 12, 43, 44, 45] M M2 → ∃ M3, zbI (F_X10_passYear 43 M2) (fun r7 M8 => F_X11_liveCentury_L8 0 (nI m) (fun (y1 : Int32) (M9 : zM) => zI y1 M9) n s2 d2 (nI k + 1) M8) = F_X11_liveCentury_L8 0 (nI m) (fun (y1 : Int32) (M9 : zM) => zI y1 M9) n s2 d2 (nI (k + 1)) M3 ∧ (zWx 43 (zWyr S L w2) M3 ∧ zoff [10, 12, 43, 44, 45] M M3) := fun M2 w2 s2 d2 h1 h2 h3 h4 h5 => by
      obtain ⟨M3, e3, h6, h7⟩ := py_x (Or.inr rfl) h3 ho hl h4 h1 h2
      rw [e3, zbI_I, nI_1]
      exact ⟨M3, rfl, h6, zoff_trans h5 h7⟩
    show ∃ M2, F_X11_liveCentury_L8 0 (nI m) _ (n + 1) _ _ _ M1 = F_X11_liveCentury_L8 0 (nI m) _ n _ _ _ M2 ∧ _
    rw [F_X11_liveCentury_L8, zit_f (nI_ge hkm (by omega)), zjo_eq, gr_0_1, gr_0_5, sx_n hS1]
    unfold zcs
    by_cases h0 : S 0 0 = 0
    · rw [if_pos h0, zit_t (by rw [h0]; decide)]
      exact yr M1 x.2.2 _ _ hW1 hk1 hS1 hL1 o1
    · rw [if_neg h0, zit_f (nI_nle (by omega) (by omega))]
      have a1 : zdv (znx x.1) % S 0 0 < S 0 0 := Nat.mod_lt _ (by omega)
      have a2 : zdv (znx (znx x.1)) % S 0 0 < S 0 0 := Nat.mod_lt _ (by omega)
      rw [show F_X11_nextSeed x.1 M1 = zI (znx x.1) M1 from rfl, zbI_I, sx_n hS1, dw_x (by omega) hn, zbI_I, show F_X11_nextSeed (znx x.1) M1 = zI (znx (znx x.1)) M1 from rfl, zbI_I, sx_n hS1, dw_x (by omega) hn, zbI_I]
      by_cases hd : zdv (znx x.1) % S 0 0 = zdv (znx (znx x.1)) % S 0 0
      · rw [zit_t (by rw [hd]), if_neg (fun z => z.1 hd)]
        exact yr M1 x.2.2 _ _ hW1 hk1 hS1 hL1 o1
      · rw [zit_f (fun e => hd ((nI_eq (by omega) (by omega)).mp e))]
        obtain ⟨M2, e2, o2⟩ := lt_x (Or.inr rfl) hS1 ho hl hL1 hW1 hk1 a1 a2
        rw [e2, zbI_I]
        have e12 : ∀ i, i ≠ 10 → i ≠ 12 → M2 i = M1 i := fun i h1 h2 => o2 i (by simp [h1, h2])
        have hS2 : zSx S M2 := zSx_off hS1 (fun i hi => o2 i (fun hz => by
          simp only [List.mem_cons, List.mem_nil_iff, or_false] at hi hz
          omega))
        have hL2 : zLx L M2 := zLx_off hL1 (o2 9 (by decide)) (o2 11 (by decide))
        have hW2 : zWx 43 x.2.2 M2 := by
          unfold zWx
          rw [o2 43 (by decide), o2 (43 + 1) (by decide), o2 (43 + 2) (by decide)]
          exact hW1
        have o12 : zoff [10, 12, 43, 44, 45] M M2 := zoff_trans o1 (zoff_mono o2 (by decide))
        cases hm' : zmay S L x.2.2 (zdv (znx x.1) % S 0 0) (zdv (znx (znx x.1)) % S 0 0) with
        | false =>
          rw [if_neg (by decide), zit_t (by decide), if_neg (fun z => absurd z.2 (by decide))]
          exact yr M2 x.2.2 _ _ hW2 hk1 hS2 hL2 o12
        | true =>
          rw [if_pos rfl, zit_f (by decide), if_pos ⟨hd, rfl⟩]
          obtain ⟨M3, e3, hW3, o3⟩ := ex_x (Or.inr rfl) hS2 ho hW2 hk1 a1 a2 hd
          rw [e3, zbI_I]
          have hS3 : zSx S M3 := zSx_off hS2 (fun i hi => o3 i (fun hz => by
            simp only [List.mem_cons, List.mem_nil_iff, or_false] at hi hz
            omega))
          have hL3 : zLx L M3 := zLx_off hL2 (o3 9 (by decide)) (o3 11 (by decide))
          have := yr M3 (zWex S (zdv (znx x.1) % S 0 0) (zdv (znx (znx x.1)) % S 0 0) x.2.2) (znx (znx x.1)) (nI (x.2.1 + 1)) hW3 (zWex_ok ho hk1 a1 a2 hd) hS3 hL3 (zoff_trans o12 (zoff_mono o3 (by decide)))
          rw [show (nI x.2.1 + 1 : Int32) = nI (x.2.1 + 1) from nI_1 _]
          exact this
  · rintro n M1 ⟨hW1, o1⟩
    show ∃ M', F_X11_liveCentury_L8 0 (nI m) _ (n + 1) _ _ _ M1 = _ ∧ _
    rw [F_X11_liveCentury_L8, zit_t (nI_le (Nat.le_refl _) (by omega))]
    exact ⟨M1, rfl, hW1, o1⟩
theorem cy_m (hS : zSm S M) (ho : zSok S) (hl : zLok L) (hL : zLm L M) (hW : zWr (M 103) 0 w) (hk : zWok S w) {s : Int32} (hs0 : M 79 72 = s) {m : Nat} (hm : m ≤ 100) (x3 : Int32) (K : Int32 → zM → zO) : ∃ M', F_X12_century_L58 79 (nI m) x3 K zN 0 0 M = K (nI (zcy S L s w m).2.1) M' ∧ (zWr (M' 103) 0 (zcy S L s w m).2.2 ∧ (∀ k, k ≠ 72 → M' 79 k = M 79 k) ∧ zoff [79, 103, 105, 106] M M') := by
  have hn := so_n ho
  refine zfor (i := 0) (f := zN) (a := M) m (fun n k (M1 : zM) => F_X12_century_L58 79 (nI m) x3 K n (nI (zcy S L s w k).2.1) (nI k) M1) (fun k M1 => zWr (M1 103) 0 (zcy S L s w k).2.2 ∧ M1 79 72 = (zcy S L s w k).1 ∧ (∀ k, k ≠ 72 → M1 79 k = M 79 k) ∧ zoff [79, 103, 105, 106] M M1) (fun o => ∃ M', o = K (nI (zcy S L s w m).2.1) M' ∧ (zWr (M' 103) 0 (zcy S L s w m).2.2 ∧ (∀ k, k ≠ 72 → M' 79 k = M 79 k) ∧ zoff [79, 103, 105, 106] M M')) ?_ ?_ (by omega) (zN_ge (by omega)) ⟨hW, hs0, fun _ _ => rfl, zoff_rfl⟩
  · rintro n k M1 hkm ⟨hW1, hs1, h79, o1⟩
    refine Or.inr ?_
    have hk1 := zcy_ok (L := L) ho (s := s) hk k
    have hs : zcy S L s w (k + 1) = zcs S L (zcy S L s w k) := rfl
    rw [hs]
    obtain ⟨x, hx⟩ : ∃ x, zcy S L s w k = x := ⟨_, rfl⟩
    rw [hx] at hW1 hk1 hs1 ⊢
    have okS : ∀ M2 : zM, (∀ k, k ≠ 72 → M2 79 k = M 79 k) → zoff [79, 103, 105, 106] M M2 → zSm S M2 ∧ zLm L M2 := fun M2 g1 g2 => ⟨zSm_off hS (fun z hz => g1 z (fun e => by subst e; revert hz; decide)) (fun i hi => g2 i (fun hz => by
      simp only [List.mem_cons, List.mem_nil_iff, or_false] at hi hz
      omega)), zLm_off hL (g1 4 (by omega)) (g2 88 (by decide))⟩
    have yr : ∀ M2 w2 (d2 s2 : Int32), zWr (M2 103) 0 w2 → zWok S w2 → M2 79 72 = s2 → (∀ k, k ≠ 72 → M2 79 k = M 79 k) → zoff [79, 103, 105, 106] M M2 → ∃ M3, zbI (F_X12_yearOf 79 103 M2) (fun r7 M13 => F_X12_century_L58 79 (nI m) x3 K n d2 (nI k + 1) M13) = F_X12_century_L58 79 (nI m) x3 K n d2 (nI (k + 1)) M3 ∧ (zWr (M3 103) 0 (zWyr S L w2) ∧ M3 79 72 = s2 ∧ (∀ k, k ≠ 72 → M3 79 k = M 79 k) ∧ zoff [79, 103, 105, 106] M M3) := fun M2 w2 d2 s2 h1 h2 h3 h4 h5 => by
      obtain ⟨g1, g2⟩ := okS M2 h4 h5
      obtain ⟨M3, e3, h6, h7⟩ := yo_m (Or.inr rfl) g1 ho hl g2 h1 h2
      rw [e3, zbI_I, nI_1]
      have e79 : M3 79 = M2 79 := h7 79 (by decide)
      exact ⟨M3, rfl, h6, by rw [e79, h3], fun z hz => by rw [e79, h4 z hz], zoff_trans h5 (zoff_mono h7 (by decide))⟩
    obtain ⟨hS1, hL1⟩ := okS M1 h79 o1
    show ∃ M2, F_X12_century_L58 79 (nI m) x3 K (n + 1) _ _ M1 = F_X12_century_L58 79 (nI m) x3 K n _ _ M2 ∧ _
    rw [F_X12_century_L58, zit_f (nI_ge hkm (by omega)), zjo_eq, gr_79_48, sm_n hS1]
    unfold zcs
    by_cases h0 : S 0 0 = 0
    · rw [if_pos h0, zit_t (by rw [h0]; decide)]
      exact yr M1 x.2.2 _ _ hW1 hk1 hs1 h79 o1
    · rw [if_neg h0, zit_f (nI_nle (by omega) (by omega))]
      have a1 : zdv (znx x.1) % S 0 0 < S 0 0 := Nat.mod_lt _ (by omega)
      have a2 : zdv (znx (znx x.1)) % S 0 0 < S 0 0 := Nat.mod_lt _ (by omega)
      have u1 : zup M1 79 72 (znx x.1) 79 1 = nI (S 0 0) := by rw [zup_row, upd_ne (by omega), sm_n hS1]
      rw [dw_m (by omega) hn, zbI_I, hs1, u1, dw_m (by omega) hn, zbI_I, zup_row, upd_eq]
      obtain ⟨M2, hM2⟩ : ∃ M2, zup (zup M1 79 72 (znx x.1)) 79 72 (znx (znx x.1)) = M2 := ⟨_, rfl⟩
      rw [hM2]
      have v72 : M2 79 72 = znx (znx x.1) := by rw [← hM2, zup_row, upd_eq]
      have v79 : ∀ z, z ≠ 72 → M2 79 z = M 79 z := fun z hz => by rw [← hM2, zup_row, upd_ne hz, zup_row, upd_ne hz, h79 z hz]
      have v2 : ∀ i, i ≠ 79 → M2 i = M1 i := fun i hi => by rw [← hM2, zup_ne hi, zup_ne hi]
      have o12 : zoff [79, 103, 105, 106] M M2 := fun i hi => by
        rw [v2 i (fun e => hi (by rw [e]; decide)), o1 i hi]
      have hW2 : zWr (M2 103) 0 x.2.2 := by rw [v2 103 (by omega)]; exact hW1
      obtain ⟨hS2, hL2⟩ := okS M2 v79 o12
      by_cases hd : zdv (znx x.1) % S 0 0 = zdv (znx (znx x.1)) % S 0 0
      · rw [zit_t (by rw [hd]), if_neg (fun z => z.1 hd)]
        exact yr M2 x.2.2 _ _ hW2 hk1 v72 v79 o12
      · rw [zit_f (fun e => hd ((nI_eq (by omega) (by omega)).mp e))]
        obtain ⟨M3, e3, o3⟩ := lt_m (Or.inr rfl) hS2 ho hl hL2 hW2 (a := zdv (znx x.1) % S 0 0) (b := zdv (znx (znx x.1)) % S 0 0) (by omega) (by omega) (wo_n hk1 _ a1) (wo_n hk1 _ a2)
        rw [e3, zbI_I]
        have e79 : M3 79 = M2 79 := o3 79 (by decide)
        have o13 : zoff [79, 103, 105, 106] M M3 := zoff_trans o12 (zoff_mono o3 (by decide))
        have hW3 : zWr (M3 103) 0 x.2.2 := by rw [o3 103 (by decide)]; exact hW2
        have w79 : ∀ z, z ≠ 72 → M3 79 z = M 79 z := fun z hz => by rw [e79, v79 z hz]
        obtain ⟨hS3, hL3⟩ := okS M3 w79 o13
        cases hm' : zmay S L x.2.2 (zdv (znx x.1) % S 0 0) (zdv (znx (znx x.1)) % S 0 0) with
        | false =>
          rw [if_neg (by decide), zit_t (by decide), if_neg (fun z => absurd z.2 (by decide))]
          exact yr M3 x.2.2 _ _ hW3 hk1 (by rw [e79, v72]) w79 o13
        | true =>
          rw [if_pos rfl, zit_f (by decide), if_pos ⟨hd, rfl⟩]
          obtain ⟨M4, e4, hW4, o4⟩ := si_m (Or.inr rfl) hS3 ho hW3 hk1 a1 a2 hd
          rw [e4, zbV_V]
          have f79 : M4 79 = M3 79 := o4 79 (by decide)
          have := yr M4 (zWex S (zdv (znx x.1) % S 0 0) (zdv (znx (znx x.1)) % S 0 0) x.2.2) (nI (x.2.1 + 1)) (znx (znx x.1)) hW4 (zWex_ok ho hk1 a1 a2 hd) (by rw [f79, e79, v72]) (fun z hz => by rw [f79, w79 z hz]) (zoff_trans o13 (zoff_mono o4 (by decide)))
          rw [show (nI x.2.1 + 1 : Int32) = nI (x.2.1 + 1) from nI_1 _]
          exact this
  · rintro n M1 ⟨hW1, hs1, h79, o1⟩
    show ∃ M', F_X12_century_L58 79 (nI m) x3 K (n + 1) _ _ M1 = _ ∧ _
    rw [F_X12_century_L58, zit_t (nI_le (Nat.le_refl _) (by omega))]
    exact ⟨M1, rfl, hW1, h79, o1⟩
end ZCY
theorem op_century (q : zSt) (ho : zok q) (a b c : Int32) : zOp 2 (F_X11_century 0 a b c) (F_X12_century 79 a b c) zNSE zIAE q := by
  have hn := qo_n ho
  have hY : ∀ M, F_X12_century 79 a b c M = F_X12_century 79 a b c (zup M 79 0 0) := fun M => by unfold F_X12_century; rw [zup_idem]
  have main : (c = -1 ∨ ∃ i, i < tS q 0 0 ∧ c = nI i) → zOp 2 (F_X11_century 0 a b c) (F_X12_century 79 a b c) zNSE zIAE q := fun hc => by
    have c1 : ∀ M, zQx q M → F_X11_needIsleOrNone 0 c M = zV M := fun M h => by
      unfold F_X11_needIsleOrNone
      rw [zjo_eq]
      rcases hc with rfl | ⟨i, hi, rfl⟩
      · rw [zit_t rfl]
      · rw [zit_f (nI_n1 (by omega)), px_isle_in (sx_n (qx_S h)) hn hi, zbV_V]
    have c2 : ∀ (A : zO) (B : Int32 → zM → zO) (M : zM), zQm q M → M 79 0 = 0 → B 1 M = A → zit (c = (-1)) A (zbI (F_X12_isOne 79 c M) B) = A := fun A B M h h0 hB => by
      rcases hc with rfl | ⟨i, hi, rfl⟩
      · rw [zit_t rfl]
      · rw [zit_f (nI_n1 (by omega)), pm_one_in h0 (sm_n (qm_S h)) hn hi, zbI_I, hB]
    rcases zca (m := 100) (by omega) b with ⟨m, hm, rfl⟩ | hb
    · have hwk := zcy_ok (L := tL q) (qo_S ho) (s := a) (qo_W ho) m
      refine zop_self hY (zop0_ret2 (r := if c = -1 then nI (zcy (tS q) (tL q) a (tW q) m).2.1 else nI ((zcy (tS q) (tL q) a (tW q) m).2.2.1 (zix c))) (fun M h => ?_) (fun M h h0 => ?_))
      · unfold F_X11_century
        rw [c1 M h, zbV_V, show (100 : Int32) = nI 100 from rfl, px_amount_in hm (by omega), zbV_V, gr_0_5, gr_0_4]
        obtain ⟨M1, e1, hW1, o1⟩ := cp_w (d := 43) (c := 40) ⟨gr_43_1, gr_43_2⟩ ⟨gr_40_1, gr_40_2⟩ (by omega) (qx_W h)
        rw [e1, zbV_V]
        have hS1 : zSx (tS q) M1 := zSx_off (qx_S h) (fun i hi => o1 i (fun hz => by
          simp only [List.mem_cons, List.mem_nil_iff, or_false] at hi hz
          omega))
        have hL1 : zLx (tL q) M1 := zLx_off (qx_L h) (o1 9 (by decide)) (o1 11 (by decide))
        obtain ⟨M2, e2, hW2, o2⟩ := cy_x hS1 (qo_S ho) (qo_L ho) hL1 hW1 (qo_W ho) a hm
        rw [e2, zbI_I, zjo_eq]
        have o12 : zoff zXc M M2 := zoff_trans (zoff_mono o1 (by decide)) (zoff_mono o2 (by decide))
        rcases hc with rfl | ⟨i, hi, rfl⟩
        · rw [zit_t rfl, if_pos rfl]
          exact ⟨M2, rfl, o12⟩
        · rw [zit_f (nI_n1 (by omega)), if_neg (nI_n1 (by omega)), zin_k (k := i) (n := 8) (by omega) (by omega), zck_t, gr_43_1, zix_k (k := i) (by omega)]
          exact ⟨M2, by rw [show M2 44 i = nI ((zcy (tS q) (tL q) a (tW q) m).2.2.1 i) from hW2.1 i (by omega)], o12⟩
      · unfold F_X12_century
        rw [zst_eq, zup_same h0, zjo_eq, zjo_eq]
        dsimp only
        rw [c2 _ _ M h h0 (zit_f (by decide)), show F_X12_within (nI m) 0 100 M = zI 1 M from pm_within_in (lo := 0) (hi := 100) (by omega) hm (by omega), zbI_I, pm_right1 h0 (by decide), zbI_I, zit_f (by decide), gr_79_47, gr_79_48, cp_m zal102 zal103 (by omega) (by omega), zbV_V, zst_eq]
        obtain ⟨M1, hM1⟩ : ∃ M1, zup (zupA M 103 (fun i => if i < 73 then M 102 i else M 103 i)) 79 72 a = M1 := ⟨_, rfl⟩
        rw [hM1]
        have v72 : M1 79 72 = a := by rw [← hM1, zup_row, upd_eq]
        have v79 : ∀ z, z ≠ 72 → M1 79 z = M 79 z := fun z hz => by rw [← hM1, zup_row, upd_ne hz, zupA_ne (by omega)]
        have v1 : ∀ i, i ≠ 79 → i ≠ 103 → M1 i = M i := fun i h1 h2 => by rw [← hM1, zup_ne h1, zupA_ne h2]
        have hW1 : zWr (M1 103) 0 (tW q) := by
          rw [← hM1, zup_ne (by omega), zupA_eq]
          exact zWr_cg (fun i hi => if_pos hi) (qm_W h)
        have hS1 : zSm (tS q) M1 := zSm_off (qm_S h) (fun z hz => v79 z (fun e => by subst e; revert hz; decide)) (fun i hi => v1 i (fun e => by subst e; revert hi; decide) (fun e => by subst e; revert hi; decide))
        have hL1 : zLm (tL q) M1 := zLm_off (qm_L h) (v79 4 (by omega)) (v1 88 (by omega) (by omega))
        obtain ⟨M2, e2, hW2, g79, o2⟩ := cy_m hS1 (qo_S ho) (qo_L ho) hL1 hW1 (qo_W ho) v72 hm c (fun (y1 : Int32) (M14 : zM) => zjo (fun (w2 : Int32) (M15 : zM) => zI w2 M15) (fun (k4 : Int32 → zM → zO) => zit (c = (-1)) (k4 y1 M14) (zck (zin c 73) (k4 (M14 103 (zix c)) M14))))
        rw [e2, zjo_eq]
        have f79 : ∀ k, k ∈ zMf ∨ k = 0 → M2 79 k = M 79 k := fun k hk => by
          have : k ≠ 72 := fun e => by subst e; revert hk; decide
          rw [g79 k this, v79 k this]
        have o12 : zoff (79 :: zMs) M M2 := fun i hi => by
          have h1 : i ∉ [79, 103, 105, 106] := fun hz => hi (by
            simp only [List.mem_cons, List.mem_nil_iff, or_false] at hz
            rcases hz with rfl | rfl | rfl | rfl <;> decide)
          rw [o2 i h1, v1 i (fun e => h1 (by rw [e]; decide)) (fun e => h1 (by rw [e]; decide))]
        rcases hc with rfl | ⟨i, hi, rfl⟩
        · rw [zit_t rfl, if_pos rfl]
          exact ⟨M2, rfl, f79, o12⟩
        · rw [zit_f (nI_n1 (by omega)), if_neg (nI_n1 (by omega)), zin_k (k := i) (n := 73) (by omega) (by omega), zck_t, zix_k (k := i) (by omega)]
          exact ⟨M2, by rw [wr_n hW2 i (by omega)], f79, o12⟩
    · refine zop_rf hY 2 (Or.inr rfl) (by omega) (fun M h => ?_) (fun M h h0 => ⟨0, ?_⟩)
      · unfold F_X11_century
        rw [c1 M h, zbV_V, show F_X11_needAmount b 100 M = zE zIAE M from px_amount_out (m := nI 100) hb, zbV_E]
        rfl
      · unfold F_X12_century
        rw [zst_eq, zup_same h0, zjo_eq, zjo_eq]
        dsimp only
        rw [c2 _ _ M h h0 (zit_f (by decide)), show F_X12_within b 0 100 M = zI 0 M from pm_within_out (hi := nI 100) hb, zbI_I, pm_right0 h0 (by decide), zbI_I]
        rfl
  by_cases hc : c = -1
  · exact main (Or.inl hc)
  · rcases zci hn c with ⟨i, hi, e⟩ | ho'
    · exact main (Or.inr ⟨i, hi, e⟩)
    · refine zop_rf hY 1 (Or.inl rfl) (by omega) (fun M h => ?_) (fun M h h0 => ⟨0, ?_⟩)
      · unfold F_X11_century F_X11_needIsleOrNone
        rw [zjo_eq, zit_f hc, px_isle_out (sx_n (qx_S h)) ho', zbV_E, zbV_E]
        rfl
      · unfold F_X12_century
        rw [zst_eq, zup_same h0, zjo_eq, zjo_eq, zit_f hc, pm_one_out h0 (sm_n (qm_S h)) ho', zbI_I]
        rfl
