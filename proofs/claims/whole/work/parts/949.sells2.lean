/-! SALES, the reference's rows -/
section ZS2
variable {q : zSt}
theorem zgx_pk {S : zSD} {L : zLw} {w : zWD} (h8 : S 0 0 ≤ 8) : ∀ (l : List (Nat × Nat)) (p r : Nat → Nat), (∀ s ∈ l, s.1 < S 0 0 ∧ s.2 < S 0 0) → zpk (S 0 0) p → zgx S L w l p = some r → zpk (S 0 0) r
  | [], p, r, _, hp, e => by
    have e' : p = r := Option.some.inj e
    exact e' ▸ hp
  | s :: l, p, r, hs, hp, e => by
    rw [zgx] at e
    by_cases hz : zmw S L w s.1 s.2 (p s.1) (p s.2) = true
    · rw [if_pos hz] at e
      have h1 := hs s List.mem_cons_self
      exact zgx_pk h8 l _ r (fun t ht => hs t (List.mem_cons_of_mem _ ht)) (zpk_sw h8 hp h1.1 h1.2) e
    · rw [if_neg hz] at e
      exact (nomatch e)
theorem chg_m {M : zM} {a b : Nat} {p : Nat → Nat} {w : zWD} (ha : a < 8) (hb : b < 8) (hW : zWr (M 103) 0 (p, w.2.1, w.2.2)) : ∃ M', F_X12_changes 79 103 (nI a) (nI b) M = zV M' ∧ (zWr (M' 103) 0 (zsw a b p, w.2.1, w.2.2) ∧ zoff [103] M M') := by
  have hn := wr_n hW
  unfold F_X12_changes
  rw [zal103, zin_k (k := a) (n := 73) (by omega) (by omega), zck_t, zix_k (k := a) (by omega), zix_k (k := b) (by omega), hn a ha, hn b hb, zlt_eq, zin_k (k := b) (n := 73) (by omega) (by omega), zck_t, zck_t, zst_eq, zck_t, zst_eq]
  refine ⟨_, rfl, ⟨fun i hi => ?_, fun k hk => ?_, ?_⟩, zoff_up (zoff_up zoff_rfl (by decide)) (by decide)⟩
  · rw [zup_row, zup_row, Nat.zero_add]
    show upd (upd (M 103) a (nI (p b))) b (nI (p a)) i = nI (zsw a b p i)
    unfold zsw
    by_cases h2 : i = b
    · by_cases h1 : i = a
      · rw [if_pos h1, h2, upd_eq]
        rw [← h2, h1]
      · rw [if_neg h1, if_pos h2, h2, upd_eq]
    · rw [upd_ne h2]
      by_cases h1 : i = a
      · rw [if_pos h1, h1, upd_eq]
      · rw [upd_ne h1, if_neg h1, if_neg h2]
        exact hn i hi
  · rw [zup_row, zup_row, upd_ne (by omega), upd_ne (by omega)]
    exact hW.2.1 k hk
  · rw [zup_row, zup_row, upd_ne (by omega), upd_ne (by omega)]
    exact hW.2.2
/-- the couples done, while they may -/
theorem rn_m (x2 x3 : Int32) (K : Int32 → zM → zO) {M : zM} (h : zQm q M) {D : List (Nat × Nat)} {k : Nat} (hDk : D.length = k) (hD3 : k ≤ 3) (hD : ∀ s ∈ D, s.1 < tS q 0 0 ∧ s.2 < tS q 0 0 ∧ s.1 < s.2) (h118 : ∀ j, j < k → M 118 j = nI (10 * (D.getD j (0, 0)).1 + (D.getD j (0, 0)).2)) {p : Nat → Nat} (hp : zpk (tS q 0 0) p) (hW : zWr (M 103) 0 (p, (tW q).2.1, (tW q).2.2)) :
    ∃ M', F_X12_sells_L184 79 (nI k) x2 x3 K zN 1 0 M = K (if (zgx (tS q) (tL q) (tW q) D p).isSome = true then 1 else 0) M' ∧ ((∀ r, zgx (tS q) (tL q) (tW q) D p = some r → zWr (M' 103) 0 (r, (tW q).2.1, (tW q).2.2)) ∧ zoff [103, 105, 106] M M') := by
  subst hDk
  have ho := qm_o h
  have h8 := qo_n ho
  refine zfor (i := 0) (f := zN) (a := (true, p, M)) D.length (fun f c (u : Bool × (Nat → Nat) × zM) => F_X12_sells_L184 79 (nI D.length) x2 x3 K f (if u.1 = true then 1 else 0) (nI c) u.2.2) (fun c u => (u.1 = true → zpk (tS q 0 0) u.2.1 ∧ zgx (tS q) (tL q) (tW q) D p = zgx (tS q) (tL q) (tW q) (D.drop c) u.2.1 ∧ zWr (u.2.2 103) 0 (u.2.1, (tW q).2.1, (tW q).2.2)) ∧ (u.1 = false → zgx (tS q) (tL q) (tW q) D p = none) ∧ zoff [103, 105, 106] M u.2.2) (fun o => ∃ M', o = K (if (zgx (tS q) (tL q) (tW q) D p).isSome = true then 1 else 0) M' ∧ ((∀ r, zgx (tS q) (tL q) (tW q) D p = some r → zWr (M' 103) 0 (r, (tW q).2.1, (tW q).2.2)) ∧ zoff [103, 105, 106] M M')) ?_ ?_ (by omega) (zN_ge (by omega)) ⟨fun _ => ⟨hp, rfl, hW⟩, fun z => (nomatch z), zoff_rfl⟩
  · rintro f c ⟨u, p1, M1⟩ hc ⟨ht, hf, o1⟩
    dsimp only at ht hf o1 ⊢
    cases u with
    | false =>
      refine Or.inl ?_
      rw [if_neg (by decide), F_X12_sells_L184, zit_f (nI_ge hc (by omega)), zit_t rfl, hf rfl]
      exact ⟨M1, rfl, fun r hr => (nomatch hr), o1⟩
    | true =>
      obtain ⟨hp1, eg, hW1⟩ := ht rfl
      refine Or.inr ?_
      have hs := hD _ (getD_in (0, 0) D c hc)
      have e118 : M1 118 c = nI (10 * (D.getD c (0, 0)).1 + (D.getD c (0, 0)).2) := by rw [o1 118 (by decide)]; exact h118 c hc
      have edr : D.drop c = D.getD c (0, 0) :: D.drop (c + 1) := by
        rw [List.drop_eq_getElem_cons hc]
        congr 1
        simp [hc]
      obtain ⟨⟨a, b⟩, hab⟩ : ∃ s, D.getD c (0, 0) = s := ⟨_, rfl⟩
      rw [hab] at hs e118 edr
      dsimp only at hs e118
      obtain ⟨ec1, ec2⟩ := cdv a (by omega) b (by omega)
      have h1 : zQm q M1 := zqm_scr h o1 (by decide)
      obtain ⟨M2, e2, o2⟩ := lt_m (Or.inr rfl) (qm_S h1) (qo_S ho) (qo_L ho) (qm_L h1) hW1 (a := a) (b := b) (by omega) (by omega) (hp1.2 a hs.1) (hp1.2 b hs.2.1)
      have e118' : M2 118 c = nI (10 * a + b) := by rw [o2 118 (by decide)]; exact e118
      obtain ⟨M3, e3, hW3, o3⟩ := chg_m (M := M2) (a := a) (b := b) (p := p1) (w := tW q) (by omega) (by omega) (by rw [o2 103 (by decide)]; exact hW1)
      have o13 : zoff [103, 105, 106] M M3 := zoff_trans o1 (zoff_trans (zoff_mono o2 (by decide)) (zoff_mono o3 (by decide)))
      have ez : zmay (tS q) (tL q) (p1, (tW q).2.1, (tW q).2.2) a b = zmw (tS q) (tL q) (tW q) a b (p1 a) (p1 b) := rfl
      rw [ez] at e2
      refine ⟨(zmw (tS q) (tL q) (tW q) a b (p1 a) (p1 b), zsw a b p1, M3), ?_, fun hz => ⟨zpk_sw h8 hp1 hs.1 hs.2.1, ?_, hW3⟩, fun hz => ?_, o13⟩
      · rw [if_pos rfl, F_X12_sells_L184, zit_f (nI_ge hc (by omega)), zit_f (by decide), zin_k (k := c) (n := 3) (by omega) (by omega), zck_t, show (!decide (10 = 0)) = true from by decide, zck_t, zck_t, zck_t, gr_79_48, gr_79_67, zix_k (k := c) (by omega), e118, ec2, ec1, e2, zbI_I, zck_t, zck_t, zck_t, zck_t, e118', ec2, ec1, e3, zbV_V, nI_1]
      · rw [eg, edr, zgx, if_pos hz]
      · dsimp only at hz
        rw [eg, edr, zgx, if_neg (by rw [hz]; decide)]
  · rintro f ⟨u, p1, M1⟩ ⟨ht, hf, o1⟩
    dsimp only at ht hf o1 ⊢
    rw [F_X12_sells_L184, zit_t (nI_le (Nat.le_refl _) (by omega))]
    cases u with
    | false =>
      rw [hf rfl]
      exact ⟨M1, rfl, fun r hr => (nomatch hr), o1⟩
    | true =>
      obtain ⟨hp1, eg, hW1⟩ := ht rfl
      have e : zgx (tS q) (tL q) (tW q) D p = some p1 := by
        rw [eg, List.drop_length]
        rfl
      rw [e]
      exact ⟨M1, rfl, fun r hr => by rw [← Option.some.inj hr]; exact hW1, o1⟩
/-- what was seen -/
theorem sn_m (x1 x2 x3 : Int32) (K : Int32 → zM → zO) {M : zM} (h : zQm q M) {p : Nat → Nat} (hp : zpk (tS q 0 0) p) (hn : ∀ i, i < 8 → M 103 i = nI (p i)) : F_X12_sells_L262 79 x1 x2 x3 K zN 1 0 M = K (if zfit (tV q) p = true then 1 else 0) M := by
  have ho := qm_o h
  have h8 := qo_n ho
  obtain ⟨-, -, -, h64, hV⟩ := qm_H h
  have hv := ho.2.2.1.2.2.2
  have hv8 := hv.1
  refine zfor (i := 0) (f := zN) (a := true) (tV q).length (fun f c (u : Bool) => F_X12_sells_L262 79 x1 x2 x3 K f (if u = true then 1 else 0) (nI c) M) (fun c u => (u = true → ∀ j, j < c → p ((tV q).getD j (0, 0)).1 = ((tV q).getD j (0, 0)).2) ∧ (u = false → ¬ zfit (tV q) p = true)) (fun o => o = K (if zfit (tV q) p = true then 1 else 0) M) ?_ ?_ (by omega) (zN_ge (by omega)) ⟨fun _ j hj => absurd hj (Nat.not_lt_zero _), fun z => absurd z (by decide)⟩
  · rintro f c u hc ⟨ht, hf⟩
    cases u with
    | false =>
      refine Or.inl ?_
      show F_X12_sells_L262 79 x1 x2 x3 K (f + 1) 0 (nI c) M = _
      rw [F_X12_sells_L262, h64, zit_f (nI_ge hc (by omega)), zit_t rfl, if_neg (hf rfl)]
    | true =>
      refine Or.inr ?_
      obtain ⟨e1, e2⟩ := hV c hc
      obtain ⟨g1, g2⟩ := hv.2 _ (getD_in (0, 0) (tV q) c hc)
      have hp1 := hp.1 ((tV q).getD c (0, 0)).1 (by omega)
      show ∃ u', F_X12_sells_L262 79 x1 x2 x3 K (f + 1) 1 (nI c) M = F_X12_sells_L262 79 x1 x2 x3 K f (if u' = true then 1 else 0) (nI (c + 1)) M ∧ _
      rw [F_X12_sells_L262, h64, zit_f (nI_ge hc (by omega)), zit_f (by decide), show (2 : Int32) = nI 2 from rfl, pk_mul, nI_1, zin_k (k := 2 * c) (n := 16) (by omega) (by omega), zck_t, gr_79_65, zix_k (k := 2 * c) (by omega), e1, zin_k (k := ((tV q).getD c (0, 0)).1) (n := 73) (by omega) (by omega), zck_t, zin_k (k := 2 * c + 1) (n := 16) (by omega) (by omega), zck_t, zjo_eq, gr_79_48, zix_k (k := ((tV q).getD c (0, 0)).1) (by omega), zix_k (k := 2 * c + 1) (by omega), e2, hn _ (by omega), nI_1]
      by_cases z : p ((tV q).getD c (0, 0)).1 = ((tV q).getD c (0, 0)).2
      · rw [zit_t (by rw [z])]
        refine ⟨true, rfl, fun _ j hj => ?_, fun y => absurd y (by decide)⟩
        by_cases hjc : j = c
        · rw [hjc]; exact z
        · exact ht rfl j (by omega)
      · rw [zit_f (fun e => z ((nI_eq (by omega) (by omega)).mp e))]
        exact ⟨false, rfl, fun y => absurd y (by decide), fun _ y => z ((zfit_iff p (tV q)).mp y c hc)⟩
  · rintro f u ⟨ht, hf⟩
    show F_X12_sells_L262 79 x1 x2 x3 K (f + 1) _ _ M = _
    rw [F_X12_sells_L262, h64, zit_t (nI_le (Nat.le_refl _) (by omega))]
    cases u with
    | false => rw [if_neg (hf rfl)]; rfl
    | true => rw [if_pos ((zfit_iff p (tV q)).mpr (ht rfl))]; rfl
theorem sn_m0 (x1 x2 x3 : Int32) (K : Int32 → zM → zO) {M : zM} : F_X12_sells_L262 79 x1 x2 x3 K zN 0 0 M = K 0 M := by
  obtain ⟨m, hm⟩ : ∃ m, zN = m + 1 := ⟨999999, rfl⟩
  rw [hm, F_X12_sells_L262]
  by_cases z : M 79 64 ≤ 0
  · rw [zit_t z]
  · rw [zit_f z, zit_t rfl]
/-- what is found so far -/
def zMr (S : zSD) (k : Nat) (R : List (List Nat × (Nat → Nat))) (M : zM) : Prop := M 79 71 = nI R.length ∧ (∀ z l, R = z :: l → ∀ j, j < k → M 119 j = nI (z.1.getD j 0)) ∧ ∀ i j, i < S 0 0 → j < S 0 0 → M 120 (8 * i + j) = nI (R.countP (fun z => z.2 i == j))
theorem ty_m (x1 x2 x3 : Int32) (K : zM → zO) {S : zSD} (h8 : S 0 0 ≤ 8) {M : zM} (h1 : M 79 1 = nI (S 0 0)) {p : Nat → Nat} (hp : zpk (S 0 0) p) (hn : ∀ i, i < 8 → M 103 i = nI (p i)) (s : List Nat) {R : List (List Nat × (Nat → Nat))} (hc : ∀ i j, i < S 0 0 → j < S 0 0 → M 120 (8 * i + j) = nI (R.countP (fun z => z.2 i == j))) :
    ∃ M', F_X12_sells_L357 79 x1 x2 x3 K zN 0 M = K M' ∧ ((∀ i j, i < S 0 0 → j < S 0 0 → M' 120 (8 * i + j) = nI ((R ++ [(s, p)]).countP (fun z => z.2 i == j))) ∧ zoff [120] M M') := by
  refine zfor (i := 0) (f := zN) (a := M) (S 0 0) (fun f c (M3 : zM) => F_X12_sells_L357 79 x1 x2 x3 K f (nI c) M3) (fun c M3 => (∀ i j, i < S 0 0 → j < S 0 0 → M3 120 (8 * i + j) = nI (if i < c then (R ++ [(s, p)]).countP (fun z => z.2 i == j) else R.countP (fun z => z.2 i == j))) ∧ zoff [120] M M3) (fun o => ∃ M', o = K M' ∧ ((∀ i j, i < S 0 0 → j < S 0 0 → M' 120 (8 * i + j) = nI ((R ++ [(s, p)]).countP (fun z => z.2 i == j))) ∧ zoff [120] M M')) ?_ ?_ (by omega) (zN_ge (by omega)) ⟨fun i j hi hj => ?_, zoff_rfl⟩
  · rintro f c M3 hc' ⟨g1, o3⟩
    refine Or.inr ?_
    have hpc := hp.2 c hc'
    have e103 : M3 103 c = nI (p c) := by rw [o3 103 (by decide)]; exact hn c (by omega)
    have e1 : M3 79 1 = nI (S 0 0) := by rw [o3 79 (by decide)]; exact h1
    show ∃ M4, F_X12_sells_L357 79 x1 x2 x3 K (f + 1) (nI c) M3 = F_X12_sells_L357 79 x1 x2 x3 K f (nI (c + 1)) M4 ∧ _
    rw [F_X12_sells_L357, e1, zit_f (nI_ge hc' (by omega)), zin_k (k := c) (n := 73) (by omega) (by omega), zck_t, gr_79_48, gr_79_69, zix_k (k := c) (by omega), e103, show (8 : Int32) = nI 8 from rfl, pk_mul, nI_add, zin_k (k := 8 * c + p c) (n := 64) (by omega) (by omega), zck_t, zck_t, zst_eq, zix_k (k := 8 * c + p c) (by omega), nI_1]
    refine ⟨_, rfl, fun i j hi hj => ?_, zoff_up o3 (by decide)⟩
    rw [zup_row]
    have gc := g1 c (p c) hc' hpc
    rw [if_neg (Nat.lt_irrefl _)] at gc
    by_cases e : 8 * i + j = 8 * c + p c
    · obtain ⟨rfl, rfl⟩ : i = c ∧ j = p c := by omega
      rw [upd_eq, gc, nI_1, if_pos (by omega), List.countP_append]
      congr 2
      simp
    · rw [upd_ne e, g1 i j hi hj]
      congr 1
      by_cases hic : i < c
      · rw [if_pos hic, if_pos (by omega)]
      · rw [if_neg hic]
        by_cases hic2 : i < c + 1
        · obtain rfl : i = c := by omega
          rw [if_pos hic2, List.countP_append]
          have : (p i == j) = false := by
            rw [beq_eq_false_iff_ne]
            omega
          simp [this]
        · rw [if_neg hic2]
  · rintro f M3 ⟨g1, o3⟩
    have e1 : M3 79 1 = nI (S 0 0) := by rw [o3 79 (by decide)]; exact h1
    show ∃ M', F_X12_sells_L357 79 x1 x2 x3 K (f + 1) _ M3 = _ ∧ _
    rw [F_X12_sells_L357, e1, zit_t (nI_le (Nat.le_refl _) (by omega))]
    exact ⟨M3, rfl, fun i j hi hj => by rw [g1 i j hi hj, if_pos hi], o3⟩
  · rw [if_neg (Nat.not_lt_zero _)]
    exact hc i j hi hj
end ZS2
