/-! SALES, the class's rows -/
theorem flat_len {α β : Type} {f : α → List β} {c : Nat} : ∀ l : List α, (∀ x, (f x).length ≤ c) → (l.flatMap f).length ≤ l.length * c
  | [], _ => by simp
  | a :: l, h => by
    have ih := flat_len l h
    have ha := h a
    rw [List.flatMap_cons, List.length_append, List.length_cons, Nat.add_mul]
    omega
theorem zpr_28 : ∀ n, n < 9 → (zpr n).length ≤ 28 := by decide +kernel
theorem zpo_28 : ∀ n, n < 9 → ∀ a, a < n → ∀ b, b < n → a < b → (zpo n a ++ zpi a b).length + 1 ≤ 28 := by decide +kernel
theorem zrw_len {S : zSD} {L : zLw} {w : zWD} (h8 : S 0 0 ≤ 8) : ∀ k p, (zrw S L w k p).length ≤ 28 ^ k
  | 0, _ => Nat.le_refl _
  | k + 1, p => by
    have h1 := zpr_28 (S 0 0) (by omega)
    have h2 := flat_len (c := 28 ^ k) (f := fun s : Nat × Nat => if zmw S L w s.1 s.2 (p s.1) (p s.2) = true then (zrw S L w k (zsw s.1 s.2 p)).map (fun z => ((10 * s.1 + s.2) :: z.1, z.2)) else []) (zpr (S 0 0)) (fun x => by
      show (if zmw S L w x.1 x.2 (p x.1) (p x.2) = true then (zrw S L w k (zsw x.1 x.2 p)).map (fun z => ((10 * x.1 + x.2) :: z.1, z.2)) else []).length ≤ 28 ^ k
      split
      · rw [List.length_map]
        exact zrw_len h8 k _
      · exact Nat.zero_le _)
    have h3 : (zpr (S 0 0)).length * 28 ^ k ≤ 28 * 28 ^ k := Nat.mul_le_mul_right _ h1
    show ((zpr (S 0 0)).flatMap _).length ≤ 28 ^ k * 28
    omega
def zGc (S : zSD) (L : zLw) (w : zWD) (v : List (Nat × Nat)) (M : zM) : Prop := zSx S M ∧ zLx L M ∧ zWx 40 w M ∧ zPk S L w (M 68) ∧ M 49 1 = nI v.length ∧ zVx (M 54) (M 55) v
def zGl : List Nat := [10, 12, 68, 73, 74, 75, 76, 77]
theorem zGc_off {S : zSD} {L : zLw} {w : zWD} {v : List (Nat × Nat)} {M M' : zM} (h : zGc S L w v M) (o : zoff zGl M M') (hp : zPk S L w (M' 68)) : zGc S L w v M' := by
  obtain ⟨h1, h2, h3, -, h5, h6⟩ := h
  refine ⟨zSx_off h1 (fun i hi => o i (fun hz => by
    simp only [zGl, List.mem_cons, List.mem_nil_iff, or_false] at hi hz
    omega)), zLx_off h2 (o 9 (by decide)) (o 11 (by decide)), ?_, hp, by rw [o 49 (by decide)]; exact h5, by rw [o 54 (by decide), o 55 (by decide)]; exact h6⟩
  unfold zWx
  rw [o 40 (by decide), o (40 + 1) (by decide), o (40 + 2) (by decide)]
  exact h3
theorem xc_x {M : zM} {a b : Nat} {p : Nat → Nat} (ha : a < 8) (hb : b < 8) (hn : ∀ i, i < 8 → M 74 i = nI (p i)) : ∃ M', F_X5_exchange 73 (nI a) (nI b) M = zV M' ∧ ((∀ i, i < 8 → M' 74 i = nI (zsw a b p i)) ∧ zoff [74] M M') := by
  unfold F_X5_exchange
  rw [gr_73_3, zin_k (k := a) (n := 8) ha (by omega), zck_t, zix_k (k := a) (by omega), hn a ha, zlt_eq, zin_k (k := b) (n := 8) hb (by omega), zck_t, zck_t, zst_eq, zix_k (k := b) (by omega), hn b hb, zck_t, zst_eq]
  refine ⟨_, rfl, fun i hi => ?_, zoff_up (zoff_up zoff_rfl (by decide)) (by decide)⟩
  rw [zup_row, zup_row]
  unfold zsw
  by_cases h2 : i = b
  · by_cases h1 : i = a
    · rw [if_pos h1, h2, upd_eq]
      rw [← h2, h1]
    · rw [if_neg h1, if_pos h2, h2, upd_eq]
  · rw [upd_ne h2]
    by_cases h1 : i = a
    · rw [if_pos h1, h1, upd_eq]
    · rw [upd_ne h1, if_neg h1, if_neg h2, hn i hi]
/-- what couples of a list give -/
def zgq (S : zSD) (L : zLw) (w : zWD) (r : Nat) (p : Nat → Nat) (c : Nat × Nat) : List (List Nat × (Nat → Nat)) := if zmw S L w c.1 c.2 (p c.1) (p c.2) = true then (zrw S L w r (zsw c.1 c.2 p)).map (fun z => ((10 * c.1 + c.2) :: z.1, z.2)) else []
def zRP (S : zSD) (L : zLw) (w : zWD) (v : List (Nat × Nat)) (r : Nat) (p : Nat → Nat) (s : List Nat) (R : List (List Nat × (Nat → Nat))) (P : List (Nat × Nat)) : List (List Nat × (Nat → Nat)) := R ++ ((P.flatMap (zgq S L w r p)).filter (fun z => zfit v z.2)).map (fun z => (s ++ z.1, z.2))
theorem zRP_add {S : zSD} {L : zLw} {w : zWD} {v : List (Nat × Nat)} {r : Nat} {p : Nat → Nat} {s : List Nat} {R : List (List Nat × (Nat → Nat))} {P : List (Nat × Nat)} (c : Nat × Nat) : zRP S L w v r p s R (P ++ [c]) = zRP S L w v r p s R P ++ ((zgq S L w r p c).filter (fun z => zfit v z.2)).map (fun z => (s ++ z.1, z.2)) := by
  unfold zRP
  rw [List.flatMap_append, List.filter_append, List.map_append, List.append_assoc]
  simp
theorem zgq_len {S : zSD} {L : zLw} {w : zWD} (h8 : S 0 0 ≤ 8) (r : Nat) (p : Nat → Nat) (c : Nat × Nat) : (zgq S L w r p c).length ≤ 28 ^ r := by
  unfold zgq
  split
  · rw [List.length_map]
    exact zrw_len h8 r _
  · exact Nat.zero_le _
theorem zRP_len {S : zSD} {L : zLw} {w : zWD} (h8 : S 0 0 ≤ 8) {v : List (Nat × Nat)} {r : Nat} {p : Nat → Nat} {s : List Nat} {R : List (List Nat × (Nat → Nat))} {P : List (Nat × Nat)} : (zRP S L w v r p s R P).length ≤ R.length + P.length * 28 ^ r := by
  unfold zRP
  rw [List.length_append, List.length_map]
  have h1 := flat_len (f := zgq S L w r p) (c := 28 ^ r) P (zgq_len h8 r p)
  have h2 := List.length_filter_le (fun z : List Nat × (Nat → Nat) => zfit v z.2) (P.flatMap (zgq S L w r p))
  omega
/-- what holds between rows -/
def zGi (S : zSD) (L : zLw) (w : zWD) (v : List (Nat × Nat)) (k done : Nat) (p : Nat → Nat) (M0 : zM) (R : List (List Nat × (Nat → Nat))) (M : zM) : Prop := zGc S L w v M ∧ (∀ i, i < 8 → M 74 i = nI (p i)) ∧ (∀ j, j < done → M 75 j = M0 75 j) ∧ (∀ z, z ≠ 7 → M 73 z = M0 73 z) ∧ zXr S k R M ∧ zoff zGl M0 M
section ZGR
variable {S : zSD} {L : zLw} {w : zWD} {v : List (Nat × Nat)} {k : Nat}
theorem gr_x (ho : zSok S) (hl : zLok L) (hv : zVok S v) (hk3 : k ≤ 3) : ∀ r done, done + r = k → ∀ n, r < n → ∀ (M : zM) (p : Nat → Nat) (s : List Nat) (R : List (List Nat × (Nat → Nat))), zGc S L w v M → zpk (S 0 0) p → (∀ i, i < 8 → M 74 i = nI (p i)) → s.length = done → (∀ j, j < done → M 75 j = nI (s.getD j 0)) → M 73 8 = nI k → zXr S k R M → R.length + 28 ^ r ≤ 22000 →
    ∃ M', Fr_X5_grow n 73 (nI done) M = zV M' ∧ zGi S L w v k done p M (R ++ ((zrw S L w r p).filter (fun z => zfit v z.2)).map (fun z => (s ++ z.1, z.2))) M' := by
  have h8 := so_n ho
  intro r
  induction r with
  | zero =>
    intro done hd n hn M p s R hG hp h74 hs h75 h738 hX hB
    obtain ⟨n, rfl⟩ : ∃ m, n = m + 1 := ⟨n - 1, by omega⟩
    obtain ⟨g1, g2, g3, g4, g5, g6⟩ := id hG
    show ∃ M', F_X5_grow (Fr_X5_grow n) 73 (nI done) M = zV M' ∧ _
    unfold F_X5_grow
    rw [zjo_eq, h738, zit_t (nI_le (by omega) (by omega))]
    obtain ⟨M1, e1, hX1, f73, o1⟩ := tk_x (sx_n g1) ho hv g5 g6 hp h74 hk3 (s := s) (fun j hj => h75 j (by omega)) (by omega) hX
    show ∃ M', zbV (F_X5_take 73 M) (fun M10 => zV M10) = zV M' ∧ _
    rw [e1, zbV_V]
    have o2 : zoff zGl M M1 := zoff_mono o1 (by decide)
    refine ⟨M1, rfl, zGc_off hG o2 (by rw [o1 68 (by decide)]; exact g4), fun i hi => by rw [o1 74 (by decide)]; exact h74 i hi, fun j _ => by rw [o1 75 (by decide)], f73, ?_, o2⟩
    have e : R ++ ((zrw S L w 0 p).filter (fun z => zfit v z.2)).map (fun z => (s ++ z.1, z.2)) = if zfit v p = true then R ++ [(s, p)] else R := by
      show R ++ (([([], p)] : List (List Nat × (Nat → Nat))).filter (fun z => zfit v z.2)).map (fun z => (s ++ z.1, z.2)) = _
      cases hz : zfit v p with
      | true => simp [hz]
      | false => simp [hz]
    rw [e]
    exact hX1
  | succ r ih =>
    intro done hd n hn M p s R hG hp h74 hs h75 h738 hX hB
    obtain ⟨n, rfl⟩ : ∃ m, n = m + 1 := ⟨n - 1, by omega⟩
    have hpow : 28 ^ (r + 1) = 28 * 28 ^ r := by rw [Nat.pow_succ, Nat.mul_comm]
    show ∃ M', F_X5_grow (Fr_X5_grow n) 73 (nI done) M = zV M' ∧ _
    unfold F_X5_grow
    rw [zjo_eq, h738, zit_f (nI_ge (by omega) (by omega)), zit_t (show nI done < (3 : Int32) from nI_lt (b := 3) (by omega) (by omega))]
    have h75' : ∀ M1 : zM, (∀ j, j < done → M1 75 j = M 75 j) → ∀ j, j < done → M1 75 j = nI (s.getD j 0) := fun M1 h j hj => by rw [h j hj, h75 j hj]
    -- one isle's couples
    have inner : ∀ a, a < S 0 0 → ∀ (K : zM → zO) (M1 : zM), zGi S L w v k done p M (zRP S L w v r p s R (zpo (S 0 0) a)) M1 → ∃ M2, F_X5_grow_L38 (Fr_X5_grow n) 73 (nI done) (nI a) K zN (nI (a + 1)) M1 = K M2 ∧ zGi S L w v k done p M (zRP S L w v r p s R (zpo (S 0 0) (a + 1))) M2 := by
      intro a ha K M1 hI1
      refine zfor (i := a + 1) (f := zN) (a := M1) (S 0 0) (fun f b (M2 : zM) => F_X5_grow_L38 (Fr_X5_grow n) 73 (nI done) (nI a) K f (nI b) M2) (fun b M2 => a < b ∧ zGi S L w v k done p M (zRP S L w v r p s R (zpo (S 0 0) a ++ zpi a b)) M2) (fun o => ∃ M2, o = K M2 ∧ zGi S L w v k done p M (zRP S L w v r p s R (zpo (S 0 0) (a + 1))) M2) ?_ ?_ (by omega) (zN_ge (by omega)) ⟨by omega, by rw [zpi_lo a (a + 1) (Nat.le_refl _), List.append_nil]; exact hI1⟩
      · rintro f b M2 hb ⟨hab, hI2⟩
        refine Or.inr ?_
        obtain ⟨c1, c2, c3, c4, c5, c6⟩ := id hI2
        obtain ⟨g1, g2, g3, g4, g5, g6⟩ := id c1
        have hpa := hp.2 a ha
        have hpb := hp.2 b hb
        have hlen := zRP_len h8 (L := L) (w := w) (v := v) (r := r) (p := p) (s := s) (R := R) (P := zpo (S 0 0) a ++ zpi a b)
        have h28 := zpo_28 (S 0 0) (by omega) a ha b hb hab
        have hmul : (zpo (S 0 0) a ++ zpi a b).length * 28 ^ r ≤ 27 * 28 ^ r := Nat.mul_le_mul_right _ (by omega)
        have eP : zpo (S 0 0) a ++ zpi a (b + 1) = (zpo (S 0 0) a ++ zpi a b) ++ [(a, b)] := by
          show zpo (S 0 0) a ++ (zpi a b ++ (if a < b then [(a, b)] else [])) = _
          rw [if_pos hab, List.append_assoc]
        show ∃ M3, F_X5_grow_L38 (Fr_X5_grow n) 73 (nI done) (nI a) K (f + 1) (nI b) M2 = F_X5_grow_L38 (Fr_X5_grow n) 73 (nI done) (nI a) K f (nI (b + 1)) M3 ∧ _
        rw [F_X5_grow_L38, gr_73_0, gr_40_0, sx_n g1, zit_f (nI_ge hb (by omega)), zin_k (k := a) (n := 8) (by omega) (by omega), zck_t, zin_k (k := b) (n := 8) (by omega) (by omega), zck_t, gr_73_1, gr_73_3, zix_k (k := a) (by omega), zix_k (k := b) (by omega), c2 a (by omega), c2 b (by omega)]
        obtain ⟨M3, e3, hc3, o3⟩ := al_x g1 ho hl g2 g3 g4 ha hb hpa hpb
        rw [e3, zbI_I, zjo_eq, nI_1]
        have o3' : zoff zGl M2 M3 := zoff_mono o3 (by decide)
        have hG3 : zGc S L w v M3 := zGc_off c1 o3' hc3
        have hX3 : zXr S k (zRP S L w v r p s R (zpo (S 0 0) a ++ zpi a b)) M3 := by
          unfold zXr
          rw [o3 73 (by decide), o3 76 (by decide), o3 77 (by decide)]
          exact c5
        cases hz : zmw S L w a b (p a) (p b) with
        | false =>
          rw [if_neg (by decide), zit_t (by decide)]
          refine ⟨M3, rfl, by omega, hG3, fun i hi => by rw [o3 74 (by decide)]; exact c2 i hi, fun j hj => by rw [o3 75 (by decide)]; exact c3 j hj, fun z hz' => by rw [o3 73 (by decide)]; exact c4 z hz', ?_, zoff_trans c6 o3'⟩
          have eg : zgq S L w r p (a, b) = [] := by
            unfold zgq
            rw [hz, if_neg (by decide)]
          rw [eP, zRP_add, eg]
          simpa using hX3
        | true =>
          rw [if_pos rfl, zit_f (by decide), zin_k (k := done) (n := 3) (by omega) (by omega), zck_t, zst_eq, gr_73_4, zix_k (k := done) (by omega), show (10 : Int32) = nI 10 from rfl, pk_mul, nI_add]
          obtain ⟨M4, hM4⟩ : ∃ M4, zup M3 75 done (nI (10 * a + b)) = M4 := ⟨_, rfl⟩
          rw [hM4]
          have o4 : zoff [75] M3 M4 := by rw [← hM4]; exact zoff_up zoff_rfl (by decide)
          obtain ⟨M5, e5, h745, o5⟩ := xc_x (M := M4) (a := a) (b := b) (p := p) (by omega) (by omega) (fun i hi => by rw [o4 74 (by decide), o3 74 (by decide)]; exact c2 i hi)
          rw [e5, zbV_V]
          have o35 : zoff zGl M3 M5 := zoff_trans (zoff_mono o4 (by decide)) (zoff_mono o5 (by decide))
          have hG5 : zGc S L w v M5 := zGc_off hG3 o35 (by rw [o5 68 (by decide), o4 68 (by decide)]; exact hc3)
          have h755 : ∀ j, j < done + 1 → M5 75 j = nI ((s ++ [10 * a + b]).getD j 0) := fun j hj => by
            rw [o5 75 (by decide), ← hM4, zup_row, getD_ap _ _ s j (by omega), hs]
            by_cases e : j = done
            · rw [e, upd_eq, if_pos rfl]
            · rw [upd_ne e, if_neg e, o3 75 (by decide)]
              exact h75' M2 c3 j (by omega)
          have h735 : ∀ z, M5 73 z = M2 73 z := fun z => by rw [o5 73 (by decide), o4 73 (by decide), o3 73 (by decide)]
          obtain ⟨M6, e6, d1, d2, d3, d4, d5, d6⟩ := ih (done + 1) (by omega) n (by omega) M5 (zsw a b p) (s ++ [10 * a + b]) (zRP S L w v r p s R (zpo (S 0 0) a ++ zpi a b)) hG5 (zpk_sw h8 hp ha hb) h745 (by rw [List.length_append, hs]; rfl) h755 (by rw [h735, c4 8 (by omega)]; exact h738) (by
            unfold zXr
            rw [o5 73 (by decide), o5 76 (by decide), o5 77 (by decide), o4 73 (by decide), o4 76 (by decide), o4 77 (by decide)]
            exact hX3) (by omega)
          rw [nI_1, e6, zbV_V]
          obtain ⟨M7, e7, h747, o7⟩ := xc_x (M := M6) (a := a) (b := b) (p := zsw a b p) (by omega) (by omega) d2
          rw [e7, zbV_V]
          rw [zsw_2 (by omega)] at h747
          have o67 : zoff zGl M6 M7 := zoff_mono o7 (by decide)
          refine ⟨M7, rfl, by omega, zGc_off d1 o67 (by rw [o7 68 (by decide)]; exact d1.2.2.2.1), h747, fun j hj => ?_, fun z hz' => ?_, ?_, zoff_trans c6 (zoff_trans o3' (zoff_trans o35 (zoff_trans d6 o67)))⟩
          · rw [o7 75 (by decide), d3 j (by omega), o5 75 (by decide), ← hM4, zup_row, upd_ne (by omega), o3 75 (by decide), c3 j hj]
          · rw [o7 73 (by decide), d4 z hz', h735, c4 z hz']
          · have eg : zgq S L w r p (a, b) = (zrw S L w r (zsw a b p)).map (fun z => ((10 * a + b) :: z.1, z.2)) := by
              unfold zgq
              rw [hz, if_pos rfl]
            have er : ((zgq S L w r p (a, b)).filter (fun z => zfit v z.2)).map (fun z => (s ++ z.1, z.2)) = ((zrw S L w r (zsw a b p)).filter (fun z => zfit v z.2)).map (fun z => ((s ++ [10 * a + b]) ++ z.1, z.2)) := by
              rw [eg, List.filter_map, List.map_map]
              congr 1
              funext z
              show (s ++ (10 * a + b) :: z.1, z.2) = ((s ++ [10 * a + b]) ++ z.1, z.2)
              rw [List.append_assoc]
              rfl
            rw [eP, zRP_add, er]
            unfold zXr
            rw [o7 73 (by decide), o7 76 (by decide), o7 77 (by decide)]
            exact d5
      · rintro f M2 ⟨-, hI2⟩
        show ∃ M3, F_X5_grow_L38 (Fr_X5_grow n) 73 (nI done) (nI a) K (f + 1) _ M2 = _ ∧ _
        rw [F_X5_grow_L38, gr_73_0, gr_40_0, sx_n hI2.1.1, zit_t (nI_le (Nat.le_refl _) (by omega))]
        exact ⟨M2, rfl, hI2⟩
    refine zfor (i := 0) (f := zN) (a := M) (S 0 0) (fun f a (M1 : zM) => F_X5_grow_L20 (Fr_X5_grow n) 73 (nI done) (fun (M8 : zM) => zV M8) f (nI a) M1) (fun a M1 => zGi S L w v k done p M (zRP S L w v r p s R (zpo (S 0 0) a)) M1) (fun o => ∃ M', o = zV M' ∧ zGi S L w v k done p M (R ++ ((zrw S L w (r + 1) p).filter (fun z => zfit v z.2)).map (fun z => (s ++ z.1, z.2))) M') ?_ ?_ (by omega) (zN_ge (by omega)) ⟨hG, h74, fun _ _ => rfl, fun _ _ => rfl, ?_, zoff_rfl⟩
    · rintro f a M1 ha hI1
      refine Or.inr ?_
      obtain ⟨M2, e2, hI2⟩ := inner a ha (fun (M7 : zM) => F_X5_grow_L20 (Fr_X5_grow n) 73 (nI done) (fun (M8 : zM) => zV M8) f (nI (a + 1)) M7) M1 hI1
      refine ⟨M2, ?_, hI2⟩
      show F_X5_grow_L20 (Fr_X5_grow n) 73 (nI done) _ (f + 1) (nI a) M1 = _
      rw [F_X5_grow_L20, gr_73_0, gr_40_0, sx_n hI1.1.1, zit_f (nI_ge ha (by omega)), zlt_eq, nI_1]
      exact e2
    · rintro f M1 hI1
      show ∃ M', F_X5_grow_L20 (Fr_X5_grow n) 73 (nI done) _ (f + 1) _ M1 = _ ∧ _
      rw [F_X5_grow_L20, gr_73_0, gr_40_0, sx_n hI1.1.1, zit_t (nI_le (Nat.le_refl _) (by omega))]
      refine ⟨M1, rfl, ?_⟩
      rw [← zpr_eq] at hI1
      exact hI1
    · show zXr S k (R ++ []) M
      rw [List.append_nil]
      exact hX
end ZGR
