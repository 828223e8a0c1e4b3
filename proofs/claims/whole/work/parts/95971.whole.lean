/-! parentheses, nots, the whole expression -/
section ZWH
variable {B : Nat → Nat} {n : Nat}
theorem isl_m {W : List Nat} {M : zM} (K : Int32 → zM → zO) : ∀ (Q : List Nat) (f : Nat), Q.length + 1 < f → (W ++ Q.reverse).length ≤ 701 → zrow (M 100) (W ++ Q.reverse) → (∀ a ∈ Q, a < 14) → (W = [] → F_X12_isOpened_L7 79 K f (nI (W ++ Q.reverse).length - 1) M = K (-1) M) ∧ (∀ V, W = V ++ [14] → F_X12_isOpened_L7 79 K f (nI (W ++ Q.reverse).length - 1) M = K (nI V.length) M)
  | [], f, hf, hq, hr, _ => by
    obtain ⟨f, rfl⟩ : ∃ g, f = g + 1 := ⟨f - 1, by omega⟩
    rw [List.reverse_nil, List.append_nil] at hr hq ⊢
    refine ⟨fun h => ?_, fun V h => ?_⟩
    · rw [h, F_X12_isOpened_L7, zit_t (by decide)]
      rfl
    · have hl' : W.length = V.length + 1 := by rw [h, List.length_append, List.length_singleton]
      have hv : M 100 V.length = nI 14 := by
        rw [h] at hr
        exact zrow_mid (b := []) hr
      rw [hl', show nI (V.length + 1) - 1 = nI V.length from s_sub (a := V.length + 1) (b := 1) (by omega), F_X12_isOpened_L7, zit_f (show ¬ nI V.length < (0 : Int32) from (nI_nlt (Nat.zero_le _) (by omega) : ¬ nI V.length < nI 0)), zin_k (k := V.length) (n := 950) (by omega) (by omega), zck_t, gr_79_45, zix_k (k := V.length) (by omega), hv, opn_m (by omega), zbI_I, if_neg (by omega), zit_f (by decide)]
  | a :: Q, f, hf, hq, hr, ha => by
    obtain ⟨f, rfl⟩ : ∃ g, f = g + 1 := ⟨f - 1, by omega⟩
    simp only [List.length_cons] at hf
    have e : W ++ (a :: Q).reverse = (W ++ Q.reverse) ++ [a] := by simp
    rw [e] at hr hq ⊢
    rw [List.length_append, List.length_singleton] at hq ⊢
    have hv : M 100 (W ++ Q.reverse).length = nI a := zrow_mid (b := []) hr
    have h14 := ha a (by simp)
    obtain ⟨i1, i2⟩ := isl_m K Q f (by omega) (by omega) (zrow_pre hr) (fun x hx => ha x (List.mem_cons_of_mem _ hx))
    have key : F_X12_isOpened_L7 79 K (f + 1) (nI ((W ++ Q.reverse).length + 1) - 1) M = F_X12_isOpened_L7 79 K f (nI (W ++ Q.reverse).length - 1) M := by
      obtain ⟨L, hL'⟩ : ∃ L, (W ++ Q.reverse).length = L := ⟨_, rfl⟩
      rw [hL'] at hv hq ⊢
      rw [show nI (L + 1) - 1 = nI L from s_sub (a := L + 1) (b := 1) (by omega), F_X12_isOpened_L7, zit_f (show ¬ nI L < (0 : Int32) from (nI_nlt (Nat.zero_le _) (by omega) : ¬ nI L < nI 0)), zin_k (k := L) (n := 950) (by omega) (by omega), zck_t, gr_79_45, zix_k (k := L) (by omega), hv, opn_m (by omega), zbI_I, if_pos h14, zit_t rfl, Int32.sub_eq_add_neg (nI L) 1]
    rw [key]
    exact ⟨i1, i2⟩
theorem iso_m {c : List (Nat × Nat)} {W P : List Nat} {D bd k : Nat} {M : zM} (h : zYs c W P D bd M) (hp : zpd k P) : (W = [] → F_X12_isOpened 79 M = zI 0 M) ∧ (∀ V, W = V ++ [14] → F_X12_isOpened 79 M = zI 1 M) := by
  obtain ⟨-, b1, b2, b3, b4, -⟩ := h
  have hpl : P.length ≤ 701 := by rw [List.length_append] at b3; omega
  obtain ⟨i1, i2⟩ := isl_m (W := W) (M := M) (fun (y1 : Int32) (M2 : zM) => zjo (fun (w1 : Int32) (M3 : zM) => zck (zbo w1) (zI w1 M3)) (fun (k1 : Int32 → zM → zO) => zit (y1 < 0) (k1 0 M2) (k1 1 M2))) P.reverse zN (zN_ge (by rw [List.length_reverse]; omega)) (by rw [List.reverse_reverse]; omega) (by rw [List.reverse_reverse]; exact b2) (fun a ha => by have := (hp a (List.mem_reverse.mp ha)).2.1; omega)
  rw [List.reverse_reverse] at i1 i2
  unfold F_X12_isOpened
  rw [zlt_eq, b1]
  refine ⟨fun h => ?_, fun V h => ?_⟩
  · rw [i1 h, zjo_eq, zit_t (by decide)]
    try dsimp only
    rw [zbo_0, zck_t]
  · have : V.length ≤ 701 := by
      rw [h] at b3
      simp only [List.length_append, List.length_singleton] at b3
      omega
    rw [i2 V h, zjo_eq, zit_f (show ¬ nI V.length < (0 : Int32) from (nI_nlt (Nat.zero_le _) (by omega) : ¬ nI V.length < nI 0))]
    try dsimp only
    rw [zbo_1, zck_t]
theorem cls_m (ht : zTxt B n) {s : zLs} {V P : List Nat} {D k : Nat} {M : zM} (h : zEg B n s (V ++ [14]) P (D + 1) M) (hp : zpd k P) (hk : tkk B n s.1.2 ≠ 256) : ∃ M', F_X12_closes 79 M = zV M' ∧ (zEg B n (zstp s.1, s.2) V [] D M' ∧ M' 101 = M 101 ∧ zEo M M') := by
  obtain ⟨h1, h2, h3, h4⟩ := id h
  obtain ⟨M1, e1, y1, q1, o1⟩ := drp_m (k := 0) (by omega) (Or.inr ⟨V, 14, rfl, by omega, Or.inl (by omega)⟩) (fun x hx => ⟨(hp x hx).1, (hp x hx).2.1, Nat.zero_le _⟩) h4
  obtain ⟨⟨o, a1, a2, a3, a4⟩, b1, b2, b3, b4, b5⟩ := y1
  rw [List.append_nil] at b1 b2 b3 a4
  rw [List.length_append, List.length_singleton] at b1 b3 a4
  unfold F_X12_closes
  rw [show F_X12_drops 79 0 M = zV M1 from e1, zbV_V, zst_eq, zst_eq, b1, show nI (V.length + 1) - 1 = nI V.length from s_sub (a := V.length + 1) (b := 1) (by omega), show zup M1 79 34 (nI V.length) 79 35 = nI (D + 1) from by rw [zup_row, upd_ne (by decide), b5]]
  have hD1 : nI (D + 1) - 1 = nI D := by
    rw [show (1 : Int32) = nI 1 from rfl, ← nI_add]
    simp [Int32.add_sub_cancel]
  rw [hD1]
  obtain ⟨M2, hM2⟩ : ∃ M2, zup (zup M1 79 34 (nI V.length)) 79 35 (nI D) = M2 := ⟨_, rfl⟩
  rw [hM2]
  have o2 : zEy M1 M2 := by
    rw [← hM2]
    exact ⟨fun k hk => by rw [zup_row, upd_ne (by omega), zup_row, upd_ne (by omega)], zoff_up (zoff_up zoff_rfl (by decide)) (by decide)⟩
  have y2 : zYs s.2 V [] D (s.1.2 + 1) M2 := by
    refine ⟨⟨o, ?_, ?_, a3, ?_⟩, ?_, ?_, ?_, by omega, ?_⟩
    · rw [← hM2, zup_row, upd_ne (by decide), zup_row, upd_ne (by decide), a1]
    · rw [← hM2, zup_ne (by decide), zup_ne (by decide)]
      exact a2
    · rw [List.append_nil]; omega
    · rw [← hM2, zup_row, upd_ne (by decide), zup_row, upd_eq, List.append_nil]
    · rw [← hM2, zup_ne (by decide), zup_ne (by decide), List.append_nil]
      exact zrow_pre b2
    · rw [List.append_nil]; omega
    · rw [← hM2, zup_row, upd_eq]
  obtain ⟨M3, e3, y3, q3, o3⟩ := gog_m ht (zEy_t (zEy_t (zEg_0 h) o1) o2) hk y2
  rw [e3, zbV_V]
  refine ⟨M3, rfl, by rw [zstp_0 h2]; exact y3, ?_, zEo_tr (zEy_o o1) (zEo_tr (zEy_o o2) o3)⟩
  rw [q3, ← hM2, zup_ne (by decide), zup_ne (by decide), q1]
/-- deeper -/
theorem dp_m {M : zM} {D : Nat} (h : M 79 35 = nI D) (hD : D < 6) : F_X12_deeper 79 M = zV (zup (zup M 79 35 (nI (D + 1))) 101 (D + 1) 0) := by
  unfold F_X12_deeper
  rw [h, zit_f (show ¬ (6 : Int32) ≤ nI D from (nI_ge (by omega) (by omega) : ¬ nI 6 ≤ nI D)), zst_eq, nI_1, show zup M 79 35 (nI (D + 1)) 79 35 = nI (D + 1) from by rw [zup_row, upd_eq], zin_k (k := D + 1) (n := 9) (by omega) (by omega), zbo_0, Bool.and_self, zck_t, zst_eq, gr_79_46, zix_k (k := D + 1) (by omega)]
theorem dpf_m (ht : zTxt B n) {s : zLs} {W : List Nat} {M : zM} (h : zEg B n s W [] 6 M) : ∃ M', F_X12_deeper 79 M = zV M' ∧ (zEf B n (if zbgn B n s.1.2 = true then 2 else 1, s.1.2) M' ∧ zEo M M') := by
  unfold F_X12_deeper
  rw [h.2.2.2.2.2.2.2.2, zit_t (by decide), zjo_eq, zjo_eq]
  have go : ∀ w : Nat, 1 ≤ w → w ≤ 5 → w = (if zbgn B n s.1.2 = true then 2 else 1) → ∃ M', zbV (F_X12_wrong 79 (nI w) M) (fun M4 => zV M4) = zV M' ∧ (zEf B n (if zbgn B n s.1.2 = true then 2 else 1, s.1.2) M' ∧ zEo M M') := fun w w1 w5 hw => by
    obtain ⟨M1, e1, x1, q1, o1⟩ := wrg_m h w1 w5
    rw [e1, zbV_V]
    rw [hw] at x1
    exact ⟨M1, rfl, x1, o1⟩
  by_cases c1 : tkk B n s.1.2 = 258
  · rw [zit_t ((s2_m h.1).mpr c1)]
    exact go 2 (by omega) (by omega) (by rw [if_pos (show zbgn B n s.1.2 = true from decide_eq_true (Or.inl c1))])
  · rw [zit_f (fun z => c1 ((s2_m h.1).mp z))]
    by_cases c2 : tkk B n s.1.2 = 257
    · rw [zit_t ((s1_m h.1).mpr c2)]
      exact go 2 (by omega) (by omega) (by rw [if_pos (show zbgn B n s.1.2 = true from decide_eq_true (Or.inr (Or.inl c2)))])
    · rw [zit_f (fun z => c2 ((s1_m h.1).mp z)), show F_X12_isSign 79 40 M = _ from isg_m ht h.1 (c := 40) (by decide), zbI_I]
      by_cases c3 : tkk B n s.1.2 = 40
      · rw [if_pos c3, zit_f (by decide)]
        exact go 2 (by omega) (by omega) (by rw [if_pos (show zbgn B n s.1.2 = true from decide_eq_true (Or.inr (Or.inr c3)))])
      · rw [if_neg c3, zit_t rfl]
        exact go 1 (by omega) (by omega) (by
          have : zbgn B n s.1.2 = false := decide_eq_false (by omega)
          rw [this]
          rfl)
theorem an40_m (ht : zTxt B n) {s : zLs} {W : List Nat} {D : Nat} {M : zM} (h : zEg B n s W [] D M) (c : tkk B n s.1.2 = 40) (g : Nat) (b : Int32) : zAN g b M = zbV (F_X12_waitsFor 79 14 M) (fun M14 => zbV (F_X12_goes 79 M14) (fun M15 => zbV (F_X12_deeper 79 M15) (fun M16 => zOL g 1 M16))) := by
  unfold zAN
  rw [gd_m h.1, zbI_I, if_pos h.2.1, zjo_eq, zjo_eq, zit_f (by decide), show F_X12_isSign 79 40 M = _ from isg_m ht h.1 (c := 40) (by decide), zbI_I, if_pos c, zit_f (by decide)]
  dsimp only
  rw [zjo_eq, zit_f (by decide)]
  rfl
theorem an_e (ht : zTxt B n) {s : zLs} {W : List Nat} {D : Nat} {M : zM} (h : zEg B n s W [] D M) (c : tkk B n s.1.2 ≠ 40) (g : Nat) (b : Int32) : zAN (g + 1) b M = zKP M := by
  unfold zAN
  rw [gd_m h.1, zbI_I, if_pos h.2.1, zjo_eq, zjo_eq, zit_f (by decide), show F_X12_isSign 79 40 M = _ from isg_m ht h.1 (c := 40) (by decide), zbI_I, if_neg c, zit_t rfl]
  dsimp only
  rw [zjo_eq, zit_t rfl]
  dsimp only
  rw [F_X12_operand_L4, zit_t rfl]
/-- what ends a loop: no operator can go on -/
def zend (B : Nat → Nat) (n : Nat) (p : Nat × Nat) : Prop := zoP B n p = none ∧ zoS B n p = none ∧ zoA B n p = none ∧ zoO B n p = none
theorem zend_is {p : Nat × Nat} (h : zend B n p) (hp : p.1 = 0) : tkk B n p.2 ≠ 42 ∧ tkk B n p.2 ≠ 47 ∧ tkk B n p.2 ≠ 43 ∧ tkk B n p.2 ≠ 45 ∧ tkw B n p.2 ≠ 14 ∧ tkw B n p.2 ≠ 15 := by
  obtain ⟨h1, h2, h3, h4⟩ := h
  unfold zoP at h1
  unfold zoS at h2
  unfold zoA at h3
  unfold zoO at h4
  rw [zkn_0 hp] at h1 h2
  rw [zwd_0 hp] at h3 h4
  have a1 : tkk B n p.2 ≠ 42 := fun z => by rw [if_pos z] at h1; cases h1
  have a2 : tkk B n p.2 ≠ 43 := fun z => by rw [if_pos z] at h2; cases h2
  exact ⟨a1, (fun z => by rw [if_neg a1, if_pos z] at h1; cases h1), a2, (fun z => by rw [if_neg a2, if_pos z] at h2; cases h2), (fun z => by rw [if_pos z] at h3; cases h3), (fun z => by rw [if_pos z] at h4; cases h4)⟩
theorem mlx_m (ht : zTxt B n) {s : zLs} {W P : List Nat} {D : Nat} (hD : D < 9) {M : zM} (h : zEg B n s W P D M) (he : zend B n s.1) (hT : zoT B n s.1 = none ∨ M 101 D = 1) (f : Nat) : zML (f + 2) M = if tkk B n s.1.2 = 41 then zbI (F_X12_isOpened 79 M) (fun r12 M24 => zit (r12 = 0) (F_X12_expression_L29 79 zKX (f + 1) 0 M24) (zbV (F_X12_closes 79 M24) (fun M25 => zML (f + 1) M25))) else zKX M := by
  obtain ⟨c1, c2, c3, c4, c5, c6⟩ := zend_is he h.2.1
  have h0 := zEg_0 h
  rw [ml_B ht h0 c5 c6 hD h.2.2.2.2.2.2.2.2 (by
    rcases hT with z | z
    · refine Or.inl ?_
      unfold zoT at z
      rw [zkn_0 h.2.1] at z
      have a1 : tkk B n s.1.2 ≠ 60 := fun y => by rw [if_pos y] at z; cases z
      exact ⟨a1, fun y => by rw [if_neg a1, if_pos y] at z; cases z⟩
    · exact Or.inr (by rw [z]; decide)), bx_E ht h0 c3 c4 c1 c2, ml_0]
/-- a PART -/
theorem lvp_m (ht : zTxt B n) {E : zLs → zLs} {D : Nat} (hD1 : 1 ≤ D) (hD6 : D ≤ 6) (hE : D < 6 → zLN B n E 1 (D + 1) ∧ ∀ s, zend B n (E s).1) (hF : D = 6 → E = zex B n 0) : zLS B n (zpart B n E) 7 D := fun s W g f b M h hW hg hf' => by
  obtain ⟨h1, h2, h3, h4⟩ := id h
  by_cases c40 : tkk B n s.1.2 = 40
  · have hz : zpart B n E s = (ztsg B n 41 (E (zstp s.1, s.2)).1, (E (zstp s.1, s.2)).2) := by
      unfold zpart
      rw [if_neg (by omega), if_pos c40]
    obtain ⟨M1, e1, y1, q1, o1⟩ := wfy_m (a := 14) h4 h3
    obtain ⟨M2, e2, y2, q2, o2⟩ := gog_m ht (zEy_t (zEg_0 h) o1) (by omega) y1
    have o12 : zEo M M2 := zEo_tr (zEy_o o1) o2
    rw [an40_m ht h c40, show F_X12_waitsFor 79 14 M = zV M1 from e1, zbV_V, e2, zbV_V, hz]
    have es : ((zstp s.1, s.2) : zLs) = ((0, s.1.2 + 1), s.2) := by rw [zstp_0 h2]
    rw [es]
    by_cases hD : D < 6
    · obtain ⟨hN, hx⟩ := hE hD
      rw [dp_m y2.2.2.2.2.2.2.2.2 hD, zbV_V]
      obtain ⟨M3, hM3⟩ : ∃ M3, zup (zup M2 79 35 (nI (D + 1))) 101 (D + 1) 0 = M3 := ⟨_, rfl⟩
      rw [hM3]
      have o3 : zEy M2 M3 := by
        rw [← hM3]
        exact ⟨fun k hk => by rw [zup_ne (by decide), zup_row, upd_ne (by omega)], zoff_up (zoff_up zoff_rfl (by decide)) (by decide)⟩
      have q3 : ∀ d, d ≤ D → M3 101 d = M 101 d := fun d hd => by rw [← hM3, zup_row, upd_ne (by omega), zup_ne (by decide), q2, q1]
      have y3 : zEg B n ((0, s.1.2 + 1), s.2) (W ++ [14]) [] (D + 1) M3 := by
        obtain ⟨z1, z2, z3, ⟨z4, z5, z6, z7, z8, z9⟩⟩ := y2
        refine ⟨zEy_t z1 o3, z2, z3, ⟨?_, ?_, ?_, z7, z8, ?_⟩⟩
        · rw [← hM3, zup_ne (by decide), zup_row, upd_ne (by decide), zup_ne (by decide), zup_ne (by decide)]
          exact z4
        · rw [← hM3, zup_ne (by decide), zup_row, upd_ne (by decide)]
          exact z5
        · rw [← hM3, zup_ne (by decide), zup_ne (by decide)]
          exact z6
        · rw [← hM3, zup_ne (by decide), zup_row, upd_eq]
      obtain ⟨g1, g2⟩ := hN ((0, s.1.2 + 1), s.2) (W ++ [14]) g f M3 y3 (Or.inr ⟨W, 14, rfl, by omega, Or.inl (by omega)⟩) (by rw [← hM3, zup_row, upd_eq]) (by dsimp only; omega) (by dsimp only; omega)
      have o13 := zEo_tr o12 (zEy_o o3)
      obtain ⟨r, hr⟩ : ∃ r, E ((0, s.1.2 + 1), s.2) = r := ⟨_, rfl⟩
      have hxr := hx ((0, s.1.2 + 1), s.2)
      rw [hr] at g1 g2 hxr ⊢
      by_cases c : r.1.1 = 0
      · obtain ⟨f', P, M4, a1, a2, a3, a4, ⟨a5, a5'⟩, a6⟩ := g2 c
        have h700 := a3.2.2.1
        obtain ⟨f'', rfl⟩ : ∃ g, f' = g + 2 := ⟨f' - 2, by omega⟩
        have o14 := zEo_tr o13 a6
        rw [a2, mlx_m ht (by omega) a3 hxr a5']
        unfold ztsg
        rw [zkn_0 c]
        by_cases c41 : tkk B n r.1.2 = 41
        · obtain ⟨M5, e5, y5, q5, o5⟩ := cls_m ht a3 a4 (by omega)
          rw [if_pos c41, if_pos c41, (iso_m a3.2.2.2 a4).2 W rfl, zbI_I, zit_f (by decide), e5, zbV_V]
          refine ⟨fun z => absurd (by rw [zstp_0 c]) z, fun _ => ⟨f'' + 1, [], M5, ?_, rfl, y5, fun x hx => absurd hx (by simp), fun d hd => ?_, zEo_tr o14 o5⟩⟩
          · rw [zstp_0 c]
            dsimp only
            omega
          · rw [q5, a5 d (by omega), q3 d hd]
        · rw [if_neg c41, if_neg c41]
          have hzr : zrfs 1 r.1 = (1, r.1.2) := zrfs_0 c
          refine zOc_f (by rw [hzr]; simp) ?_
          rw [hzr]
          obtain ⟨M5, e5, x5, q5, o5⟩ := wrg_m a3 (w := 1) (by omega) (by omega)
          unfold zKX
          rw [gd_m a3.1, zbI_I, if_pos c, zjo_eq, zit_f (by decide), a3.2.2.2.2.2.2.2.2, zit_f (show ¬ nI (D + 1) ≤ (1 : Int32) from ?_)]
          · rw [show F_X12_wrong 79 1 M4 = zV M5 from e5, zbV_V]
            obtain ⟨M6, e6, x6, o6⟩ := kxf_m x5
            unfold zKX at e6
            rw [gd_m x5.1, zbI_I, if_neg x5.2.1, zjo_eq, zit_t rfl] at e6
            exact ⟨M6, e6, x6, zEo_tr o14 (zEo_tr o5 o6)⟩
          · exact (nI_ge (by omega) (by omega) : ¬ nI (D + 1) ≤ nI 1)
      · have hzr : ztsg B n 41 r.1 = r.1 := by
          unfold ztsg
          rw [zkn_f c, if_neg (by omega), zrfs_f c]
        rw [hzr]
        obtain ⟨M4, a1, a2, a3⟩ := g1 c
        exact zOc_f c ⟨M4, a1, a2, zEo_tr o13 a3⟩
    · have hD' : D = 6 := by omega
      subst hD'
      rw [hF rfl]
      obtain ⟨M3, e3, x3, o3⟩ := dpf_m ht y2
      dsimp only at x3
      have hzx : zex B n 0 ((0, s.1.2 + 1), s.2) = ((if zbgn B n (s.1.2 + 1) = true then 2 else 1, s.1.2 + 1), s.2) := by
        rw [zex, if_neg (by simp)]
        by_cases hb : zbgn B n (s.1.2 + 1) = true
        · rw [if_pos hb, if_pos hb, zrfs_0 rfl]
        · rw [if_neg hb, if_neg hb, zrfs_0 rfl]
      have hne := x3.2.1
      rw [hzx]
      have hzr : ztsg B n 41 (if zbgn B n (s.1.2 + 1) = true then 2 else 1, s.1.2 + 1) = (if zbgn B n (s.1.2 + 1) = true then 2 else 1, s.1.2 + 1) := by
        unfold ztsg
        rw [zkn_f hne, if_neg (by omega), zrfs_f hne]
      dsimp only
      rw [hzr, e3, zbV_V]
      obtain ⟨g, rfl⟩ : ∃ g', g = g' + 1 := ⟨g - 1, by omega⟩
      obtain ⟨f, rfl⟩ : ∃ g', f = g' + 1 := ⟨f - 1, by omega⟩
      rw [olf_m x3, zbV_V]
      obtain ⟨M4, e4, x4, o4⟩ := mlf_m x3 f
      exact zOc_f hne ⟨M4, e4, x4, zEo_tr o12 (zEo_tr o3 o4)⟩
  · obtain ⟨g, rfl⟩ : ∃ g', g = g' + 1 := ⟨g - 1, by omega⟩
    rw [an_e ht h c40]
    obtain ⟨M1, e1, i1, i2, q1, o1⟩ := plf_m ht (E := E) h c40
    unfold zKP
    rw [e1, zbV_V, zbV_V]
    by_cases c : (zpart B n E s).1.1 = 0
    · obtain ⟨j1, j2⟩ := i1 c
      exact ⟨fun z => absurd c z, fun _ => ⟨f, [], M1, by rw [j2]; omega, rfl, j1, fun x hx => absurd hx (by simp), fun d _ => by rw [q1], o1⟩⟩
    · obtain ⟨f, rfl⟩ : ∃ g', f = g' + 1 := ⟨f - 1, by omega⟩
      obtain ⟨M4, e4, x4, o4⟩ := mlf_m (i2 c) f
      exact zOc_f c ⟨M4, e4, x4, zEo_tr o1 o4⟩
end ZWH
