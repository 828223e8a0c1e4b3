/-! nots, and the whole expression of the reference -/
section ZLW
variable {B : Nat → Nat} {n : Nat}
theorem nts_m (ht : zTxt B n) {D : Nat} (K : zM → zO) : ∀ (d c : Nat) (s : zLs) (W : List Nat) (M : zM) (f : Nat), zEg B n s (W ++ List.replicate c 3) [] D M → c ≤ 6 → 701 ≤ d + s.1.2 → d + 1 < f → ∃ M', F_X12_operand_L18 79 1 K f (nI c) M = K M' ∧ (((znt B n d c s.1).2.1 = 0 → zEg B n ((znt B n d c s.1).2, s.2) (W ++ List.replicate (znt B n d c s.1).1 3) [] D M') ∧ ((znt B n d c s.1).2.1 ≠ 0 → zEf B n (znt B n d c s.1).2 M') ∧ M' 101 = M 101 ∧ zEo M M') := by
  have ex : ∀ (s : zLs) (V : List Nat) (M : zM) (f : Nat) (x : Int32), zEg B n s V [] D M → zwd B n s.1 ≠ 16 → F_X12_operand_L18 79 1 K (f + 1) x M = K M := fun s V M f x h hi => by
    have e1 := kwI (tkw_le (B := B) (n := n) s.1.2) (c := 16) (by omega)
    rw [zwd_0 h.2.1] at hi
    rw [F_X12_operand_L18, gd_m h.1, zbI_I, if_pos h.2.1, zit_f (by decide), zit_f (by decide), kw_m ht h.1, zbI_I, zit_f (show ¬ (if tkw B n s.1.2 < 17 then nI (tkw B n s.1.2) else -1) = (16 : Int32) from fun z => hi (e1.mp z))]
  intro d
  induction d with
  | zero =>
    intro c s W M f h hc hd hf
    obtain ⟨f, rfl⟩ : ∃ g, f = g + 1 := ⟨f - 1, by omega⟩
    have h2 := h.2.1
    have hi : zwd B n s.1 ≠ 16 := fun z => by
      rw [zwd_0 h2] at z
      have := tkw_k (B := B) (n := n) (i := s.1.2) (by omega)
      have := (tk_lt (B := B) (n := n) (i := s.1.2) (by omega)).1
      have := ht.1
      omega
    rw [ex s _ M f _ h hi]
    exact ⟨M, rfl, fun _ => h, fun z => absurd h2 z, rfl, zEo_rfl⟩
  | succ d ih =>
    intro c s W M f h hc hd hf
    obtain ⟨f, rfl⟩ : ∃ g, f = g + 1 := ⟨f - 1, by omega⟩
    obtain ⟨h1, h2, h3, h4⟩ := id h
    rw [znt]
    by_cases hi : zwd B n s.1 = 16
    · have hk := hi
      rw [zwd_0 h2] at hk
      have hk' := tkw_k (B := B) (n := n) (i := s.1.2) (by omega)
      rw [if_pos hi, F_X12_operand_L18, gd_m h1, zbI_I, if_pos h2, zit_f (by decide), zit_f (by decide), kw_m ht h1, zbI_I, hk, if_pos (by omega), zit_t (by decide), zjo_eq]
      by_cases c6 : c < 6
      · obtain ⟨M1, e1, y1, q1, o1⟩ := wfy_m (a := 3) h4 h3
        obtain ⟨M2, e2, y2, q2, o2⟩ := gog_m ht (zEy_t (zEg_0 h) o1) (by omega) y1
        rw [if_pos c6, zit_f (show ¬ nI c = (6 : Int32) from fun z => by have := (nI_eq (b := 6) (by omega) (by omega)).mp z; omega)]
        try dsimp only
        rw [gd_m h1, zbI_I, if_pos h2, zit_f (by decide), show F_X12_waitsFor 79 3 M = zV M1 from e1, zbV_V, e2, zbV_V, nI_1]
        rw [List.append_assoc, ← List.replicate_succ'] at y2
        obtain ⟨M3, e3, i1, i2, q3, o3⟩ := ih (c + 1) ((0, s.1.2 + 1), s.2) W M2 f y2 (by omega) (by dsimp only; omega) (by omega)
        rw [zstp_0 h2]
        exact ⟨M3, e3, i1, i2, q3.trans (q2.trans q1), zEo_tr (zEy_o o1) (zEo_tr o2 o3)⟩
      · have hc6 : c = 6 := by omega
        obtain ⟨M1, e1, x1, q1, o1⟩ := wrg_m h (w := 2) (by omega) (by omega)
        obtain ⟨f, rfl⟩ : ∃ g, f = g + 1 := ⟨f - 1, by omega⟩
        rw [if_neg c6, zit_t (show nI c = (6 : Int32) from by rw [hc6]; rfl), show F_X12_wrong 79 2 M = zV M1 from e1, zbV_V]
        try dsimp only
        rw [gd_m x1.1, zbI_I, if_neg x1.2.1, zit_t rfl, F_X12_operand_L18, gd_m x1.1, zbI_I, if_neg x1.2.1, zit_t rfl, zrfs_0 h2]
        exact ⟨M1, rfl, fun z => absurd z (by simp), fun _ => x1, q1, o1⟩
    · rw [if_neg hi, ex s _ M f _ h hi]
      exact ⟨M, rfl, fun _ => h, fun z => absurd h2 z, rfl, zEo_rfl⟩
theorem zenc_N : ∀ k, zenc (List.replicate k (2, 0)) = List.replicate k 3
  | 0 => rfl
  | k + 1 => by
    rw [List.replicate_succ, List.replicate_succ]
    show zenc1 (2, 0) ++ zenc (List.replicate k (2, 0)) = 3 :: List.replicate k 3
    rw [zenc_N k]
    rfl
theorem zEg_N {r : zLs} {W P : List Nat} {D k : Nat} {M : zM} (h : zEg B n r (W ++ List.replicate k 3) P D M) : zEg B n (zaddN k r) W (List.replicate k 3 ++ P) D M := by
  obtain ⟨h1, h2, h3, ⟨o, a1, a2, a3, a4⟩, b1, b2, b3, b4, b5⟩ := h
  have e : W ++ (List.replicate k 3 ++ P) = (W ++ List.replicate k 3) ++ P := by rw [List.append_assoc]
  unfold zEg
  rw [zaddN_1, zaddN_0 k r h2]
  refine ⟨h1, h2, h3, ⟨o, a1, a2, ?_, by rw [e]; exact a4⟩, by rw [e]; exact b1, by rw [e]; exact b2, by rw [e]; exact b3, b4, b5⟩
  rw [zenc_ap, ← a3, zenc_N, List.reverse_append, List.append_assoc, List.reverse_replicate]
theorem zaddN_f : ∀ (k : Nat) {s : zLs}, s.1.1 ≠ 0 → zaddN k s = s
  | 0, _, _ => rfl
  | k + 1, s, h => by
    show zaddN k (zadp (2, 0) s) = s
    rw [zadd_f h]
    exact zaddN_f k h
theorem lvnot_m (ht : zTxt B n) {E : zLs → zLs} {D : Nat} (hs : zLT B n (ztest B n E) 4 D) : zLN B n (znot B n E) 3 D := fun s W g f M h hW h101 hg hf => by
  obtain ⟨h1, h2, h3, h4⟩ := id h
  obtain ⟨g, rfl⟩ : ∃ g', g = g' + 1 := ⟨g - 1, by omega⟩
  have e0 : zOL (g + 1) 1 M = F_X12_operand_L18 79 1 (zAN g 1) zN 0 M := by
    unfold zOL
    rw [F_X12_operand_L4, zit_f (by decide), gd_m h1, zbI_I, if_pos h2, zit_f (by decide)]
    rfl
  obtain ⟨M1, e1, i1, i2, q1, o1⟩ := nts_m ht (zAN g 1) 701 0 s W M zN (by rw [List.replicate_zero, List.append_nil]; exact h) (by omega) (by omega) (zN_ge (by omega))
  rw [e0, show F_X12_operand_L18 79 1 (zAN g 1) zN 0 M = zAN g 1 M1 from e1]
  unfold znot
  obtain ⟨k, hk⟩ : ∃ k, (znt B n 701 0 s.1).1 = k := ⟨_, rfl⟩
  obtain ⟨p, hp⟩ : ∃ p, (znt B n 701 0 s.1).2 = p := ⟨_, rfl⟩
  have hsx := znt_s (B := B) (n := n) 701 0 s.1
  rw [hk, hp] at i1 hsx ⊢
  rw [hp] at i2
  by_cases c : p.1 = 0
  · have y1 := i1 c
    obtain ⟨-, s2, -, s4⟩ := hsx c
    have hb : zbs 4 (W ++ List.replicate k 3) := by
      cases k with
      | zero =>
        rw [List.replicate_zero, List.append_nil]
        exact zbs_up hW (by omega)
      | succ k =>
        refine Or.inr ⟨W ++ List.replicate k 3, 3, ?_, by omega, Or.inr ⟨by omega, by decide⟩⟩
        rw [List.replicate_succ', List.append_assoc]
    obtain ⟨v1, v2⟩ := hs (p, s.2) (W ++ List.replicate k 3) g f 1 M1 y1 hb (by rw [q1]; exact h101) (by dsimp only; omega) (by dsimp only; omega)
    by_cases hr : (ztest B n E (p, s.2)).1.1 = 0
    · obtain ⟨f', P, M2, a1, a2, a3, a4, ⟨a5, a5'⟩, a6⟩ := v2 hr
      refine ⟨fun z => absurd (by rw [zaddN_1]; exact hr) z, fun _ => ⟨f', List.replicate k 3 ++ P, M2, by rw [zaddN_1]; exact a1, a2, zEg_N a3, fun x hx => ?_, ⟨fun d hd => by rw [a5 d hd, q1], by rw [zaddN_1]; exact a5'⟩, zEo_tr o1 a6⟩⟩
      rcases List.mem_append.mp hx with hx | hx
      · obtain ⟨-, rfl⟩ := List.mem_replicate.mp hx
        exact ⟨by omega, by omega, by decide⟩
      · have := a4 x hx
        exact ⟨this.1, this.2.1, by omega⟩
    · rw [zaddN_f k hr]
      obtain ⟨M2, a1, a2, a3⟩ := v1 hr
      exact zOc_f hr ⟨M2, a1, a2, zEo_tr o1 a3⟩
  · have x1 := i2 c
    obtain ⟨g, rfl⟩ : ∃ g', g = g' + 1 := ⟨g - 1, by omega⟩
    obtain ⟨f, rfl⟩ : ∃ g', f = g' + 1 := ⟨f - 1, by omega⟩
    have hf' : ((p, s.2) : zLs).1.1 ≠ 0 := c
    rw [ztest_f hf', zaddN_f k hf', anf_m x1, zbV_V]
    obtain ⟨M2, e2, x2, o2⟩ := mlf_m x1 f
    exact zOc_f hf' ⟨M2, e2, x2, zEo_tr o1 o2⟩
/-- what stands behind an expression -/
theorem end_or (ht : zTxt B n) {E : zLs → zLs} {k : Nat} (hk : 1 ≤ k) (hE : zgw n E k) (s : zLs) : zend B n (zor B n E s).1 := by
  obtain ⟨w1, w2, w3, w4, w5, w6, w7⟩ := zgw_or ht hk hE
  have xP : ∀ s, zoP B n (zprod B n E s).1 = none := fun s => zlp_no ht (fun _ _ => oP_in) w1 701 _ (fun _ => by omega)
  have xS : ∀ s, zoS B n (zsum B n E s).1 = none ∧ zoP B n (zsum B n E s).1 = none := fun s => ⟨zlp_no ht (fun _ _ => oS_in) w2 701 _ (fun _ => by omega), zlp_ex (PP := fun p => zoP B n p = none) xP 701 _ (xP s)⟩
  have xT : ∀ s, zoS B n (ztest B n E s).1 = none ∧ zoP B n (ztest B n E s).1 = none := fun s => by
    unfold ztest
    cases hi : zoT B n (zsum B n E s).1 with
    | none => exact xS s
    | some o =>
      dsimp only
      rw [zadd_1]
      exact xS _
  have xN : ∀ s, zoS B n (znot B n E s).1 = none ∧ zoP B n (znot B n E s).1 = none := fun s => by
    unfold znot
    rw [zaddN_1]
    exact xT _
  have xA : ∀ s, zoA B n (zand B n E s).1 = none ∧ zoS B n (zand B n E s).1 = none ∧ zoP B n (zand B n E s).1 = none := fun s => ⟨zlp_no ht (fun _ _ => oA_in) w5 701 _ (fun _ => by omega), zlp_ex (PP := fun p => zoS B n p = none ∧ zoP B n p = none) xN 701 _ (xN s)⟩
  have h1 : zoO B n (zor B n E s).1 = none := zlp_no ht (fun _ _ => oO_in) w6 701 _ (fun _ => by omega)
  have h2 : zoA B n (zor B n E s).1 = none ∧ zoS B n (zor B n E s).1 = none ∧ zoP B n (zor B n E s).1 = none := zlp_ex (PP := fun p => zoA B n p = none ∧ zoS B n p = none ∧ zoP B n p = none) xA 701 _ (xA s)
  exact ⟨h2.2.2, h2.2.1, h2.1, h1⟩
theorem lvor_m (ht : zTxt B n) : ∀ e D, D + e = 6 → 1 ≤ D → zLN B n (zor B n (zex B n e)) 1 D := by
  intro e
  induction e with
  | zero =>
    intro D hD h1
    obtain ⟨w1, w2, w3, w4, w5, w6, w7⟩ := zgw_or ht (by omega) (zgw_ex ht 0)
    have p : zLS B n (zpart B n (zex B n 0)) 7 D := lvp_m ht h1 (by omega) (fun z => by omega) (fun _ => rfl)
    have pr : zLS B n (zprod B n (zex B n 0)) 6 D := lvs_m ht (fun _ _ => oP_in) (itP_m ht (by omega)) p w1
    have su : zLS B n (zsum B n (zex B n 0)) 5 D := lvs_m ht (fun _ _ => oS_in) (itS_m ht (by omega)) pr w2
    have no := lvnot_m ht (lvt_m ht (by omega) su w3)
    have an : zLN B n (zand B n (zex B n 0)) 2 D := lvn_m ht (fun _ _ => oA_in) (itA_m ht (by omega)) no w5
    exact lvn_m ht (fun _ _ => oO_in) (itO_m ht (by omega)) an w6
  | succ e ih =>
    intro D hD h1
    obtain ⟨w1, w2, w3, w4, w5, w6, w7⟩ := zgw_or ht (by omega) (zgw_ex ht (e + 1))
    have p : zLS B n (zpart B n (zex B n (e + 1))) 7 D := lvp_m ht h1 (by omega) (fun _ => ⟨ih (D + 1) (by omega) (by omega), fun s => end_or ht (by omega) (zgw_ex ht e) s⟩) (fun z => by omega)
    have pr : zLS B n (zprod B n (zex B n (e + 1))) 6 D := lvs_m ht (fun _ _ => oP_in) (itP_m ht (by omega)) p w1
    have su : zLS B n (zsum B n (zex B n (e + 1))) 5 D := lvs_m ht (fun _ _ => oS_in) (itS_m ht (by omega)) pr w2
    have no := lvnot_m ht (lvt_m ht (by omega) su w3)
    have an : zLN B n (zand B n (zex B n (e + 1))) 2 D := lvn_m ht (fun _ _ => oA_in) (itA_m ht (by omega)) no w5
    exact lvn_m ht (fun _ _ => oO_in) (itO_m ht (by omega)) an w6
/-- the whole -/
theorem ex_m (ht : zTxt B n) {i : Nat} (hi1 : 1 ≤ i) (hi : i ≤ 700) {M : zM} (h : zTmx B n (0, i) M) (h33 : M 79 33 = nI 0) : ∃ M', F_X12_expression 79 M = zV M' ∧ (zTmx B n (zex B n 6 ((0, i), [])).1 M' ∧ ((zex B n 6 ((0, i), [])).1.1 = 0 → zrow (M' 99) (zenc (zex B n 6 ((0, i), [])).2 ++ [0]) ∧ (zenc (zex B n 6 ((0, i), [])).2).length + 1 ≤ 1900) ∧ zEo M M') := by
  unfold F_X12_expression
  rw [gd_m h, zbI_I, if_pos rfl, zit_f (by decide), zst_eq, zst_eq]
  obtain ⟨M1, hM1⟩ : ∃ M1, zup (zup M 79 34 0) 79 35 0 = M1 := ⟨_, rfl⟩
  rw [hM1]
  have o1 : zEy M M1 := by
    rw [← hM1]
    exact ⟨fun k hk => by rw [zup_row, upd_ne (by omega), zup_row, upd_ne (by omega)], zoff_up (zoff_up zoff_rfl (by decide)) (by decide)⟩
  rw [dp_m (D := 0) (by rw [← hM1, zup_row, upd_eq]; rfl) (by omega), zbV_V]
  obtain ⟨M2, hM2⟩ : ∃ M2, zup (zup M1 79 35 (nI (0 + 1))) 101 (0 + 1) 0 = M2 := ⟨_, rfl⟩
  rw [hM2]
  have o2 : zEy M1 M2 := by
    rw [← hM2]
    exact ⟨fun k hk => by rw [zup_ne (by decide), zup_row, upd_ne (by omega)], zoff_up (zoff_up zoff_rfl (by decide)) (by decide)⟩
  have o12 := zEy_o (zEy_tr o1 o2)
  have y2 : zEg B n ((0, i), []) [] [] 1 M2 := by
    refine ⟨zEy_t (zEy_t h o1) o2, rfl, hi, ⟨[], ?_, fun j hj => absurd hj (Nat.not_lt_zero _), rfl, by simp⟩, ?_, fun j hj => absurd hj (Nat.not_lt_zero _), by simp, by dsimp only; omega, ?_⟩
    · rw [← hM2, zup_ne (by decide), zup_row, upd_ne (by decide), ← hM1, zup_row, upd_ne (by decide), zup_row, upd_ne (by decide), h33]
      rfl
    · rw [← hM2, zup_ne (by decide), zup_row, upd_ne (by decide), ← hM1, zup_row, upd_ne (by decide), zup_row, upd_eq]
      rfl
    · rw [← hM2, zup_ne (by decide), zup_row, upd_eq]
  have hX : zbV (F_X12_operand 79 1 M2) (fun M5 => F_X12_expression_L29 79 zKX zN 1 M5) = zbV (zOL zN 1 M2) (fun M1 => zML zN M1) := rfl
  obtain ⟨g1, g2⟩ := lvor_m ht 5 1 (by omega) (by omega) ((0, i), []) [] zN zN M2 y2 (Or.inl rfl) (by rw [← hM2, zup_row, upd_eq]) (by unfold zN; omega) (by unfold zN; omega)
  have e6 : zex B n 6 ((0, i), []) = zor B n (zex B n 5) ((0, i), []) := rfl
  rw [e6]
  show ∃ M', zbV (F_X12_operand 79 1 M2) (fun M5 => F_X12_expression_L29 79 zKX zN 1 M5) = zV M' ∧ _
  rw [hX]
  have hend := end_or ht (by omega) (zgw_ex ht 5) ((0, i), [])
  obtain ⟨r, hr⟩ : ∃ r, zor B n (zex B n 5) ((0, i), []) = r := ⟨_, rfl⟩
  rw [hr] at g1 g2 hend ⊢
  by_cases c : r.1.1 = 0
  · obtain ⟨f, P, M3, a1, a2, a3, a4, ⟨a5, a5'⟩, a6⟩ := g2 c
    have h700 := a3.2.2.1
    obtain ⟨f, rfl⟩ : ∃ g, f = g + 2 := ⟨f - 2, by omega⟩
    have hkx : zML (f + 2) M3 = zKX M3 := by
      rw [mlx_m ht (by omega) a3 hend a5']
      by_cases c41 : tkk B n r.1.2 = 41
      · rw [if_pos c41, (iso_m a3.2.2.2 a4).1 rfl, zbI_I, zit_t rfl, ml_0]
      · rw [if_neg c41]
    rw [a2, hkx]
    unfold zKX
    obtain ⟨M4, e4, y4, q4, o4⟩ := drp_m (k := 0) (by omega) (Or.inl rfl) (fun x hx => ⟨(a4 x hx).1, (a4 x hx).2.1, Nat.zero_le _⟩) a3.2.2.2
    obtain ⟨⟨o, d1, d2, d3, d4⟩, -, -, -, d5, -⟩ := y4
    rw [gd_m a3.1, zbI_I, if_pos c, zjo_eq, zit_f (by decide), a3.2.2.2.2.2.2.2.2, zit_t (by decide)]
    dsimp only
    have hol : o.length ≤ 1402 := by omega
    rw [show F_X12_drops 79 0 M3 = zV M4 from e4, zbV_V, pts_m d1 (by omega), zbV_V]
    rw [List.reverse_nil, List.append_nil] at d3
    have o5 : zEy M4 (zup (zup M4 99 o.length 0) 79 33 (nI (o.length + 1))) := ⟨fun k hk => by rw [zup_row, upd_ne (by omega), zup_ne (by decide)], zoff_up (zoff_up zoff_rfl (by decide)) (by decide)⟩
    refine ⟨_, rfl, zEy_t (zEy_t a3.1 o4) o5, fun _ => ⟨?_, by rw [← d3]; omega⟩, zEo_tr o12 (zEo_tr a6 (zEo_tr (zEy_o o4) (zEy_o o5)))⟩
    rw [zup_ne (by decide), zup_row, ← d3]
    exact zrow_ap (v := 0) d2
  · obtain ⟨M3, e3, x3, o3⟩ := g1 c
    exact ⟨M3, e3, x3, fun z => absurd z c, zEo_tr o12 o3⟩
end ZLW
