/-! the reference's expressions, level by level -/
section ZLVL
variable {B : Nat → Nat} {n : Nat}
theorem kxf_m {p : Nat × Nat} {M : zM} (h : zEf B n p M) : ∃ M', zKX M = zV M' ∧ (zTmx B n p M' ∧ zEo M M') := by
  obtain ⟨h1, h2, a, b, h3, h4, h5, h6⟩ := h
  obtain ⟨M1, e1, ⟨t1, -, a1, b1, c1, c2, c3, c4⟩, o1⟩ := drf_m h2 b a M zN (zN_ge (by omega)) h1 h3 h4 h5 h6
  unfold zKX
  rw [gd_m h1, zbI_I, if_neg h2, zjo_eq, zit_t rfl]
  dsimp only
  unfold F_X12_drops
  rw [e1, zbV_V, pts_m c1 (by omega), zbV_V]
  have o2 : zEy M1 (zup (zup M1 99 a1 0) 79 33 (nI (a1 + 1))) := ⟨fun k hk => by rw [zup_row, upd_ne (by omega), zup_ne (by decide)], zoff_up (zoff_up zoff_rfl (by decide)) (by decide)⟩
  exact ⟨_, rfl, zEy_t t1 o2, zEo_tr (zEy_o o1) (zEy_o o2)⟩
theorem mlf_m {p : Nat × Nat} {M : zM} (h : zEf B n p M) (f : Nat) : ∃ M', zML (f + 1) M = zV M' ∧ (zTmx B n p M' ∧ zEo M M') := by
  unfold zML
  rw [F_X12_expression_L29, zit_f (by decide), gd_m h.1, zbI_I, if_neg h.2.1, zit_t rfl]
  exact kxf_m h
theorem ptf_m {p : Nat × Nat} {M : zM} (h : zEf B n p M) : zKP M = zV M := by
  unfold zKP F_X12_part
  rw [gd_m h.1, zbI_I, if_neg h.2.1, zit_t rfl, zbV_V]
theorem olf_m {p : Nat × Nat} {M : zM} (h : zEf B n p M) (g : Nat) (b : Int32) : zOL (g + 1) b M = zV M := by
  unfold zOL
  rw [F_X12_operand_L4, zit_f (by decide), gd_m h.1, zbI_I, if_neg h.2.1, zit_t rfl]
  exact ptf_m h
theorem anf_m {p : Nat × Nat} {M : zM} (h : zEf B n p M) (g : Nat) (b : Int32) : zAN (g + 1) b M = zV M := by
  unfold zAN
  rw [gd_m h.1, zbI_I, if_neg h.2.1, zjo_eq, zjo_eq, zit_t rfl]
  dsimp only
  rw [zjo_eq, zit_t rfl]
  dsimp only
  rw [F_X12_operand_L4, zit_t rfl]
  exact ptf_m h
theorem ol0_m {p : Nat × Nat} {M : zM} (h : zTmx B n p M) (hp : p.1 = 0) (g : Nat) : zOL (g + 1) 0 M = zAN g 0 M := by
  unfold zOL
  obtain ⟨f, hf⟩ : ∃ f, zN = f + 1 := ⟨999999, rfl⟩
  rw [F_X12_operand_L4, zit_f (by decide), gd_m h, zbI_I, if_pos hp, zit_f (by decide), hf, F_X12_operand_L18, gd_m h, zbI_I, if_pos hp, zit_f (by decide), zit_t rfl]
  rfl
/-- what comes of it -/
def zOc (B : Nat → Nat) (n : Nat) (r : zLs) (W : List Nat) (D k : Nat) (Q : zM → Prop) (M : zM) (X : zO) : Prop :=
  (r.1.1 ≠ 0 → ∃ M', X = zV M' ∧ (zTmx B n r.1 M' ∧ zEo M M')) ∧ (r.1.1 = 0 → ∃ f P M', 100000 ≤ f + r.1.2 ∧ X = zML f M' ∧ (zEg B n r W P D M' ∧ zpd k P ∧ Q M' ∧ zEo M M'))
theorem zOc_up {r : zLs} {W : List Nat} {D k k' : Nat} {Q Q' : zM → Prop} {M M0 : zM} {X : zO} (h : zOc B n r W D k Q M X) (hk : k' ≤ k) (hQ : ∀ M', Q M' → Q' M') (o : zEo M0 M) : zOc B n r W D k' Q' M0 X := by
  obtain ⟨h1, h2⟩ := h
  refine ⟨fun z => ?_, fun z => ?_⟩
  · obtain ⟨M', a1, a2, a3⟩ := h1 z
    exact ⟨M', a1, a2, zEo_tr o a3⟩
  · obtain ⟨f, P, M', a1, a2, a3, a4, a5, a6⟩ := h2 z
    exact ⟨f, P, M', a1, a2, a3, fun x hx => ⟨(a4 x hx).1, (a4 x hx).2.1, by have := (a4 x hx).2.2; omega⟩, hQ M' a5, zEo_tr o a6⟩
theorem zOc_f {r : zLs} {W : List Nat} {D k : Nat} {Q : zM → Prop} {M : zM} {X : zO} (hr : r.1.1 ≠ 0) (h : ∃ M', X = zV M' ∧ (zTmx B n r.1 M' ∧ zEo M M')) : zOc B n r W D k Q M X := ⟨fun _ => h, fun z => absurd z hr⟩
def zLS (B : Nat → Nat) (n : Nat) (F : zLs → zLs) (k D : Nat) : Prop := ∀ (s : zLs) (W : List Nat) (g f : Nat) (b : Int32) (M : zM), zEg B n s W [] D M → zbs k W → 100000 ≤ g + s.1.2 → 100000 ≤ f + s.1.2 → zOc B n (F s) W D k (fun M' => ∀ d, d ≤ D → M' 101 d = M 101 d) M (zbV (zAN g b M) (fun M1 => zML f M1))
def zLT (B : Nat → Nat) (n : Nat) (F : zLs → zLs) (k D : Nat) : Prop := ∀ (s : zLs) (W : List Nat) (g f : Nat) (b : Int32) (M : zM), zEg B n s W [] D M → zbs k W → M 101 D = 0 → 100000 ≤ g + s.1.2 → 100000 ≤ f + s.1.2 → zOc B n (F s) W D k (fun M' => (∀ d, d < D → M' 101 d = M 101 d) ∧ (zoT B n (F s).1 = none ∨ M' 101 D = 1)) M (zbV (zAN g b M) (fun M1 => zML f M1))
def zLN (B : Nat → Nat) (n : Nat) (F : zLs → zLs) (k D : Nat) : Prop := ∀ (s : zLs) (W : List Nat) (g f : Nat) (M : zM), zEg B n s W [] D M → zbs k W → M 101 D = 0 → 100001 ≤ g + s.1.2 → 100000 ≤ f + s.1.2 → zOc B n (F s) W D k (fun M' => (∀ d, d < D → M' 101 d = M 101 d) ∧ (zoT B n (F s).1 = none ∨ M' 101 D = 1)) M (zbV (zOL g 1 M) (fun M1 => zML f M1))
/-- which operators can't stand behind -/
theorem zlp_ex {isop : Nat × Nat → Option Nat} {sub : zLs → zLs} {PP : Nat × Nat → Prop} (hs : ∀ s, PP (sub s).1) : ∀ (d : Nat) (s : zLs), PP s.1 → PP (zlp isop sub d s).1
  | 0, _, h => h
  | d + 1, s, h => by
    rw [zlp]
    cases hi : isop s.1 with
    | none => exact h
    | some o => exact zlp_ex hs d _ (by rw [zadd_1]; exact hs _)
theorem zlp_no (ht : zTxt B n) {isop : Nat × Nat → Option Nat} (ho : ∀ p o, isop p = some o → p.1 = 0 ∧ tkk B n p.2 ≠ 256 ∧ 1 ≤ o ∧ o ≤ 8) {sub : zLs → zLs} {k : Nat} (hs : zgw n sub k) : ∀ (d : Nat) (s : zLs), (s.1.1 = 0 → 701 ≤ d + s.1.2) → isop (zlp isop sub d s).1 = none
  | 0, s, h => by
    show isop s.1 = none
    cases hi : isop s.1 with
    | none => rfl
    | some o =>
      obtain ⟨o1, o2, -, -⟩ := ho _ _ hi
      have := (tk_lt o2).1
      have := h o1
      have := ht.1
      omega
  | d + 1, s, h => by
    rw [zlp]
    cases hi : isop s.1 with
    | none => exact hi
    | some o =>
      obtain ⟨o1, o2, -, -⟩ := ho _ _ hi
      refine zlp_no ht ho hs d _ (fun z => ?_)
      rw [zadd_1] at z ⊢
      obtain ⟨-, b2, -, -⟩ := hs _ z
      have e12 : (zstp s.1).2 = s.1.2 + 1 := by rw [zstp_0 o1]
      dsimp only at b2
      have := h o1
      omega
/-- an operator is at hand: S the signs', N the words' -/
def zItS (B : Nat → Nat) (n : Nat) (zo : Nat × Nat → Option Nat) (k D : Nat) : Prop := ∀ (s : zLs) (W P : List Nat) (f o : Nat) (M : zM), zEg B n s W P D M → zpd k P → zbs k W → zo s.1 = some o → ∃ M1, zML (f + 1) M = zbV (F_X12_operand 79 0 M1) (fun M2 => zML f M2) ∧ (zEg B n (zstp s.1, s.2) (W ++ [zco o]) [] D M1 ∧ M1 101 = M 101 ∧ zEo M M1 ∧ zco o ≤ 11 ∧ 3 ≤ zco o ∧ zsth (zco o) = k)
theorem zEg_ad {r : zLs} {W P : List Nat} {D o : Nat} {M : zM} (h : zEg B n r (W ++ [zco o]) P D M) : zEg B n (zadp (2, o) r) W (zco o :: P) D M := by
  obtain ⟨h1, h2, h3, ⟨o', a1, a2, a3, a4⟩, b1, b2, b3, b4, b5⟩ := h
  rw [zadd_0 h2]
  have e : W ++ zco o :: P = (W ++ [zco o]) ++ P := by simp
  refine ⟨h1, h2, h3, ⟨o', a1, a2, ?_, by rw [e]; exact a4⟩, by rw [e]; exact b1, by rw [e]; exact b2, by rw [e]; exact b3, b4, b5⟩
  rw [zenc_ap, ← a3, List.reverse_cons, zenc_1, List.append_assoc]
  rfl
theorem lps_m (ht : zTxt B n) {zo : Nat × Nat → Option Nat} (ho : ∀ p o, zo p = some o → p.1 = 0 ∧ tkk B n p.2 ≠ 256 ∧ 1 ≤ o ∧ o ≤ 8) {sub : zLs → zLs} {k D K : Nat} (hit : zItS B n zo k D) (hs : zLS B n sub (k + 1) D) (hw : zgw n sub K) : ∀ (d : Nat) (s : zLs) (W P : List Nat) (f : Nat) (M : zM), zEg B n s W P D M → zpd k P → zbs k W → 100000 ≤ f + s.1.2 → 701 ≤ d + s.1.2 → zOc B n (zlp zo sub d s) W D k (fun M' => ∀ d, d ≤ D → M' 101 d = M 101 d) M (zML f M) := by
  have stay : ∀ (s : zLs) (W P : List Nat) (f : Nat) (M : zM), zEg B n s W P D M → zpd k P → 100000 ≤ f + s.1.2 → zOc B n s W D k (fun M' => ∀ d, d ≤ D → M' 101 d = M 101 d) M (zML f M) := fun s W P f M h hp hf => ⟨fun z => absurd h.2.1 z, fun _ => ⟨f, P, M, hf, rfl, h, hp, fun _ _ => rfl, zEo_rfl⟩⟩
  intro d
  induction d with
  | zero => exact fun s W P f M h hp hW hf hd => stay s W P f M h hp hf
  | succ d ih =>
    intro s W P f M h hp hW hf hd
    rw [zlp]
    cases hi : zo s.1 with
    | none => exact stay s W P f M h hp hf
    | some o =>
      dsimp only
      obtain ⟨o1, o2, o3, o4⟩ := ho _ _ hi
      have h700 := h.2.2.1
      obtain ⟨f, rfl⟩ : ∃ g, f = g + 1 := ⟨f - 1, by omega⟩
      obtain ⟨M1, e1, y1, q1, p1, c1, c2, c3⟩ := hit s W P f o M h hp hW hi
      have e12 : (zstp s.1).2 = s.1.2 + 1 := by rw [zstp_0 o1]
      have eop : F_X12_operand 79 0 M1 = zAN 999999 0 M1 := by
        show zOL (999999 + 1) 0 M1 = _
        exact ol0_m y1.1 y1.2.1 999999
      rw [e1, eop]
      obtain ⟨g1, g2⟩ := hs (zstp s.1, s.2) (W ++ [zco o]) 999999 f 0 M1 y1 (Or.inr ⟨W, zco o, rfl, by omega, Or.inr ⟨c1, by omega⟩⟩) (by omega) (by dsimp only; omega)
      by_cases hr : (sub (zstp s.1, s.2)).1.1 = 0
      · obtain ⟨f', P', M2, a1, a2, a3, a4, a5, a6⟩ := g2 hr
        rw [a2]
        obtain ⟨-, b2, -, -⟩ := hw _ hr
        dsimp only at b2
        have := ih (zadp (2, o) (sub (zstp s.1, s.2))) W (zco o :: P') f' M2 (zEg_ad a3) (fun x hx => by
          rcases List.mem_cons.mp hx with rfl | hx
          · exact ⟨c2, c1, by omega⟩
          · have := a4 x hx
            exact ⟨this.1, this.2.1, by omega⟩) hW (by rw [zadd_1]; exact a1) (by rw [zadd_1]; omega)
        exact zOc_up this (Nat.le_refl _) (fun M' hM d hd => by rw [hM d hd, a5 d hd, q1]) (zEo_tr p1 a6)
      · rw [zadd_f hr, zlp_f ho hr]
        obtain ⟨M2, a1, a2, a3⟩ := g1 hr
        exact zOc_f hr ⟨M2, a1, a2, zEo_tr p1 a3⟩
theorem lvs_m (ht : zTxt B n) {zo : Nat × Nat → Option Nat} (ho : ∀ p o, zo p = some o → p.1 = 0 ∧ tkk B n p.2 ≠ 256 ∧ 1 ≤ o ∧ o ≤ 8) {sub : zLs → zLs} {k D K : Nat} (hit : zItS B n zo k D) (hs : zLS B n sub (k + 1) D) (hw : zgw n sub K) : zLS B n (fun s => zlp zo sub 701 (sub s)) k D := fun s W g f b M h hW hg hf => by
  obtain ⟨g1, g2⟩ := hs s W g f b M h (zbs_up hW (by omega)) hg hf
  dsimp only
  by_cases hr : (sub s).1.1 = 0
  · obtain ⟨f', P', M2, a1, a2, a3, a4, a5, a6⟩ := g2 hr
    rw [a2]
    have := lps_m ht ho hit hs hw 701 (sub s) W P' f' M2 a3 (fun x hx => ⟨(a4 x hx).1, (a4 x hx).2.1, by have := (a4 x hx).2.2; omega⟩) hW a1 (by omega)
    exact zOc_up this (Nat.le_refl _) (fun M' hM d hd => by rw [hM d hd, a5 d hd]) a6
  · rw [zlp_f ho hr]
    exact zOc_f hr (g1 hr)
/-- the same for words -/
def zItN (B : Nat → Nat) (n : Nat) (zo : Nat × Nat → Option Nat) (k D : Nat) : Prop := ∀ (s : zLs) (W P : List Nat) (f o : Nat) (M : zM), zEg B n s W P D M → zpd k P → zbs k W → zo s.1 = some o → ∃ M1, zML (f + 1) M = zbV (F_X12_operand 79 1 M1) (fun M2 => zML f M2) ∧ (zEg B n (zstp s.1, s.2) (W ++ [zco o]) [] D M1 ∧ M1 101 D = 0 ∧ (∀ d, d ≠ D → M1 101 d = M 101 d) ∧ zEo M M1 ∧ zco o ≤ 11 ∧ 3 ≤ zco o ∧ zsth (zco o) = k)
theorem lpn_m (ht : zTxt B n) {zo : Nat × Nat → Option Nat} (ho : ∀ p o, zo p = some o → p.1 = 0 ∧ tkk B n p.2 ≠ 256 ∧ 1 ≤ o ∧ o ≤ 8) {sub : zLs → zLs} {k D K : Nat} (hit : zItN B n zo k D) (hs : zLN B n sub (k + 1) D) (hw : zgw n sub K) : ∀ (d : Nat) (s : zLs) (W P : List Nat) (f : Nat) (M : zM), zEg B n s W P D M → zpd k P → zbs k W → (zoT B n s.1 = none ∨ M 101 D = 1) → 100000 ≤ f + s.1.2 → 701 ≤ d + s.1.2 → zOc B n (zlp zo sub d s) W D k (fun M' => (∀ d, d < D → M' 101 d = M 101 d) ∧ (zoT B n (zlp zo sub d s).1 = none ∨ M' 101 D = 1)) M (zML f M) := by
  have stay : ∀ (s : zLs) (W P : List Nat) (f : Nat) (M : zM), zEg B n s W P D M → zpd k P → (zoT B n s.1 = none ∨ M 101 D = 1) → 100000 ≤ f + s.1.2 → zOc B n s W D k (fun M' => (∀ d, d < D → M' 101 d = M 101 d) ∧ (zoT B n s.1 = none ∨ M' 101 D = 1)) M (zML f M) := fun s W P f M h hp hT hf => ⟨fun z => absurd h.2.1 z, fun _ => ⟨f, P, M, hf, rfl, h, hp, ⟨fun _ _ => rfl, hT⟩, zEo_rfl⟩⟩
  intro d
  induction d with
  | zero => exact fun s W P f M h hp hW hT hf hd => stay s W P f M h hp hT hf
  | succ d ih =>
    intro s W P f M h hp hW hT hf hd
    rw [zlp]
    cases hi : zo s.1 with
    | none => exact stay s W P f M h hp hT hf
    | some o =>
      dsimp only
      obtain ⟨o1, o2, o3, o4⟩ := ho _ _ hi
      have h700 := h.2.2.1
      obtain ⟨f, rfl⟩ : ∃ g, f = g + 1 := ⟨f - 1, by omega⟩
      obtain ⟨M1, e1, y1, q0, q1, p1, c1, c2, c3⟩ := hit s W P f o M h hp hW hi
      have e12 : (zstp s.1).2 = s.1.2 + 1 := by rw [zstp_0 o1]
      rw [e1, show F_X12_operand 79 1 M1 = zOL zN 1 M1 from rfl]
      obtain ⟨g1, g2⟩ := hs (zstp s.1, s.2) (W ++ [zco o]) zN f M1 y1 (Or.inr ⟨W, zco o, rfl, by omega, Or.inr ⟨c1, by omega⟩⟩) q0 (by unfold zN; omega) (by dsimp only; omega)
      by_cases hr : (sub (zstp s.1, s.2)).1.1 = 0
      · obtain ⟨f', P', M2, a1, a2, a3, a4, ⟨a5, a5'⟩, a6⟩ := g2 hr
        rw [a2]
        obtain ⟨-, b2, -, -⟩ := hw _ hr
        dsimp only at b2
        have := ih (zadp (2, o) (sub (zstp s.1, s.2))) W (zco o :: P') f' M2 (zEg_ad a3) (fun x hx => by
          rcases List.mem_cons.mp hx with rfl | hx
          · exact ⟨c2, c1, by omega⟩
          · have := a4 x hx
            exact ⟨this.1, this.2.1, by omega⟩) hW (by rw [zadd_1]; exact a5') (by rw [zadd_1]; exact a1) (by rw [zadd_1]; omega)
        exact zOc_up this (Nat.le_refl _) (fun M' hM => ⟨fun d hd => by rw [hM.1 d hd, a5 d hd, q1 d (by omega)], hM.2⟩) (zEo_tr p1 a6)
      · rw [zadd_f hr, zlp_f ho hr]
        obtain ⟨M2, a1, a2, a3⟩ := g1 hr
        exact zOc_f hr ⟨M2, a1, a2, zEo_tr p1 a3⟩
theorem lvn_m (ht : zTxt B n) {zo : Nat × Nat → Option Nat} (ho : ∀ p o, zo p = some o → p.1 = 0 ∧ tkk B n p.2 ≠ 256 ∧ 1 ≤ o ∧ o ≤ 8) {sub : zLs → zLs} {k D K : Nat} (hit : zItN B n zo k D) (hs : zLN B n sub (k + 1) D) (hw : zgw n sub K) : zLN B n (fun s => zlp zo sub 701 (sub s)) k D := fun s W g f M h hW h101 hg hf => by
  obtain ⟨g1, g2⟩ := hs s W g f M h (zbs_up hW (by omega)) h101 hg hf
  dsimp only
  by_cases hr : (sub s).1.1 = 0
  · obtain ⟨f', P', M2, a1, a2, a3, a4, ⟨a5, a5'⟩, a6⟩ := g2 hr
    rw [a2]
    have := lpn_m ht ho hit hs hw 701 (sub s) W P' f' M2 a3 (fun x hx => ⟨(a4 x hx).1, (a4 x hx).2.1, by have := (a4 x hx).2.2; omega⟩) hW a5' a1 (by omega)
    exact zOc_up this (Nat.le_refl _) (fun M' hM => ⟨fun d hd => by rw [hM.1 d hd, a5 d hd], hM.2⟩) a6
  · rw [zlp_f ho hr]
    exact zOc_f hr (g1 hr)
/-- the operators themselves -/
theorem zco_all : ∀ o, o < 9 → zco o ≤ 11 ∧ 3 ≤ zco o := by decide
theorem itP_m (ht : zTxt B n) {D : Nat} (hD : D < 9) : zItS B n (zoP B n) 6 D := fun s W P f o M h hp hW hi => by
  obtain ⟨o1, o2, o3, o4⟩ := oP_in hi
  have h0 := zEg_0 h
  have hc : tkk B n s.1.2 = 42 ∧ o = 3 ∨ tkk B n s.1.2 = 47 ∧ o = 4 := by
    unfold zoP at hi
    rw [zkn_0 o1] at hi
    by_cases c : tkk B n s.1.2 = 42
    · rw [if_pos c] at hi; exact Or.inl ⟨c, (Option.some.inj hi).symm⟩
    · rw [if_neg c] at hi
      by_cases c2 : tkk B n s.1.2 = 47
      · rw [if_pos c2] at hi; exact Or.inr ⟨c2, (Option.some.inj hi).symm⟩
      · rw [if_neg c2] at hi; cases hi
  have hw := tkw_17 (B := B) (n := n) (i := s.1.2) (by omega)
  obtain ⟨M1, e1, y1, q1, p1⟩ := drp_m (k := 6) (by omega) hW hp h.2.2.2
  have t1 := zEy_t h0 p1
  have h1 : zEg B n s W [] D M1 := ⟨zEy_t h.1 p1, h.2.1, h.2.2.1, y1⟩
  rw [ml_B ht h0 (by omega) (by omega) hD h.2.2.2.2.2.2.2.2 (Or.inl ⟨by omega, by omega⟩), bx_P ht h0 (by omega), show F_X12_drops 79 6 M = zV M1 from e1, zbV_V, show F_X12_isSign 79 42 M1 = _ from isg_m ht t1 (c := 42) (by decide), zbI_I, zjo_eq]
  dsimp only
  have fin : ∀ a : Nat, a = zco o → zsth a = 6 → ∃ M2, zWo f (nI a) 0 M1 = zbV (F_X12_operand 79 0 M2) (fun M2 => zML f M2) ∧ (zEg B n (zstp s.1, s.2) (W ++ [zco o]) [] D M2 ∧ M2 101 = M 101 ∧ zEo M M2 ∧ zco o ≤ 11 ∧ 3 ≤ zco o ∧ zsth (zco o) = 6) := fun a ha hs => by
    obtain ⟨M2, e2, y2, q2, p2⟩ := wo_m ht (a := a) (b := 0) h1 o2 f
    rw [ha] at y2 hs
    have := zco_all o (by omega)
    exact ⟨M2, e2, y2, q2.trans q1, zEo_tr (zEy_o p1) p2, this.1, this.2, hs⟩
  rcases hc with ⟨c, rfl⟩ | ⟨c, rfl⟩
  · rw [if_pos c, zit_f (by decide)]
    exact fin 10 (by decide) (by decide)
  · rw [if_neg (by omega), zit_t rfl]
    exact fin 11 (by decide) (by decide)
theorem itS_m (ht : zTxt B n) {D : Nat} (hD : D < 9) : zItS B n (zoS B n) 5 D := fun s W P f o M h hp hW hi => by
  obtain ⟨o1, o2, o3, o4⟩ := oS_in hi
  have h0 := zEg_0 h
  have hc : tkk B n s.1.2 = 43 ∧ o = 1 ∨ tkk B n s.1.2 = 45 ∧ o = 2 := by
    unfold zoS at hi
    rw [zkn_0 o1] at hi
    by_cases c : tkk B n s.1.2 = 43
    · rw [if_pos c] at hi; exact Or.inl ⟨c, (Option.some.inj hi).symm⟩
    · rw [if_neg c] at hi
      by_cases c2 : tkk B n s.1.2 = 45
      · rw [if_pos c2] at hi; exact Or.inr ⟨c2, (Option.some.inj hi).symm⟩
      · rw [if_neg c2] at hi; cases hi
  have hw := tkw_17 (B := B) (n := n) (i := s.1.2) (by omega)
  obtain ⟨M1, e1, y1, q1, p1⟩ := drp_m (k := 5) (by omega) hW hp h.2.2.2
  have t1 := zEy_t h0 p1
  have h1 : zEg B n s W [] D M1 := ⟨zEy_t h.1 p1, h.2.1, h.2.2.1, y1⟩
  rw [ml_B ht h0 (by omega) (by omega) hD h.2.2.2.2.2.2.2.2 (Or.inl ⟨by omega, by omega⟩), bx_S ht h0 (by omega), show F_X12_drops 79 5 M = zV M1 from e1, zbV_V, show F_X12_isSign 79 43 M1 = _ from isg_m ht t1 (c := 43) (by decide), zbI_I, zjo_eq]
  dsimp only
  have fin : ∀ a : Nat, a = zco o → zsth a = 5 → ∃ M2, zWo f (nI a) 0 M1 = zbV (F_X12_operand 79 0 M2) (fun M2 => zML f M2) ∧ (zEg B n (zstp s.1, s.2) (W ++ [zco o]) [] D M2 ∧ M2 101 = M 101 ∧ zEo M M2 ∧ zco o ≤ 11 ∧ 3 ≤ zco o ∧ zsth (zco o) = 5) := fun a ha hs => by
    obtain ⟨M2, e2, y2, q2, p2⟩ := wo_m ht (a := a) (b := 0) h1 o2 f
    rw [ha] at y2 hs
    have := zco_all o (by omega)
    exact ⟨M2, e2, y2, q2.trans q1, zEo_tr (zEy_o p1) p2, this.1, this.2, hs⟩
  rcases hc with ⟨c, rfl⟩ | ⟨c, rfl⟩
  · rw [if_pos c, zit_f (by decide)]
    exact fin 8 (by decide) (by decide)
  · rw [if_neg (by omega), zit_t rfl]
    exact fin 9 (by decide) (by decide)
theorem itA_m (ht : zTxt B n) {D : Nat} (hD : D < 9) : zItN B n (zoA B n) 2 D := fun s W P f o M h hp hW hi => by
  obtain ⟨o1, o2, o3, o4⟩ := oA_in hi
  have h0 := zEg_0 h
  have hc : tkw B n s.1.2 = 14 ∧ o = 7 := by
    unfold zoA at hi
    rw [zwd_0 o1] at hi
    by_cases c : tkw B n s.1.2 = 14
    · rw [if_pos c] at hi; exact ⟨c, (Option.some.inj hi).symm⟩
    · rw [if_neg c] at hi; cases hi
  obtain ⟨c, rfl⟩ := hc
  obtain ⟨M1, e1, y1, q1, p1⟩ := drp_m (k := 2) (by omega) hW hp h.2.2.2
  have h1 : zEg B n s W [] D M1 := ⟨zEy_t h.1 p1, h.2.1, h.2.2.1, y1⟩
  obtain ⟨M2, e2, y2, q2, q2', p2⟩ := wt_m ht (a := 4) (b := 1) hD (v := 0) zbo_0 h1 o2 f
  rw [ml_and ht h0 c, show F_X12_drops 79 2 M = zV M1 from e1, zbV_V]
  exact ⟨M2, e2, y2, q2, fun d hd => by rw [q2' d hd, q1], zEo_tr (zEy_o p1) p2, by decide, by decide, by decide⟩
theorem itO_m (ht : zTxt B n) {D : Nat} (hD : D < 9) : zItN B n (zoO B n) 1 D := fun s W P f o M h hp hW hi => by
  obtain ⟨o1, o2, o3, o4⟩ := oO_in hi
  have h0 := zEg_0 h
  have hc : tkw B n s.1.2 = 15 ∧ o = 8 := by
    unfold zoO at hi
    rw [zwd_0 o1] at hi
    by_cases c : tkw B n s.1.2 = 15
    · rw [if_pos c] at hi; exact ⟨c, (Option.some.inj hi).symm⟩
    · rw [if_neg c] at hi; cases hi
  obtain ⟨c, rfl⟩ := hc
  obtain ⟨M1, e1, y1, q1, p1⟩ := drp_m (k := 1) (by omega) hW hp h.2.2.2
  have h1 : zEg B n s W [] D M1 := ⟨zEy_t h.1 p1, h.2.1, h.2.2.1, y1⟩
  obtain ⟨M2, e2, y2, q2, q2', p2⟩ := wt_m ht (a := 5) (b := 1) hD (v := 0) zbo_0 h1 o2 f
  rw [ml_or ht h0 c, show F_X12_drops 79 1 M = zV M1 from e1, zbV_V]
  exact ⟨M2, e2, y2, q2, fun d hd => by rw [q2' d hd, q1], zEo_tr (zEy_o p1) p2, by decide, by decide, by decide⟩
/-- a TEST -/
theorem lvt_m (ht : zTxt B n) {E : zLs → zLs} {D K : Nat} (hD : D < 9) (hs : zLS B n (zsum B n E) 5 D) (hw : zgw n (zsum B n E) K) : zLT B n (ztest B n E) 4 D := fun s W g f b M h hW h101 hg hf => by
  obtain ⟨g1, g2⟩ := hs s W g f b M h (zbs_up hW (by omega)) hg hf
  by_cases hr : (zsum B n E s).1.1 = 0
  · obtain ⟨f', P', M2, a1, a2, a3, a4, a5, a6⟩ := g2 hr
    have hp4 : zpd 4 P' := fun x hx => ⟨(a4 x hx).1, (a4 x hx).2.1, by have := (a4 x hx).2.2; omega⟩
    rw [a2]
    unfold ztest
    cases hi : zoT B n (zsum B n E s).1 with
    | none =>
      dsimp only
      exact ⟨fun z => absurd hr z, fun _ => ⟨f', P', M2, a1, rfl, a3, hp4, ⟨fun d hd => a5 d (by omega), Or.inl hi⟩, a6⟩⟩
    | some o =>
      dsimp only
      obtain ⟨o1, o2, o3, o4⟩ := oT_in hi
      have h700 := a3.2.2.1
      obtain ⟨f', rfl⟩ : ∃ g, f' = g + 1 := ⟨f' - 1, by omega⟩
      have h0 := zEg_0 a3
      have hc : tkk B n (zsum B n E s).1.2 = 60 ∧ o = 5 ∨ tkk B n (zsum B n E s).1.2 = 61 ∧ o = 6 := by
        unfold zoT at hi
        rw [zkn_0 o1] at hi
        by_cases c : tkk B n (zsum B n E s).1.2 = 60
        · rw [if_pos c] at hi; exact Or.inl ⟨c, (Option.some.inj hi).symm⟩
        · rw [if_neg c] at hi
          by_cases c2 : tkk B n (zsum B n E s).1.2 = 61
          · rw [if_pos c2] at hi; exact Or.inr ⟨c2, (Option.some.inj hi).symm⟩
          · rw [if_neg c2] at hi; cases hi
      obtain ⟨M3, e3, y3, q3, p3⟩ := drp_m (k := 4) (by omega) hW hp4 a3.2.2.2
      have t3 := zEy_t h0 p3
      have h3 : zEg B n (zsum B n E s) W [] D M3 := ⟨zEy_t a3.1 p3, a3.2.1, a3.2.2.1, y3⟩
      have e12 : (zstp (zsum B n E s).1).2 = (zsum B n E s).1.2 + 1 := by rw [zstp_0 o1]
      have fin : ∀ a : Nat, a = zco o → zsth a = 4 → zOc B n (zadp (2, o) (zsum B n E (zstp (zsum B n E s).1, (zsum B n E s).2))) W D 4 (fun M' => (∀ d, d < D → M' 101 d = M 101 d) ∧ (zoT B n (zadp (2, o) (zsum B n E (zstp (zsum B n E s).1, (zsum B n E s).2))).1 = none ∨ M' 101 D = 1)) M (zWt f' (nI a) 0 1 M3) := fun a ha hst => by
        obtain ⟨M4, e4, y4, q4, q4', p4⟩ := wt_m ht (a := a) (b := 0) hD (v := 1) zbo_1 h3 o2 f'
        rw [ha] at y4 hst
        have hca := zco_all o (by omega)
        have eop : F_X12_operand 79 0 M4 = zAN 999999 0 M4 := by
          show zOL (999999 + 1) 0 M4 = _
          exact ol0_m y4.1 y4.2.1 999999
        rw [e4, eop]
        obtain ⟨v1, v2⟩ := hs (zstp (zsum B n E s).1, (zsum B n E s).2) (W ++ [zco o]) 999999 f' 0 M4 y4 (Or.inr ⟨W, zco o, rfl, by omega, Or.inr ⟨hca.1, by omega⟩⟩) (by omega) (by dsimp only; omega)
        have po := zEo_tr a6 (zEo_tr (zEy_o p3) p4)
        by_cases hr2 : (zsum B n E (zstp (zsum B n E s).1, (zsum B n E s).2)).1.1 = 0
        · obtain ⟨f'', P'', M5, b1, b2, b3, b4, b5, b6⟩ := v2 hr2
          rw [b2]
          refine ⟨fun z => absurd (by rw [zadd_1]; exact hr2) z, fun _ => ⟨f'', zco o :: P'', M5, by rw [zadd_1]; exact b1, rfl, zEg_ad b3, fun x hx => ?_, ⟨fun d hd => ?_, Or.inr ?_⟩, zEo_tr po b6⟩⟩
          · rcases List.mem_cons.mp hx with rfl | hx
            · exact ⟨hca.2, hca.1, by omega⟩
            · have := b4 x hx
              exact ⟨this.1, this.2.1, by omega⟩
          · rw [b5 d (by omega), q4' d (by omega), q3, a5 d (by omega)]
          · rw [b5 D (Nat.le_refl _), q4]
        · rw [zadd_f hr2]
          obtain ⟨M5, b1, b2, b3⟩ := v1 hr2
          exact zOc_f hr2 ⟨M5, b1, b2, zEo_tr po b3⟩
      rw [ml_T ht h0 hD a3.2.2.2.2.2.2.2.2 (by omega) (by rw [a5 D (Nat.le_refl _), h101]), show F_X12_drops 79 4 M2 = zV M3 from e3, zbV_V, show F_X12_isSign 79 60 M3 = _ from isg_m ht t3 (c := 60) (by decide), zbI_I, zjo_eq]
      dsimp only
      rcases hc with ⟨c, rfl⟩ | ⟨c, rfl⟩
      · rw [if_pos c, zit_f (by decide)]
        exact fin 6 (by decide) (by decide)
      · rw [if_neg (by omega), zit_t rfl]
        exact fin 7 (by decide) (by decide)
  · unfold ztest
    cases hi : zoT B n (zsum B n E s).1 with
    | none => exact zOc_f hr (g1 hr)
    | some o => exact absurd (oT_in hi).1 hr
end ZLVL
