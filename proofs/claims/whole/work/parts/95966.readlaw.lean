/-! the LAW is read by the class -/
section ZXL
variable {B : Nat → Nat} {n : Nat}
/-- what is read well began well -/
def zbg (B : Nat → Nat) (n : Nat) (F : zLs → zLs) : Prop := ∀ s : zLs, (F s).1.1 = 0 → s.1.1 = 0 ∧ zbgn B n s.1.2 = true
theorem zlp_g {isop : Nat × Nat → Option Nat} (ho : ∀ p o, isop p = some o → p.1 = 0 ∧ tkk B n p.2 ≠ 256 ∧ 1 ≤ o ∧ o ≤ 8) {sub : zLs → zLs} {s : zLs} {g : Nat} (h : (zlp isop sub g s).1.1 = 0) : s.1.1 = 0 := by
  by_cases c : s.1.1 = 0
  · exact c
  · rw [zlp_f ho c g] at h
    exact absurd h c
theorem zbg_part {E : zLs → zLs} : zbg B n (zpart B n E) := fun s h => by
  unfold zpart at h
  by_cases c0 : s.1.1 ≠ 0
  · rw [if_pos c0] at h
    exact absurd h c0
  · rw [if_neg c0] at h
    have c0' : s.1.1 = 0 := by omega
    refine ⟨c0', ?_⟩
    unfold zbgn
    by_cases c1 : tkk B n s.1.2 = 40
    · exact decide_eq_true (Or.inr (Or.inr c1))
    · rw [if_neg c1] at h
      by_cases c2 : tkk B n s.1.2 = 257
      · exact decide_eq_true (Or.inr (Or.inl c2))
      · rw [if_neg c2] at h
        by_cases c3 : (zsn B n 0 9999 s.1).1 = 0
        · exact decide_eq_true (Or.inl (zsn_0 c3).2.1)
        · rw [if_neg c3] at h
          exact absurd h c3
theorem zbg_prod {E : zLs → zLs} : zbg B n (zprod B n E) := fun s h => zbg_part s (zlp_g (fun _ _ => oP_in) h)
theorem zbg_sum {E : zLs → zLs} : zbg B n (zsum B n E) := fun s h => zbg_prod s (zlp_g (fun _ _ => oS_in) h)
theorem zbg_test {E : zLs → zLs} : zbg B n (ztest B n E) := fun s h => by
  unfold ztest at h
  cases hi : zoT B n (zsum B n E s).1 with
  | none =>
    rw [hi] at h
    exact zbg_sum s h
  | some o => exact zbg_sum s (oT_in hi).1
theorem znt_b {s : Nat × Nat} {g : Nat} (h : (znt B n (g + 1) 0 s).2.1 = 0) (hb : zbgn B n (znt B n (g + 1) 0 s).2.2 = true) : s.1 = 0 ∧ zbgn B n s.2 = true := by
  obtain ⟨h1, -, -, -⟩ := znt_s (g + 1) 0 s h
  refine ⟨h1, ?_⟩
  by_cases c : zwd B n s = 16
  · rw [zwd_0 h1] at c
    exact decide_eq_true (Or.inr (Or.inl (tkw_k (by omega))))
  · rw [znt_f c] at hb
    exact hb
theorem zbg_not {E : zLs → zLs} : zbg B n (znot B n E) := fun s h => by
  unfold znot at h
  rw [zaddN_1] at h
  obtain ⟨h1, h2⟩ := zbg_test _ h
  exact znt_b h1 h2
theorem zbg_and {E : zLs → zLs} : zbg B n (zand B n E) := fun s h => zbg_not s (zlp_g (fun _ _ => oA_in) h)
/-- the steps in the draft's row -/
def zCrw (c : List (Nat × Nat)) (M : zM) : Prop := M 27 3 = nI c.length ∧ zxt (M 29) 0 c
theorem zxt_ap {row row' : Nat → Int32} {o : Nat × Nat} : ∀ (c : List (Nat × Nat)) (i : Nat), zxt row i c → (∀ j, i ≤ j → j < i + c.length → row' j = row j) → row' (i + c.length) = zcx o → zxt row' i (c ++ [o])
  | [], i, _, _, h => ⟨h, trivial⟩
  | s :: c, i, h1, h2, h3 => by
    obtain ⟨a, b⟩ := h1
    refine ⟨by rw [h2 i (Nat.le_refl _) (by simp only [List.length_cons]; omega)]; exact a, zxt_ap c (i + 1) b (fun j hj1 hj2 => h2 j (by omega) (by simp only [List.length_cons]; omega)) ?_⟩
    rw [← h3]
    congr 1
    simp only [List.length_cons]
    omega
def zsf (M : zM) : Prop := ∃ z, z ≤ 700 ∧ M 27 3 = nI z
def zLo (M M' : zM) : Prop := (∀ k, k < 3 → M' 1 k = M 1 k) ∧ (∀ k, k ≠ 3 → M' 27 k = M 27 k) ∧ zoff [1, 27, 29] M M'
theorem zLo_rfl {M : zM} : zLo M M := ⟨fun _ _ => rfl, fun _ _ => rfl, zoff_rfl⟩
theorem zLo_tr {M M' M'' : zM} (h : zLo M M') (h' : zLo M' M'') : zLo M M'' := ⟨fun k hk => (h'.1 k hk).trans (h.1 k hk), fun k hk => (h'.2.1 k hk).trans (h.2.1 k hk), zoff_trans h.2.2 h'.2.2⟩
theorem zLo_t {M M' : zM} (h : zTo M M') : zLo M M' := ⟨h.1, fun k _ => by rw [h.2 27 (by decide)], zoff_mono h.2 (by decide)⟩
theorem adp_x {M : zM} (hz : zsf M) (a : Int32) : ∃ M', F_X0_add 27 a M = zV M' ∧ (zsf M' ∧ (∀ c, zCrw c M → c.length < 700 → ∀ o, a = zcx o → zCrw (c ++ [o]) M') ∧ M' 1 = M 1 ∧ M' 2 = M 2 ∧ zLo M M') := by
  obtain ⟨z, z1, z2⟩ := hz
  unfold F_X0_add
  rw [zjo_eq, z2]
  by_cases hc : 700 ≤ z
  · rw [zit_t (show (700 : Int32) ≤ nI z from nI_le (a := 700) hc (by omega))]
    refine ⟨M, rfl, ⟨z, z1, z2⟩, fun c h1 h2 => ?_, rfl, rfl, zLo_rfl⟩
    have : z = c.length := (nI_eq (by omega) (by omega)).mp (by rw [← z2]; exact h1.1)
    omega
  · rw [zit_f (show ¬ (700 : Int32) ≤ nI z from (nI_ge (by omega) (by omega) : ¬ nI 700 ≤ nI z)), zin_k (k := z) (n := 700) (by omega) (by omega), zck_t, zst_eq, zst_eq, gr_27_1, zix_k (k := z) (by omega), show zup M 29 z a 27 3 = nI z from by rw [zup_ne (by decide), z2], nI_1]
    refine ⟨_, rfl, ⟨z + 1, by omega, by rw [zup_row, upd_eq]⟩, fun c h1 h2 o ha => ?_, by rw [zup_ne (by decide), zup_ne (by decide)], by rw [zup_ne (by decide), zup_ne (by decide)], fun k _ => by rw [zup_ne (by decide), zup_ne (by decide)], fun k hk => by rw [zup_row, upd_ne hk, zup_ne (by decide)], zoff_up (zoff_up zoff_rfl (by decide)) (by decide)⟩
    obtain ⟨h11, h12⟩ := h1
    have ez : z = c.length := (nI_eq (by omega) (by omega)).mp (by rw [← z2]; exact h11)
    refine ⟨by rw [zup_row, upd_eq, List.length_append, List.length_singleton, ez], zxt_ap c 0 h12 (fun j _ hj => ?_) ?_⟩
    · rw [zup_ne (by decide), zup_row, upd_ne (by omega)]
    · rw [zup_ne (by decide), zup_row, ez, show 0 + c.length = c.length from by omega, upd_eq, ha]
/-- the class in the midst of a LAW -/
def zXl (B : Nat → Nat) (n : Nat) (s : zLs) (M : zM) : Prop := zTpx B n s.1 M ∧ zsf M ∧ (s.1.1 = 0 → zCrw s.2 M ∧ s.2.length + 1 ≤ s.1.2 ∧ s.1.2 ≤ 700)
theorem zCrw_cg {c : List (Nat × Nat)} {M M' : zM} (h : zCrw c M) (h1 : M' 27 = M 27) (h2 : M' 29 = M 29) : zCrw c M' := by
  unfold zCrw at *
  rw [h1, h2]
  exact h
theorem zsf_cg {M M' : zM} (h : zsf M) (h1 : M' 27 = M 27) : zsf M' := by
  unfold zsf at *
  rw [h1]
  exact h
theorem zTpx_cg {p : Nat × Nat} {M M' : zM} (h : zTpx B n p M) (h1 : M' 1 = M 1) (h2 : M' 2 = M 2) : zTpx B n p M' := by
  unfold zTpx zTp at *
  rw [h1, h2]
  exact h
/-- a tape's work in the midst of it -/
theorem zXl_t {s : zLs} {p : Nat × Nat} {M M' : zM} (h : zXl B n s M) (t : zTpx B n p M') (o : zTo M M') (hp : p.1 = 0 → s.1.1 = 0 ∧ s.1.2 ≤ p.2 ∧ p.2 ≤ 700) : zXl B n (p, s.2) M' := by
  obtain ⟨h1, h2, h3⟩ := h
  refine ⟨t, zsf_cg h2 (o.2 27 (by decide)), fun z => ?_⟩
  obtain ⟨p1, p2, p3⟩ := hp z
  obtain ⟨a1, a2, a3⟩ := h3 p1
  exact ⟨zCrw_cg a1 (o.2 27 (by decide)) (o.2 29 (by decide)), by dsimp only; omega, p3⟩
theorem stl_x (ht : zTxt B n) {s : zLs} {M : zM} (h : zXl B n s M) (hk : s.1.1 = 0 → tkk B n s.1.2 ≠ 256) : ∃ M', F_X8_step 1 M = zV M' ∧ (zXl B n (zstp s.1, s.2) M' ∧ zLo M M') := by
  obtain ⟨M1, e1, t1, o1⟩ := st_x ht h.1
  refine ⟨M1, e1, zXl_t h t1 o1 (fun z => ?_), zLo_t o1⟩
  by_cases c : s.1.1 = 0
  · rw [zstp_0 c]
    have := (tk_lt (hk c)).1
    have := ht.1
    exact ⟨c, by dsimp only; omega, by dsimp only; omega⟩
  · rw [zstp_f c] at z
    exact absurd z c
theorem adl_x {s : zLs} {M : zM} (h : zXl B n s M) (hs : s.1.1 = 0 → s.2.length + 2 ≤ s.1.2) {a : Int32} {o : Nat × Nat} (ha : s.1.1 = 0 → a = zcx o) : ∃ M', F_X0_add 27 a M = zV M' ∧ (zXl B n (zadp o s) M' ∧ zLo M M') := by
  obtain ⟨h1, h2, h3⟩ := h
  obtain ⟨M1, e1, b1, b2, b3, b4, b5⟩ := adp_x h2 a
  refine ⟨M1, e1, ⟨by rw [zadd_1]; exact zTpx_cg h1 b3 b4, b1, fun z => ?_⟩, b5⟩
  rw [zadd_1] at z
  obtain ⟨a1, a2, a3⟩ := h3 z
  have := hs z
  rw [zadd_0 z]
  exact ⟨b2 s.2 a1 (by omega) o (ha z), by simp only [List.length_append, List.length_singleton]; omega, a3⟩
/-- what a reader does -/
def zRd (B : Nat → Nat) (n : Nat) (G : Prop) (X : zM → zO) (F : zLs → zLs) : Prop := ∀ (s : zLs) (M : zM), (s.1.1 = 0 → zbgn B n s.1.2 = true → G) → zXl B n s M → ∃ M', X M = zV M' ∧ (zXl B n (F s) M' ∧ zLo M M')
theorem kd_x {s : zLs} {M : zM} (ht : zTxt B n) (h : zXl B n s M) {c : Nat} (hc : c < 2 ^ 31) : (M 1 3 = nI c) = (zkn B n s.1 = c) := by
  have := zkn_lt (B := B) ht s.1
  rw [h.1.2.2.2.2.1]
  exact i_eq (by omega) hc
theorem va_x (ht : zTxt B n) {p : Nat × Nat} {M : zM} (h : zTpx B n p M) : F_X0_valueAt 1 M = zI (if zwd B n p ≤ 6 then nI (zwd B n p) else -1) M := by
  unfold F_X0_valueAt
  have w : ∀ k, k < 17 → F_X8_isWord 1 (zkws k) M = zI (if zwd B n p = k then 1 else 0) M := fun k hk => iw_x ht h hk
  rw [show F_X8_isWord 1 10 M = _ from w 0 (by omega), zbI_I]
  by_cases c0 : zwd B n p = 0
  · rw [if_pos c0, zit_f (by decide), if_pos (by omega), c0]
    rfl
  rw [if_neg c0, zit_t rfl, show F_X8_isWord 1 11 M = _ from w 1 (by omega), zbI_I]
  by_cases c1 : zwd B n p = 1
  · rw [if_pos c1, zit_f (by decide), if_pos (by omega), c1]
    rfl
  rw [if_neg c1, zit_t rfl, show F_X8_isWord 1 12 M = _ from w 2 (by omega), zbI_I]
  by_cases c2 : zwd B n p = 2
  · rw [if_pos c2, zit_f (by decide), if_pos (by omega), c2]
    rfl
  rw [if_neg c2, zit_t rfl, show F_X8_isWord 1 13 M = _ from w 3 (by omega), zbI_I]
  by_cases c3 : zwd B n p = 3
  · rw [if_pos c3, zit_f (by decide), if_pos (by omega), c3]
    rfl
  rw [if_neg c3, zit_t rfl, show F_X8_isWord 1 14 M = _ from w 4 (by omega), zbI_I]
  by_cases c4 : zwd B n p = 4
  · rw [if_pos c4, zit_f (by decide), if_pos (by omega), c4]
    rfl
  rw [if_neg c4, zit_t rfl, show F_X8_isWord 1 15 M = _ from w 5 (by omega), zbI_I]
  by_cases c5 : zwd B n p = 5
  · rw [if_pos c5, zit_f (by decide), if_pos (by omega), c5]
    rfl
  rw [if_neg c5, zit_t rfl, show F_X8_isWord 1 16 M = _ from w 6 (by omega), zbI_I, zjo_eq]
  by_cases c6 : zwd B n p = 6
  · rw [if_pos c6, zit_f (by decide), if_pos (by omega), c6]
    rfl
  rw [if_neg c6, zit_t rfl, if_neg (by omega)]
theorem zcx_1 : ∀ k, k < 7 → (-1 : Int32) - nI k = zcx (1, k) := by decide
theorem prt_x (ht : zTxt B n) {G : Prop} {E : zLs → zLs} {R : Nat → Nat → Int32 → zM → zO} {w : Int32} (hR : G → ∀ (s : zLs) (M : zM), zXl B n s M → ∃ M', R 27 1 (w + 1) M = zV M' ∧ (zXl B n (E s) M' ∧ zLo M M')) : zRd B n G (F_X0_readPart R 27 1 w) (zpart B n E) := fun s M hG h => by
  have hn := ht.1
  unfold F_X0_readPart zpart
  rw [zjo_eq]
  by_cases c0 : s.1.1 ≠ 0
  · have e3 : M 1 3 = 259 := by
      rw [h.1.2.2.2.2.1, zkn_f c0]
      rfl
    rw [if_pos c0, e3, zit_f (by decide), zit_f (by decide)]
    obtain ⟨M1, e1, t1, o1⟩ := tn_x ht h.1 (lo := 0) (hi := 9999) (by omega) (by omega)
    have ez : zstp (zsn B n 0 9999 s.1) = s.1 := by
      unfold zsn
      rw [if_pos c0, zstp_f c0]
    rw [ez] at t1
    rw [show F_X8_takeNumber 1 0 9999 M = _ from e1, zbI_I]
    have h1 : zXl B n s M1 := zXl_t h t1 o1 (fun z => absurd z c0)
    obtain ⟨M2, e2, x2, o2⟩ := adl_x h1 (fun z => absurd z c0) (o := (0, 0)) (fun z => absurd z c0)
    rw [e2, zbV_V]
    rw [zadd_f c0] at x2
    exact ⟨M2, rfl, x2, zLo_tr (zLo_t o1) o2⟩
  · have c0' : s.1.1 = 0 := by omega
    rw [if_neg c0]
    obtain ⟨b1, b2, b3⟩ := h.2.2 c0'
    have k40 : (M 1 3 = 40) = (tkk B n s.1.2 = 40) := by rw [← zkn_0 c0']; exact kd_x ht h (c := 40) (by omega)
    have k257 : (M 1 3 = 257) = (tkk B n s.1.2 = 257) := by rw [← zkn_0 c0']; exact kd_x ht h (c := 257) (by omega)
    by_cases c1 : tkk B n s.1.2 = 40
    · have g : G := hG c0' (decide_eq_true (Or.inr (Or.inr c1)))
      rw [zit_t (k40.mpr c1), if_pos c1]
      obtain ⟨M1, e1, x1, o1⟩ := stl_x ht h (fun _ => by omega)
      obtain ⟨M2, e2, x2, o2⟩ := hR g _ M1 x1
      obtain ⟨M3, e3, t3, o3⟩ := ts_x ht x2.1 (c := 41) (by omega)
      rw [e1, zbV_V, e2, zbV_V, show F_X8_takeSign 1 41 M2 = zV M3 from e3, zbV_V]
      refine ⟨M3, rfl, zXl_t x2 t3 o3 (fun z => ?_), zLo_tr o1 (zLo_tr o2 (zLo_t o3))⟩
      unfold ztsg at z ⊢
      by_cases c2 : zkn B n (E (zstp s.1, s.2)).1 = 41
      · rw [if_pos c2] at z ⊢
        have c3 : (E (zstp s.1, s.2)).1.1 = 0 := by
          by_cases c3 : (E (zstp s.1, s.2)).1.1 = 0
          · exact c3
          · rw [zkn_f c3] at c2; omega
        rw [zkn_0 c3] at c2
        have := (tk_lt (B := B) (n := n) (i := (E (zstp s.1, s.2)).1.2) (by omega)).1
        rw [zstp_0 c3]
        exact ⟨c3, by dsimp only; omega, by dsimp only; omega⟩
      · rw [if_neg c2] at z
        by_cases c3 : (E (zstp s.1, s.2)).1.1 = 0
        · rw [zrfs_0 c3] at z; exact absurd z (by simp)
        · rw [zrfs_f c3] at z; exact absurd z c3
    · rw [zit_f (fun z => c1 (k40.mp z)), if_neg c1]
      by_cases c2 : tkk B n s.1.2 = 257
      · have hlt := (tk_lt (B := B) (n := n) (i := s.1.2) (by omega)).1
        rw [zit_t (k257.mpr c2), if_pos c2, va_x ht h.1, zbI_I, zjo_eq, zwd_0 c0']
        by_cases c3 : tkw B n s.1.2 ≤ 6
        · rw [if_pos c3, if_pos c3, zit_f (nI_n1 (by omega))]
          try dsimp only
          obtain ⟨M1, e1, d1, d2, d3, d4, d5⟩ := adp_x h.2.1 ((-1) - nI (tkw B n s.1.2))
          have t1 := zTpx_cg h.1 d3 d4
          obtain ⟨M2, e2, t2, o2⟩ := st_x ht t1
          rw [e1, zbV_V, e2, zbV_V]
          refine ⟨M2, rfl, ?_, zLo_tr d5 (zLo_t o2)⟩
          rw [zadd_0 (by rw [zstp_0 c0'])]
          refine ⟨t2, zsf_cg d1 (o2.2 27 (by decide)), fun _ => ⟨zCrw_cg (d2 s.2 b1 (by omega) (1, tkw B n s.1.2) (zcx_1 _ (by omega))) (o2.2 27 (by decide)) (o2.2 29 (by decide)), ?_, ?_⟩⟩
          · rw [zstp_0 c0']
            simp only [List.length_append, List.length_singleton]
            omega
          · rw [zstp_0 c0']
            dsimp only
            omega
        · rw [if_neg c3, if_neg c3, zit_t rfl]
          try dsimp only
          obtain ⟨M1, e1, t1, o1⟩ := rf_x h.1 (w := 3) (by omega) (by omega)
          rw [show F_X8_refuse 1 3 M = zV M1 from e1, zbV_V]
          have hf : (zrfs 3 s.1).1 ≠ 0 := by rw [zrfs_0 c0']; simp
          have x1 : zXl B n (zrfs 3 s.1, s.2) M1 := zXl_t h t1 o1 (fun z => absurd z hf)
          obtain ⟨M2, e2, x2, o2⟩ := adl_x x1 (fun z => absurd z hf) (a := (-1) - (-1)) (o := (0, 0)) (fun z => absurd z hf)
          obtain ⟨M3, e3, x3, o3⟩ := stl_x ht x2 (fun z => by rw [zadd_1] at z; exact absurd z hf)
          try dsimp only
          rw [e2, zbV_V, e3, zbV_V]
          refine ⟨M3, rfl, ?_, zLo_tr (zLo_t o1) (zLo_tr o2 o3)⟩
          rw [zadd_f (show ((zrfs 3 s.1, s.2) : zLs).1.1 ≠ 0 from hf)] at x3
          rw [show zstp ((zrfs 3 s.1, s.2) : zLs).1 = zrfs 3 s.1 from zstp_f hf] at x3
          exact x3
      · rw [zit_f (fun z => c2 (k257.mp z)), if_neg c2]
        obtain ⟨M1, e1, t1, o1⟩ := tn_x ht h.1 (lo := 0) (hi := 9999) (by omega) (by omega)
        rw [show F_X8_takeNumber 1 0 9999 M = _ from e1, zbI_I]
        by_cases c3 : (zsn B n 0 9999 s.1).1 = 0
        · obtain ⟨z1, z2, z3, z4, z5, z6⟩ := zsn_0 c3
          have hlt := (tk_lt (B := B) (n := n) (i := s.1.2) (by omega)).1
          rw [if_pos c3, if_pos c3]
          rw [z6] at t1
          have x1 : zXl B n (zstp s.1, s.2) M1 := zXl_t h t1 o1 (fun _ => by rw [zstp_0 c0']; exact ⟨c0', by dsimp only; omega, by dsimp only; omega⟩)
          obtain ⟨M2, e2, x2, o2⟩ := adl_x x1 (fun _ => by rw [zstp_0 c0']; dsimp only; omega) (a := nI (tkv B n s.1.2)) (o := (0, tkv B n s.1.2)) (fun _ => rfl)
          rw [e2, zbV_V]
          exact ⟨M2, rfl, x2, zLo_tr (zLo_t o1) o2⟩
        · rw [if_neg c3, if_neg c3]
          rw [zstp_f c3] at t1
          have x1 : zXl B n (zsn B n 0 9999 s.1, s.2) M1 := zXl_t h t1 o1 (fun z => absurd z c3)
          obtain ⟨M2, e2, x2, o2⟩ := adl_x x1 (fun z => absurd z c3) (a := nI 0) (o := (0, 0)) (fun z => absurd z c3)
          rw [e2, zbV_V]
          rw [zadd_f (show ((zsn B n 0 9999 s.1, s.2) : zLs).1.1 ≠ 0 from c3)] at x2
          exact ⟨M2, rfl, x2, zLo_tr (zLo_t o1) o2⟩
theorem prl_x (ht : zTxt B n) {G : Prop} {E : zLs → zLs} {R : Nat → Nat → Int32 → zM → zO} {w : Int32} {k : Nat} (hs : zRd B n G (F_X0_readPart R 27 1 w) (zpart B n E)) (hw : zgw n (zpart B n E) k) (K : zM → zO) : ∀ (d : Nat) (s : zLs) (c f : Nat) (M : zM), d < f → (s.1.1 = 0 → 701 ≤ d + s.1.2 ∧ c ≤ s.1.2 ∧ G) → zXl B n s M → ∃ M', F_X0_readProduct_L8 R 27 1 w K f (nI c) M = K M' ∧ (zXl B n (zlp (zoP B n) (zpart B n E) d s) M' ∧ zLo M M') := by
  have hn := ht.1
  have ex : ∀ (s : zLs) (f : Nat) (x : Int32) (M : zM), zXl B n s M → zoP B n s.1 = none → F_X0_readProduct_L8 R 27 1 w K (f + 1) x M = K M := fun s f x M h hi => by
    have ka : (M 1 3 = 42) = (zkn B n s.1 = 42) := kd_x ht h (c := 42) (by omega)
    have kb : (M 1 3 = 47) = (zkn B n s.1 = 47) := kd_x ht h (c := 47) (by omega)
    unfold zoP at hi
    have na : zkn B n s.1 ≠ 42 := fun z => by rw [if_pos z] at hi; cases hi
    have nb : zkn B n s.1 ≠ 47 := fun z => by rw [if_neg na, if_pos z] at hi; cases hi
    rw [F_X0_readProduct_L8]
    by_cases hx : (700 : Int32) ≤ x
    · rw [zit_t hx]
    · rw [zit_f hx, zjo_eq, zit_f (fun z => na (ka.mp z)), zit_f (fun z => nb (kb.mp z))]
  intro d
  induction d with
  | zero =>
    intro s c f M hf hc h
    obtain ⟨f, rfl⟩ : ∃ g, f = g + 1 := ⟨f - 1, by omega⟩
    have hi : zoP B n s.1 = none := by
      cases hi : zoP B n s.1 with
      | none => rfl
      | some o =>
        obtain ⟨o1, o2, -, -⟩ := oP_in hi
        have := (tk_lt o2).1
        have := (hc o1).1
        omega
    rw [ex s f _ M h hi]
    exact ⟨M, rfl, h, zLo_rfl⟩
  | succ d ih =>
    intro s c f M hf hc h
    obtain ⟨f, rfl⟩ : ∃ g, f = g + 1 := ⟨f - 1, by omega⟩
    rw [zlp]
    cases hi : zoP B n s.1 with
    | none =>
      rw [ex s f _ M h hi]
      exact ⟨M, rfl, h, zLo_rfl⟩
    | some o =>
      dsimp only
      obtain ⟨o1, o2, o3, o4⟩ := oP_in hi
      have hlt := (tk_lt o2).1
      obtain ⟨g1, g2, g3⟩ := hc o1
      obtain ⟨b1, b2, b3⟩ := h.2.2 o1
      have ka : (M 1 3 = 42) = (zkn B n s.1 = 42) := kd_x ht h (c := 42) (by omega)
      have kb : (M 1 3 = 47) = (zkn B n s.1 = 47) := kd_x ht h (c := 47) (by omega)
      obtain ⟨M1, e1, x1, p1⟩ := stl_x ht h (fun _ => o2)
      obtain ⟨M2, e2, x2, p2⟩ := hs _ M1 (fun _ _ => g3) x1
      have e12 : (zstp s.1).2 = s.1.2 + 1 := by rw [zstp_0 o1]
      have slack : (zpart B n E (zstp s.1, s.2)).1.1 = 0 → (zpart B n E (zstp s.1, s.2)).2.length + 2 ≤ (zpart B n E (zstp s.1, s.2)).1.2 ∧ s.1.2 + 1 < (zpart B n E (zstp s.1, s.2)).1.2 := fun z => by
        obtain ⟨-, w2, -, c', w4, w5, -⟩ := hw _ z
        dsimp only at w2 w4 w5
        rw [w4, List.length_append]
        omega
      obtain ⟨M3, e3, x3, p3⟩ := adl_x x2 (fun z => (slack z).1) (a := zcx (2, o)) (o := (2, o)) (fun _ => rfl)
      have hcode : F_X0_readProduct_L8 R 27 1 w K (f + 1) (nI c) M = F_X0_readProduct_L8 R 27 1 w K f (nI (c + 1)) M3 := by
        rw [F_X0_readProduct_L8, zit_f (show ¬ (700 : Int32) ≤ nI c from (nI_ge (by omega) (by omega) : ¬ nI 700 ≤ nI c)), zjo_eq]
        have body : ∀ v, v = zcx (2, o) → zbV (F_X8_step 1 M) (fun M4 => zbV (F_X0_readPart R 27 1 w M4) (fun M5 => zbV (F_X0_add 27 v M5) (fun M6 => F_X0_readProduct_L8 R 27 1 w K f (nI c + 1) M6))) = F_X0_readProduct_L8 R 27 1 w K f (nI (c + 1)) M3 := fun v hv => by
          rw [e1, zbV_V, e2, zbV_V, hv, e3, zbV_V, nI_1]
        unfold zoP at hi
        by_cases ca : zkn B n s.1 = 42
        · rw [if_pos ca] at hi
          rw [zit_t (ka.mpr ca)]
          try dsimp only
          rw [zjo_eq, zit_t (ka.mpr ca)]
          exact body (-13) (by rw [← Option.some.inj hi]; decide)
        · rw [if_neg ca] at hi
          by_cases cb : zkn B n s.1 = 47
          · rw [if_pos cb] at hi
            rw [zit_f (fun z => ca (ka.mp z)), zit_t (kb.mpr cb)]
            try dsimp only
            rw [zjo_eq, zit_f (fun z => ca (ka.mp z))]
            exact body (-14) (by rw [← Option.some.inj hi]; decide)
          · rw [if_neg cb] at hi
            cases hi
      rw [hcode]
      obtain ⟨M4, e4, x4, p4⟩ := ih (zadp (2, o) (zpart B n E (zstp s.1, s.2))) (c + 1) f M3 (by omega) (fun z => by
        rw [zadd_1] at z ⊢
        have := (slack z).2
        exact ⟨by omega, by omega, g3⟩) x3
      exact ⟨M4, e4, x4, zLo_tr p1 (zLo_tr p2 (zLo_tr p3 p4))⟩
theorem pr_x (ht : zTxt B n) {G : Prop} {E : zLs → zLs} {R : Nat → Nat → Int32 → zM → zO} {w : Int32} {k : Nat} (hs : zRd B n G (F_X0_readPart R 27 1 w) (zpart B n E)) (hw : zgw n (zpart B n E) k) (hb : zbg B n (zpart B n E)) : zRd B n G (F_X0_readProduct R 27 1 w) (zprod B n E) := fun s M hG h => by
  obtain ⟨M1, e1, x1, o1⟩ := hs s M hG h
  unfold F_X0_readProduct zprod
  obtain ⟨M2, e2, x2, o2⟩ := prl_x ht hs hw (fun (M7 : zM) => zV M7) 701 (zpart B n E s) 0 zN M1 (zN_ge (by omega)) (fun z => ⟨by omega, by omega, hG (hb s z).1 (hb s z).2⟩) x1
  rw [e1, zbV_V]
  exact ⟨M2, e2, x2, zLo_tr o1 o2⟩
theorem sul_x (ht : zTxt B n) {G : Prop} {E : zLs → zLs} {R : Nat → Nat → Int32 → zM → zO} {w : Int32} {k : Nat} (hs : zRd B n G (F_X0_readProduct R 27 1 w) (zprod B n E)) (hw : zgw n (zprod B n E) k) (K : zM → zO) : ∀ (d : Nat) (s : zLs) (c f : Nat) (M : zM), d < f → (s.1.1 = 0 → 701 ≤ d + s.1.2 ∧ c ≤ s.1.2 ∧ G) → zXl B n s M → ∃ M', F_X0_readSum_L8 R 27 1 w K f (nI c) M = K M' ∧ (zXl B n (zlp (zoS B n) (zprod B n E) d s) M' ∧ zLo M M') := by
  have hn := ht.1
  have ex : ∀ (s : zLs) (f : Nat) (x : Int32) (M : zM), zXl B n s M → zoS B n s.1 = none → F_X0_readSum_L8 R 27 1 w K (f + 1) x M = K M := fun s f x M h hi => by
    have ka : (M 1 3 = 43) = (zkn B n s.1 = 43) := kd_x ht h (c := 43) (by omega)
    have kb : (M 1 3 = 45) = (zkn B n s.1 = 45) := kd_x ht h (c := 45) (by omega)
    unfold zoS at hi
    have na : zkn B n s.1 ≠ 43 := fun z => by rw [if_pos z] at hi; cases hi
    have nb : zkn B n s.1 ≠ 45 := fun z => by rw [if_neg na, if_pos z] at hi; cases hi
    rw [F_X0_readSum_L8]
    by_cases hx : (700 : Int32) ≤ x
    · rw [zit_t hx]
    · rw [zit_f hx, zjo_eq, zit_f (fun z => na (ka.mp z)), zit_f (fun z => nb (kb.mp z))]
  intro d
  induction d with
  | zero =>
    intro s c f M hf hc h
    obtain ⟨f, rfl⟩ : ∃ g, f = g + 1 := ⟨f - 1, by omega⟩
    have hi : zoS B n s.1 = none := by
      cases hi : zoS B n s.1 with
      | none => rfl
      | some o =>
        obtain ⟨o1, o2, -, -⟩ := oS_in hi
        have := (tk_lt o2).1
        have := (hc o1).1
        omega
    rw [ex s f _ M h hi]
    exact ⟨M, rfl, h, zLo_rfl⟩
  | succ d ih =>
    intro s c f M hf hc h
    obtain ⟨f, rfl⟩ : ∃ g, f = g + 1 := ⟨f - 1, by omega⟩
    rw [zlp]
    cases hi : zoS B n s.1 with
    | none =>
      rw [ex s f _ M h hi]
      exact ⟨M, rfl, h, zLo_rfl⟩
    | some o =>
      dsimp only
      obtain ⟨o1, o2, o3, o4⟩ := oS_in hi
      have hlt := (tk_lt o2).1
      obtain ⟨g1, g2, g3⟩ := hc o1
      obtain ⟨b1, b2, b3⟩ := h.2.2 o1
      have ka : (M 1 3 = 43) = (zkn B n s.1 = 43) := kd_x ht h (c := 43) (by omega)
      have kb : (M 1 3 = 45) = (zkn B n s.1 = 45) := kd_x ht h (c := 45) (by omega)
      obtain ⟨M1, e1, x1, p1⟩ := stl_x ht h (fun _ => o2)
      obtain ⟨M2, e2, x2, p2⟩ := hs _ M1 (fun _ _ => g3) x1
      have e12 : (zstp s.1).2 = s.1.2 + 1 := by rw [zstp_0 o1]
      have slack : (zprod B n E (zstp s.1, s.2)).1.1 = 0 → (zprod B n E (zstp s.1, s.2)).2.length + 2 ≤ (zprod B n E (zstp s.1, s.2)).1.2 ∧ s.1.2 + 1 < (zprod B n E (zstp s.1, s.2)).1.2 := fun z => by
        obtain ⟨-, w2, -, c', w4, w5, -⟩ := hw _ z
        dsimp only at w2 w4 w5
        rw [w4, List.length_append]
        omega
      obtain ⟨M3, e3, x3, p3⟩ := adl_x x2 (fun z => (slack z).1) (a := zcx (2, o)) (o := (2, o)) (fun _ => rfl)
      have hcode : F_X0_readSum_L8 R 27 1 w K (f + 1) (nI c) M = F_X0_readSum_L8 R 27 1 w K f (nI (c + 1)) M3 := by
        rw [F_X0_readSum_L8, zit_f (show ¬ (700 : Int32) ≤ nI c from (nI_ge (by omega) (by omega) : ¬ nI 700 ≤ nI c)), zjo_eq]
        have body : ∀ v, v = zcx (2, o) → zbV (F_X8_step 1 M) (fun M4 => zbV (F_X0_readProduct R 27 1 w M4) (fun M5 => zbV (F_X0_add 27 v M5) (fun M6 => F_X0_readSum_L8 R 27 1 w K f (nI c + 1) M6))) = F_X0_readSum_L8 R 27 1 w K f (nI (c + 1)) M3 := fun v hv => by
          rw [e1, zbV_V, e2, zbV_V, hv, e3, zbV_V, nI_1]
        unfold zoS at hi
        by_cases ca : zkn B n s.1 = 43
        · rw [if_pos ca] at hi
          rw [zit_t (ka.mpr ca)]
          try dsimp only
          rw [zjo_eq, zit_t (ka.mpr ca)]
          exact body (-11) (by rw [← Option.some.inj hi]; decide)
        · rw [if_neg ca] at hi
          by_cases cb : zkn B n s.1 = 45
          · rw [if_pos cb] at hi
            rw [zit_f (fun z => ca (ka.mp z)), zit_t (kb.mpr cb)]
            try dsimp only
            rw [zjo_eq, zit_f (fun z => ca (ka.mp z))]
            exact body (-12) (by rw [← Option.some.inj hi]; decide)
          · rw [if_neg cb] at hi
            cases hi
      rw [hcode]
      obtain ⟨M4, e4, x4, p4⟩ := ih (zadp (2, o) (zprod B n E (zstp s.1, s.2))) (c + 1) f M3 (by omega) (fun z => by
        rw [zadd_1] at z ⊢
        have := (slack z).2
        exact ⟨by omega, by omega, g3⟩) x3
      exact ⟨M4, e4, x4, zLo_tr p1 (zLo_tr p2 (zLo_tr p3 p4))⟩
theorem su_x (ht : zTxt B n) {G : Prop} {E : zLs → zLs} {R : Nat → Nat → Int32 → zM → zO} {w : Int32} {k : Nat} (hs : zRd B n G (F_X0_readProduct R 27 1 w) (zprod B n E)) (hw : zgw n (zprod B n E) k) (hb : zbg B n (zprod B n E)) : zRd B n G (F_X0_readSum R 27 1 w) (zsum B n E) := fun s M hG h => by
  obtain ⟨M1, e1, x1, o1⟩ := hs s M hG h
  unfold F_X0_readSum zsum
  obtain ⟨M2, e2, x2, o2⟩ := sul_x ht hs hw (fun (M7 : zM) => zV M7) 701 (zprod B n E s) 0 zN M1 (zN_ge (by omega)) (fun z => ⟨by omega, by omega, hG (hb s z).1 (hb s z).2⟩) x1
  rw [e1, zbV_V]
  exact ⟨M2, e2, x2, zLo_tr o1 o2⟩
theorem te_x (ht : zTxt B n) {G : Prop} {E : zLs → zLs} {R : Nat → Nat → Int32 → zM → zO} {w : Int32} {k : Nat} (hs : zRd B n G (F_X0_readSum R 27 1 w) (zsum B n E)) (hw : zgw n (zsum B n E) k) (hb : zbg B n (zsum B n E)) : zRd B n G (F_X0_readTest R 27 1 w) (ztest B n E) := fun s M hG h => by
  obtain ⟨M1, e1, x1, p1⟩ := hs s M hG h
  have ka : (M1 1 3 = 60) = (zkn B n (zsum B n E s).1 = 60) := kd_x ht x1 (c := 60) (by omega)
  have kb : (M1 1 3 = 61) = (zkn B n (zsum B n E s).1 = 61) := kd_x ht x1 (c := 61) (by omega)
  unfold F_X0_readTest ztest
  rw [e1, zbV_V, zjo_eq]
  cases hi : zoT B n (zsum B n E s).1 with
  | none =>
    have hi' := hi
    unfold zoT at hi'
    have na : zkn B n (zsum B n E s).1 ≠ 60 := fun z => by rw [if_pos z] at hi'; cases hi'
    have nb : zkn B n (zsum B n E s).1 ≠ 61 := fun z => by rw [if_neg na, if_pos z] at hi'; cases hi'
    rw [zit_f (fun z => na (ka.mp z))]
    try dsimp only
    rw [zjo_eq, zjo_eq, zit_f (fun z => na (ka.mp z)), zit_f (fun z => nb (kb.mp z))]
    exact ⟨M1, rfl, x1, p1⟩
  | some o =>
    obtain ⟨o1, o2, o3, o4⟩ := oT_in hi
    obtain ⟨g1, g2⟩ := hb s o1
    obtain ⟨b1, b2, b3⟩ := x1.2.2 o1
    obtain ⟨M2, e2, x2, p2⟩ := stl_x ht x1 (fun _ => o2)
    obtain ⟨M3, e3, x3, p3⟩ := hs _ M2 (fun _ _ => hG g1 g2) x2
    have e12 : (zstp (zsum B n E s).1).2 = (zsum B n E s).1.2 + 1 := by rw [zstp_0 o1]
    obtain ⟨M4, e4, x4, p4⟩ := adl_x x3 (fun z => by
      obtain ⟨-, w2, -, c', w4, w5, -⟩ := hw _ z
      dsimp only at w2 w4 w5
      rw [w4, List.length_append]
      omega) (a := zcx (2, o)) (o := (2, o)) (fun _ => rfl)
    have body : ∀ v, v = zcx (2, o) → zbV (F_X8_step 1 M1) (fun M4 => zbV (F_X0_readSum R 27 1 w M4) (fun M5 => zbV (F_X0_add 27 v M5) (fun M6 => zV M6))) = zV M4 := fun v hv => by
      rw [e2, zbV_V, e3, zbV_V, hv, e4, zbV_V]
    refine ⟨M4, ?_, x4, zLo_tr p1 (zLo_tr p2 (zLo_tr p3 p4))⟩
    unfold zoT at hi
    by_cases ca : zkn B n (zsum B n E s).1 = 60
    · rw [if_pos ca] at hi
      rw [zit_t (ka.mpr ca)]
      try dsimp only
      rw [zjo_eq, zjo_eq, zit_t (ka.mpr ca)]
      exact body (-15) (by rw [← Option.some.inj hi]; decide)
    · rw [if_neg ca] at hi
      by_cases cb : zkn B n (zsum B n E s).1 = 61
      · rw [if_pos cb] at hi
        rw [zit_f (fun z => ca (ka.mp z))]
        try dsimp only
        rw [zjo_eq, zjo_eq, zit_f (fun z => ca (ka.mp z)), zit_t (kb.mpr cb)]
        exact body (-16) (by rw [← Option.some.inj hi]; decide)
      · rw [if_neg cb] at hi
        cases hi
theorem ntl_x (ht : zTxt B n) {R : Nat → Nat → Int32 → zM → zO} {w : Int32} (K : Int32 → zM → zO) : ∀ (d : Nat) (s : zLs) (c f : Nat) (M : zM), d + 1 < f → c ≤ 6 → (s.1.1 = 0 → 701 ≤ d + s.1.2) → zXl B n s M → ∃ M', F_X0_readNot_L5 R 27 1 w K f (nI c) (nI c) M = K (nI (znt B n d c s.1).1) M' ∧ (zXl B n ((znt B n d c s.1).2, s.2) M' ∧ zLo M M') := by
  have hn := ht.1
  have ex : ∀ (s : zLs) (f c : Nat) (M : zM), c ≤ 7 → zXl B n s M → zwd B n s.1 ≠ 16 → F_X0_readNot_L5 R 27 1 w K (f + 1) (nI c) (nI c) M = K (nI c) M := fun s f c M hc h hi => by
    rw [F_X0_readNot_L5, zit_f (show ¬ (700 : Int32) ≤ nI c from (nI_ge (by omega) (by omega) : ¬ nI 700 ≤ nI c)), show F_X8_isWord 1 9 M = _ from iw_x ht h.1 (k := 16) (by omega), zbI_I, if_neg hi, zit_t rfl]
  intro d
  induction d with
  | zero =>
    intro s c f M hf hc hd h
    obtain ⟨f, rfl⟩ : ∃ g, f = g + 1 := ⟨f - 1, by omega⟩
    have hi : zwd B n s.1 ≠ 16 := fun z => by
      have c0 : s.1.1 = 0 := by
        by_cases c0 : s.1.1 = 0
        · exact c0
        · rw [zwd_f c0] at z; omega
      rw [zwd_0 c0] at z
      have := tkw_k (B := B) (n := n) (i := s.1.2) (by omega)
      have := (tk_lt (B := B) (n := n) (i := s.1.2) (by omega)).1
      have := hd c0
      omega
    rw [ex s f c M (by omega) h hi]
    exact ⟨M, rfl, h, zLo_rfl⟩
  | succ d ih =>
    intro s c f M hf hc hd h
    obtain ⟨f, rfl⟩ : ∃ g, f = g + 1 := ⟨f - 1, by omega⟩
    rw [znt]
    by_cases hi : zwd B n s.1 = 16
    · have c0 : s.1.1 = 0 := by
        by_cases c0 : s.1.1 = 0
        · exact c0
        · rw [zwd_f c0] at hi; omega
      have hk := hi
      rw [zwd_0 c0] at hk
      have hk := tkw_k (B := B) (n := n) (i := s.1.2) (by omega)
      rw [if_pos hi, F_X0_readNot_L5, zit_f (show ¬ (700 : Int32) ≤ nI c from (nI_ge (by omega) (by omega) : ¬ nI 700 ≤ nI c)), show F_X8_isWord 1 9 M = _ from iw_x ht h.1 (k := 16) (by omega), zbI_I, if_pos hi, zit_f (by decide), zjo_eq]
      by_cases c6 : c < 6
      · obtain ⟨M1, e1, x1, p1⟩ := stl_x ht h (fun _ => by omega)
        rw [if_pos c6, zit_t (show nI c < (6 : Int32) from nI_lt (b := 6) c6 (by omega))]
        try dsimp only
        rw [e1, zbV_V, nI_1]
        obtain ⟨M2, e2, x2, p2⟩ := ih (zstp s.1, s.2) (c + 1) f M1 (by omega) (by omega) (fun _ => by
          have := hd c0
          rw [zstp_0 c0]
          dsimp only
          omega) x1
        exact ⟨M2, e2, x2, zLo_tr p1 p2⟩
      · rw [if_neg c6, zit_f (show ¬ nI c < (6 : Int32) from (nI_nlt (by omega) (by omega) : ¬ nI c < nI 6))]
        obtain ⟨M1, e1, t1, o1⟩ := rf_x h.1 (w := 2) (by omega) (by omega)
        have hf2 : (zrfs 2 s.1).1 ≠ 0 := by rw [zrfs_0 c0]; simp
        have x1 : zXl B n (zrfs 2 s.1, s.2) M1 := zXl_t h t1 o1 (fun z => absurd z hf2)
        obtain ⟨M2, e2, x2, p2⟩ := stl_x ht x1 (fun z => absurd z hf2)
        rw [show zstp ((zrfs 2 s.1, s.2) : zLs).1 = zrfs 2 s.1 from zstp_f hf2] at x2
        obtain ⟨f, rfl⟩ : ∃ g, f = g + 1 := ⟨f - 1, by omega⟩
        rw [show F_X8_refuse 1 2 M = zV M1 from e1, zbV_V]
        try dsimp only
        rw [e2, zbV_V, nI_1, ex (zrfs 2 s.1, s.2) f (c + 1) M2 (by omega) x2 (by rw [zwd_f hf2]; omega)]
        exact ⟨M2, rfl, x2, zLo_tr (zLo_t o1) p2⟩
    · rw [if_neg hi, ex s f c M (by omega) h hi]
      exact ⟨M, rfl, h, zLo_rfl⟩
theorem adn_x {R : Nat → Nat → Int32 → zM → zO} (K : zM → zO) {k : Nat} (hk : k ≤ 7) : ∀ (d c f : Nat) (s : zLs) (M : zM), c + d = k → d < f → (s.1.1 = 0 → s.2.length + d + 1 ≤ s.1.2) → zXl B n s M → ∃ M', F_X0_readNot_L55 R 27 (nI k) K f (nI c) M = K M' ∧ (zXl B n (zaddN d s) M' ∧ zLo M M') := by
  intro d
  induction d with
  | zero =>
    intro c f s M hc hf hs h
    obtain ⟨f, rfl⟩ : ∃ g, f = g + 1 := ⟨f - 1, by omega⟩
    rw [F_X0_readNot_L55, zit_t (nI_le (by omega) (by omega))]
    exact ⟨M, rfl, h, zLo_rfl⟩
  | succ d ih =>
    intro c f s M hc hf hs h
    obtain ⟨f, rfl⟩ : ∃ g, f = g + 1 := ⟨f - 1, by omega⟩
    rw [F_X0_readNot_L55, zit_f (nI_ge (by omega) (by omega))]
    obtain ⟨M1, e1, x1, p1⟩ := adl_x h (fun z => by have := hs z; omega) (a := -10) (o := (2, 0)) (fun _ => by decide)
    rw [e1, zbV_V, nI_1]
    obtain ⟨M2, e2, x2, p2⟩ := ih (c + 1) f (zadp (2, 0) s) M1 (by omega) (by omega) (fun z => by
      rw [zadd_1] at z ⊢
      have := hs z
      rw [zadd_0 z]
      simp only [List.length_append, List.length_singleton]
      omega) x1
    exact ⟨M2, e2, x2, zLo_tr p1 p2⟩
theorem znt_7 : ∀ (d c : Nat) (p : Nat × Nat), c ≤ 6 → (znt B n d c p).1 ≤ 7
  | 0, c, p, h => by
    show c ≤ 7
    omega
  | d + 1, c, p, h => by
    rw [znt]
    split
    · split
      · exact znt_7 d (c + 1) _ (by omega)
      · show c + 1 ≤ 7
        omega
    · show c ≤ 7
      omega
theorem no_x (ht : zTxt B n) {G : Prop} {E : zLs → zLs} {R : Nat → Nat → Int32 → zM → zO} {w : Int32} {k : Nat} (hs : zRd B n G (F_X0_readTest R 27 1 w) (ztest B n E)) (hw : zgw n (ztest B n E) k) : zRd B n G (F_X0_readNot R 27 1 w) (znot B n E) := fun s M hG h => by
  unfold F_X0_readNot znot
  obtain ⟨M1, e1, x1, p1⟩ := ntl_x ht (R := R) (w := w) (fun (y1 : Int32) (M5 : zM) => zbV (F_X0_readTest R 27 1 w M5) (fun M6 => F_X0_readNot_L55 R 27 y1 (fun (M8 : zM) => zV M8) zN 0 M6)) 701 s 0 zN M (zN_ge (by omega)) (by omega) (fun _ => by omega) h
  have h7 := znt_7 (B := B) (n := n) 701 0 s.1 (by omega)
  rw [show F_X0_readNot_L5 R 27 1 w (fun (y1 : Int32) (M5 : zM) => zbV (F_X0_readTest R 27 1 w M5) (fun M6 => F_X0_readNot_L55 R 27 y1 (fun (M8 : zM) => zV M8) zN 0 M6)) zN 0 0 M = _ from e1]
  obtain ⟨M2, e2, x2, p2⟩ := hs _ M1 (fun z1 z2 => by
    obtain ⟨g1, g2⟩ := znt_b z1 z2
    exact hG g1 g2) x1
  rw [e2, zbV_V]
  obtain ⟨M3, e3, x3, p3⟩ := adn_x (R := R) (fun (M8 : zM) => zV M8) h7 (znt B n 701 0 s.1).1 0 zN _ M2 (by omega) (zN_ge (by omega)) (fun z => by
    obtain ⟨v1, v2, v3, c', v4, v5, v6⟩ := hw _ z
    dsimp only at v1 v2 v4 v5
    obtain ⟨u1, u2, u3, u4⟩ := znt_s 701 0 s.1 v1
    obtain ⟨b1, b2, b3⟩ := h.2.2 u1
    rw [v4, List.length_append]
    omega) x2
  exact ⟨M3, e3, x3, zLo_tr p1 (zLo_tr p2 p3)⟩
theorem anl_x (ht : zTxt B n) {G : Prop} {E : zLs → zLs} {R : Nat → Nat → Int32 → zM → zO} {w : Int32} {k : Nat} (hs : zRd B n G (F_X0_readNot R 27 1 w) (znot B n E)) (hw : zgw n (znot B n E) k) (K : zM → zO) : ∀ (d : Nat) (s : zLs) (c f : Nat) (M : zM), d < f → (s.1.1 = 0 → 701 ≤ d + s.1.2 ∧ c ≤ s.1.2 ∧ G) → zXl B n s M → ∃ M', F_X0_readAnd_L8 R 27 1 w K f (nI c) M = K M' ∧ (zXl B n (zlp (zoA B n) (znot B n E) d s) M' ∧ zLo M M') := by
  have hn := ht.1
  have ex : ∀ (s : zLs) (f : Nat) (x : Int32) (M : zM), zXl B n s M → zoA B n s.1 = none → F_X0_readAnd_L8 R 27 1 w K (f + 1) x M = K M := fun s f x M h hi => by
    unfold zoA at hi
    have na : zwd B n s.1 ≠ 14 := fun z => by rw [if_pos z] at hi; cases hi
    rw [F_X0_readAnd_L8]
    by_cases hx : (700 : Int32) ≤ x
    · rw [zit_t hx]
    · rw [zit_f hx, show F_X8_isWord 1 17 M = _ from iw_x ht h.1 (k := 14) (by omega), zbI_I, if_neg na, zit_t rfl]
  intro d
  induction d with
  | zero =>
    intro s c f M hf hc h
    obtain ⟨f, rfl⟩ : ∃ g, f = g + 1 := ⟨f - 1, by omega⟩
    have hi : zoA B n s.1 = none := by
      cases hi : zoA B n s.1 with
      | none => rfl
      | some o =>
        obtain ⟨o1, o2, -, -⟩ := oA_in hi
        have := (tk_lt o2).1
        have := (hc o1).1
        omega
    rw [ex s f _ M h hi]
    exact ⟨M, rfl, h, zLo_rfl⟩
  | succ d ih =>
    intro s c f M hf hc h
    obtain ⟨f, rfl⟩ : ∃ g, f = g + 1 := ⟨f - 1, by omega⟩
    rw [zlp]
    cases hi : zoA B n s.1 with
    | none =>
      rw [ex s f _ M h hi]
      exact ⟨M, rfl, h, zLo_rfl⟩
    | some o =>
      dsimp only
      obtain ⟨o1, o2, o3, o4⟩ := oA_in hi
      have hlt := (tk_lt o2).1
      obtain ⟨g1, g2, g3⟩ := hc o1
      obtain ⟨b1, b2, b3⟩ := h.2.2 o1
      obtain ⟨M1, e1, x1, p1⟩ := stl_x ht h (fun _ => o2)
      obtain ⟨M2, e2, x2, p2⟩ := hs _ M1 (fun _ _ => g3) x1
      have e12 : (zstp s.1).2 = s.1.2 + 1 := by rw [zstp_0 o1]
      have slack : (znot B n E (zstp s.1, s.2)).1.1 = 0 → (znot B n E (zstp s.1, s.2)).2.length + 2 ≤ (znot B n E (zstp s.1, s.2)).1.2 ∧ s.1.2 + 1 < (znot B n E (zstp s.1, s.2)).1.2 := fun z => by
        obtain ⟨-, w2, -, c', w4, w5, -⟩ := hw _ z
        dsimp only at w2 w4 w5
        rw [w4, List.length_append]
        omega
      obtain ⟨M3, e3, x3, p3⟩ := adl_x x2 (fun z => (slack z).1) (a := zcx (2, o)) (o := (2, o)) (fun _ => rfl)
      have hcode : F_X0_readAnd_L8 R 27 1 w K (f + 1) (nI c) M = F_X0_readAnd_L8 R 27 1 w K f (nI (c + 1)) M3 := by
        unfold zoA at hi
        have ca : zwd B n s.1 = 14 := by
          by_cases ca : zwd B n s.1 = 14
          · exact ca
          · rw [if_neg ca] at hi; cases hi
        rw [if_pos ca] at hi
        have hv : (-17 : Int32) = zcx (2, o) := by rw [← Option.some.inj hi]; decide
        rw [F_X0_readAnd_L8, zit_f (show ¬ (700 : Int32) ≤ nI c from (nI_ge (by omega) (by omega) : ¬ nI 700 ≤ nI c)), show F_X8_isWord 1 17 M = _ from iw_x ht h.1 (k := 14) (by omega), zbI_I, if_pos ca, zit_f (by decide), e1, zbV_V, e2, zbV_V, hv, e3, zbV_V, nI_1]
      rw [hcode]
      obtain ⟨M4, e4, x4, p4⟩ := ih (zadp (2, o) (znot B n E (zstp s.1, s.2))) (c + 1) f M3 (by omega) (fun z => by
        rw [zadd_1] at z ⊢
        have := (slack z).2
        exact ⟨by omega, by omega, g3⟩) x3
      exact ⟨M4, e4, x4, zLo_tr p1 (zLo_tr p2 (zLo_tr p3 p4))⟩
theorem andl_x (ht : zTxt B n) {G : Prop} {E : zLs → zLs} {R : Nat → Nat → Int32 → zM → zO} {w : Int32} {k : Nat} (hs : zRd B n G (F_X0_readNot R 27 1 w) (znot B n E)) (hw : zgw n (znot B n E) k) (hb : zbg B n (znot B n E)) : zRd B n G (F_X0_readAnd R 27 1 w) (zand B n E) := fun s M hG h => by
  obtain ⟨M1, e1, x1, o1⟩ := hs s M hG h
  unfold F_X0_readAnd zand
  obtain ⟨M2, e2, x2, o2⟩ := anl_x ht hs hw (fun (M6 : zM) => zV M6) 701 (znot B n E s) 0 zN M1 (zN_ge (by omega)) (fun z => ⟨by omega, by omega, hG (hb s z).1 (hb s z).2⟩) x1
  rw [e1, zbV_V]
  exact ⟨M2, e2, x2, zLo_tr o1 o2⟩
theorem orl_x (ht : zTxt B n) {G : Prop} {E : zLs → zLs} {R : Nat → Nat → Int32 → zM → zO} {w : Int32} {k : Nat} (hs : zRd B n G (F_X0_readAnd R 27 1 w) (zand B n E)) (hw : zgw n (zand B n E) k) (K : zM → zO) : ∀ (d : Nat) (s : zLs) (c f : Nat) (M : zM), d < f → (s.1.1 = 0 → 701 ≤ d + s.1.2 ∧ c ≤ s.1.2 ∧ G) → zXl B n s M → ∃ M', F_X0_readExpr_L59 R 27 1 w K f (nI c) M = K M' ∧ (zXl B n (zlp (zoO B n) (zand B n E) d s) M' ∧ zLo M M') := by
  have hn := ht.1
  have ex : ∀ (s : zLs) (f : Nat) (x : Int32) (M : zM), zXl B n s M → zoO B n s.1 = none → F_X0_readExpr_L59 R 27 1 w K (f + 1) x M = K M := fun s f x M h hi => by
    unfold zoO at hi
    have na : zwd B n s.1 ≠ 15 := fun z => by rw [if_pos z] at hi; cases hi
    rw [F_X0_readExpr_L59]
    by_cases hx : (700 : Int32) ≤ x
    · rw [zit_t hx]
    · rw [zit_f hx, show F_X8_isWord 1 18 M = _ from iw_x ht h.1 (k := 15) (by omega), zbI_I, if_neg na, zit_t rfl]
  intro d
  induction d with
  | zero =>
    intro s c f M hf hc h
    obtain ⟨f, rfl⟩ : ∃ g, f = g + 1 := ⟨f - 1, by omega⟩
    have hi : zoO B n s.1 = none := by
      cases hi : zoO B n s.1 with
      | none => rfl
      | some o =>
        obtain ⟨o1, o2, -, -⟩ := oO_in hi
        have := (tk_lt o2).1
        have := (hc o1).1
        omega
    rw [ex s f _ M h hi]
    exact ⟨M, rfl, h, zLo_rfl⟩
  | succ d ih =>
    intro s c f M hf hc h
    obtain ⟨f, rfl⟩ : ∃ g, f = g + 1 := ⟨f - 1, by omega⟩
    rw [zlp]
    cases hi : zoO B n s.1 with
    | none =>
      rw [ex s f _ M h hi]
      exact ⟨M, rfl, h, zLo_rfl⟩
    | some o =>
      dsimp only
      obtain ⟨o1, o2, o3, o4⟩ := oO_in hi
      have hlt := (tk_lt o2).1
      obtain ⟨g1, g2, g3⟩ := hc o1
      obtain ⟨b1, b2, b3⟩ := h.2.2 o1
      obtain ⟨M1, e1, x1, p1⟩ := stl_x ht h (fun _ => o2)
      obtain ⟨M2, e2, x2, p2⟩ := hs _ M1 (fun _ _ => g3) x1
      have e12 : (zstp s.1).2 = s.1.2 + 1 := by rw [zstp_0 o1]
      have slack : (zand B n E (zstp s.1, s.2)).1.1 = 0 → (zand B n E (zstp s.1, s.2)).2.length + 2 ≤ (zand B n E (zstp s.1, s.2)).1.2 ∧ s.1.2 + 1 < (zand B n E (zstp s.1, s.2)).1.2 := fun z => by
        obtain ⟨-, w2, -, c', w4, w5, -⟩ := hw _ z
        dsimp only at w2 w4 w5
        rw [w4, List.length_append]
        omega
      obtain ⟨M3, e3, x3, p3⟩ := adl_x x2 (fun z => (slack z).1) (a := zcx (2, o)) (o := (2, o)) (fun _ => rfl)
      have hcode : F_X0_readExpr_L59 R 27 1 w K (f + 1) (nI c) M = F_X0_readExpr_L59 R 27 1 w K f (nI (c + 1)) M3 := by
        unfold zoO at hi
        have ca : zwd B n s.1 = 15 := by
          by_cases ca : zwd B n s.1 = 15
          · exact ca
          · rw [if_neg ca] at hi; cases hi
        rw [if_pos ca] at hi
        have hv : (-18 : Int32) = zcx (2, o) := by rw [← Option.some.inj hi]; decide
        rw [F_X0_readExpr_L59, zit_f (show ¬ (700 : Int32) ≤ nI c from (nI_ge (by omega) (by omega) : ¬ nI 700 ≤ nI c)), show F_X8_isWord 1 18 M = _ from iw_x ht h.1 (k := 15) (by omega), zbI_I, if_pos ca, zit_f (by decide), e1, zbV_V, e2, zbV_V, hv, e3, zbV_V, nI_1]
      rw [hcode]
      obtain ⟨M4, e4, x4, p4⟩ := ih (zadp (2, o) (zand B n E (zstp s.1, s.2))) (c + 1) f M3 (by omega) (fun z => by
        rw [zadd_1] at z ⊢
        have := (slack z).2
        exact ⟨by omega, by omega, g3⟩) x3
      exact ⟨M4, e4, x4, zLo_tr p1 (zLo_tr p2 (zLo_tr p3 p4))⟩
theorem chain_x (ht : zTxt B n) {G : Prop} {E : zLs → zLs} {R : Nat → Nat → Int32 → zM → zO} {w : Int32} {k : Nat} (hk : 1 ≤ k) (hE : zgw n E k) (hR : G → ∀ (s : zLs) (M : zM), zXl B n s M → ∃ M', R 27 1 (w + 1) M = zV M' ∧ (zXl B n (E s) M' ∧ zLo M M')) : zRd B n G (fun M4 => zbV (F_X0_readAnd R 27 1 w M4) (fun M5 => F_X0_readExpr_L59 R 27 1 w (fun (M10 : zM) => zV M10) zN 0 M5)) (zor B n E) := fun s M hG h => by
  obtain ⟨w1, w2, w3, w4, w5, w6, w7⟩ := zgw_or ht hk hE
  have r6 := andl_x ht (no_x ht (te_x ht (su_x ht (pr_x ht (prt_x ht hR) w1 zbg_part) w2 zbg_prod) w3 zbg_sum) w4) w5 zbg_not
  obtain ⟨M1, e1, x1, o1⟩ := r6 s M hG h
  unfold zor
  obtain ⟨M2, e2, x2, o2⟩ := orl_x ht r6 w6 (fun (M10 : zM) => zV M10) 701 (zand B n E s) 0 zN M1 (zN_ge (by omega)) (fun z => ⟨by omega, by omega, hG (zbg_and s z).1 (zbg_and s z).2⟩) x1
  dsimp only
  rw [e1, zbV_V]
  exact ⟨M2, e2, x2, zLo_tr o1 o2⟩
theorem re_x (ht : zTxt B n) : ∀ e m, e < m → e ≤ 6 → ∀ (s : zLs) (M : zM), zXl B n s M → ∃ M', Fr_X0_readExpr m 27 1 (nI (6 - e)) M = zV M' ∧ (zXl B n (zex B n e s) M' ∧ zLo M M') := by
  intro e
  induction e with
  | zero =>
    intro m hm h6 s M h
    obtain ⟨m, rfl⟩ : ∃ g, m = g + 1 := ⟨m - 1, by omega⟩
    show ∃ M', F_X0_readExpr (Fr_X0_readExpr m) 27 1 (nI 6) M = zV M' ∧ _
    have ch := chain_x ht (G := False) (E := zex B n 0) (R := Fr_X0_readExpr m) (w := nI 6) (by omega) (zgw_ex ht 0) (fun z => z.elim)
    have k1 : (M 1 3 = 258) = (zkn B n s.1 = 258) := kd_x ht h (c := 258) (by omega)
    have k2 : (M 1 3 = 257) = (zkn B n s.1 = 257) := kd_x ht h (c := 257) (by omega)
    have k3 : (M 1 3 = 40) = (zkn B n s.1 = 40) := kd_x ht h (c := 40) (by omega)
    unfold F_X0_readExpr
    rw [zjo_eq, zjo_eq, zex]
    by_cases c0 : s.1.1 = 0
    · rw [if_neg (by omega)]
      by_cases hb : zbgn B n s.1.2 = true
      · have hb' := of_decide_eq_true hb
        rw [if_pos hb]
        have hit : ∀ X Y : zO, zit (M 1 3 = 258) X (zit (M 1 3 = 257) X (zit (M 1 3 = 40) X Y)) = X := fun X Y => by
          rw [zkn_0 c0] at k1 k2 k3
          by_cases d1 : tkk B n s.1.2 = 258
          · rw [zit_t (k1.mpr d1)]
          · rw [zit_f (fun z => d1 (k1.mp z))]
            by_cases d2 : tkk B n s.1.2 = 257
            · rw [zit_t (k2.mpr d2)]
            · rw [zit_f (fun z => d2 (k2.mp z)), zit_t (k3.mpr (by omega))]
        rw [hit]
        try dsimp only
        rw [zjo_eq, zit_f (by decide), zit_f (by decide)]
        obtain ⟨M1, e1, t1, o1⟩ := rf_x h.1 (w := 2) (by omega) (by omega)
        rw [show F_X8_refuse 1 2 M = zV M1 from e1, zbV_V]
        have hf : (zrfs 2 s.1).1 ≠ 0 := by rw [zrfs_0 c0]; simp
        have x1 : zXl B n (zrfs 2 s.1, s.2) M1 := zXl_t h t1 o1 (fun z => absurd z hf)
        obtain ⟨M2, e2, x2, o2⟩ := ch _ M1 (fun z => absurd z hf) x1
        rw [zor_f (show ((zrfs 2 s.1, s.2) : zLs).1.1 ≠ 0 from hf)] at x2
        exact ⟨M2, e2, x2, zLo_tr (zLo_t o1) o2⟩
      · have hb0 : zbgn B n s.1.2 = false := Bool.eq_false_iff.mpr hb
        have hb' := of_decide_eq_false hb0
        rw [zkn_0 c0] at k1 k2 k3
        rw [if_neg hb, zit_f (fun z => hb' (Or.inl (k1.mp z))), zit_f (fun z => hb' (Or.inr (Or.inl (k2.mp z)))), zit_f (fun z => hb' (Or.inr (Or.inr (k3.mp z))))]
        try dsimp only
        rw [zjo_eq, zit_f (by decide), zit_t rfl]
        obtain ⟨M2, e2, x2, o2⟩ := ch s M (fun _ z => absurd z hb) h
        rw [zor_n c0 hb0] at x2
        exact ⟨M2, e2, x2, o2⟩
    · rw [if_pos c0]
      rw [zkn_f c0] at k1 k2 k3
      rw [zit_f (fun z => by have := k1.mp z; omega), zit_f (fun z => by have := k2.mp z; omega), zit_f (fun z => by have := k3.mp z; omega)]
      try dsimp only
      rw [zjo_eq, zit_f (by decide), zit_t rfl]
      obtain ⟨M2, e2, x2, o2⟩ := ch s M (fun z => absurd z c0) h
      rw [zor_f c0] at x2
      exact ⟨M2, e2, x2, o2⟩
  | succ e ih =>
    intro m hm h6 s M h
    obtain ⟨m, rfl⟩ : ∃ g, m = g + 1 := ⟨m - 1, by omega⟩
    show ∃ M', F_X0_readExpr (Fr_X0_readExpr m) 27 1 (nI (6 - (e + 1))) M = zV M' ∧ _
    have ew : nI (6 - (e + 1)) + 1 = nI (6 - e) := by
      rw [nI_1]
      congr 1
      omega
    have ch := chain_x ht (G := True) (E := zex B n e) (R := Fr_X0_readExpr m) (w := nI (6 - (e + 1))) (by omega) (zgw_ex ht e) (fun _ s M h => by
      rw [ew]
      exact ih m (by omega) (by omega) s M h)
    obtain ⟨M2, e2, x2, o2⟩ := ch s M (fun _ _ => trivial) h
    refine ⟨M2, ?_, x2, o2⟩
    unfold F_X0_readExpr
    rw [zjo_eq, zjo_eq]
    have hany : ∀ (v : Int32) (M1 : zM), M1 = M → zjo (fun (M4 : zM) => zbV (F_X0_readAnd (Fr_X0_readExpr m) 27 1 (nI (6 - (e + 1))) M4) (fun M5 => F_X0_readExpr_L59 (Fr_X0_readExpr m) 27 1 (nI (6 - (e + 1))) (fun (M10 : zM) => zV M10) zN 0 M5)) (fun (k3 : zM → zO) => zit (nI (6 - (e + 1)) < 6) (k3 M1) (zit (v = 0) (k3 M1) (zbV (F_X8_refuse 1 2 M1) (fun M3 => k3 M3)))) = zV M2 := fun v M1 hM => by
      rw [zjo_eq, zit_t (show nI (6 - (e + 1)) < (6 : Int32) from nI_lt (b := 6) (by omega) (by omega)), hM]
      exact e2
    by_cases d1 : M 1 3 = 258
    · rw [zit_t d1]
      exact hany 1 M rfl
    · rw [zit_f d1]
      by_cases d2 : M 1 3 = 257
      · rw [zit_t d2]
        exact hany 1 M rfl
      · rw [zit_f d2]
        by_cases d3 : M 1 3 = 40
        · rw [zit_t d3]
          exact hany 1 M rfl
        · rw [zit_f d3]
          exact hany 0 M rfl
end ZXL
