/-! the class reads a LINE: names -/
theorem zlb_all : ∀ b, b < 256 → 97 ≤ b → b ≤ 122 → (((nI b - 97) + 1).toInt8.toInt32).toInt8.toInt32 = nI (b - 96) := by decide +kernel
theorem i8_i8 (z : Int8) : z.toInt32.toInt8 = z := by
  simp
section ZXN
variable {B : Nat → Nat} {n : Nat}
def zDx (g : zDr) (M : zM) : Prop := M 21 0 = nI (g.1 0 0) ∧ M 21 1 = nI (g.1 1 0) ∧ M 21 2 = nI (g.1 2 0) ∧ M 21 3 = (if g.2.1 = true then 1 else 0) ∧ (match g.2.2 with
    | none => M 27 4 = 0 ∧ M 27 3 = nI 0
    | some c => M 27 4 = 1 ∧ zCrw c M) ∧ (∀ i, i < g.1 0 0 → M 24 i = nI (g.1 3 i) ∧ M 31 i = nI (g.1 5 i) ∧ M 32 i = nI (g.1 6 i) ∧ M 33 i = nI (g.1 7 i)) ∧ (∀ i, i < g.1 0 0 → ∀ j, j < g.1 3 i → M 23 (9 * i + j) = nI (g.1 4 (9 * i + j))) ∧ (∀ i, i < 8 → M 34 i = nI (g.1 12 i)) ∧ (∀ k, k < 64 → M 35 k = nI (g.1 8 k)) ∧ (∀ f, f < g.1 1 0 → M 36 f = nI (g.1 9 f) ∧ M 37 f = nI (g.1 10 f) ∧ M 38 f = nI (g.1 11 f))
def zSfe (M : zM) : Prop := (∃ a, a ≤ 8 ∧ M 21 0 = nI a ∧ ∀ i, i < a → ∃ l, l ≤ 9 ∧ M 24 i = nI l) ∧ (∃ b, b ≤ 12 ∧ M 21 1 = nI b) ∧ zsf M ∧ ∀ j, (M 23 j).toInt8.toInt32 = M 23 j
def zXss (B : Nat → Nat) (n : Nat) (s : (Nat × Nat) × zDr) (M : zM) : Prop := zTpx B n s.1 M ∧ zSfe M ∧ (s.1.1 = 0 → zDx s.2 M)
def zXo (M M' : zM) : Prop := (∀ k, k < 3 → M' 1 k = M 1 k) ∧ zoff [1, 21, 23, 24, 27, 29, 31, 32, 33, 34, 35, 36, 37, 38] M M'
theorem zXo_rfl {M : zM} : zXo M M := ⟨fun _ _ => rfl, zoff_rfl⟩
theorem zXo_tr {M M' M'' : zM} (h : zXo M M') (h' : zXo M' M'') : zXo M M'' := ⟨fun k hk => (h'.1 k hk).trans (h.1 k hk), zoff_trans h.2 h'.2⟩
theorem zXo_t {M M' : zM} (h : zTo M M') : zXo M M' := ⟨h.1, zoff_mono h.2 (by decide)⟩
theorem zXo_o {M M' : zM} (h : zoff [21, 23, 24, 27, 29, 31, 32, 33, 34, 35, 36, 37, 38] M M') : zXo M M' := ⟨fun k _ => by rw [h 1 (by decide)], zoff_mono h (by decide)⟩
theorem zDx_cg {g : zDr} {M M' : zM} (h : zDx g M) (o : zoff [1] M M') : zDx g M' := by
  unfold zDx zCrw at *
  rw [o 21 (by decide), o 23 (by decide), o 24 (by decide), o 27 (by decide), o 29 (by decide), o 31 (by decide), o 32 (by decide), o 33 (by decide), o 34 (by decide), o 35 (by decide), o 36 (by decide), o 37 (by decide), o 38 (by decide)]
  exact h
theorem zSfe_cg {M M' : zM} (h : zSfe M) (o : zoff [1] M M') : zSfe M' := by
  unfold zSfe zsf at *
  rw [o 21 (by decide), o 23 (by decide), o 24 (by decide), o 27 (by decide)]
  exact h
/-- the tape's work alone -/
theorem zXss_t {p q : Nat × Nat} {g : zDr} {M M' : zM} (h : zXss B n (p, g) M) (t : zTpx B n q M') (o : zTo M M') (hq : q.1 = 0 → p.1 = 0) : zXss B n (q, g) M' := ⟨t, zSfe_cg h.2.1 o.2, fun z => zDx_cg (h.2.2 (hq z)) o.2⟩
theorem sgn_x {M : zM} {a k : Nat} (ha : a < 8) (hk : k < 9) : F_X9_sign 22 (nI a) (0 + nI k) M = zI (M 23 (9 * a + k)) M := by
  unfold F_X9_sign
  rw [show (0 : Int32) + nI k = nI (0 + k) from nI_add 0 k, show 0 + k = k from by omega, ix9, zin_k (k := a * 9 + k) (n := 72) (by omega) (by omega), zck_t, gr_22_0, zix_k (k := a * 9 + k) (by omega), show a * 9 + k = 9 * a + k from by omega]
theorem ral_x {M : zM} {a b l : Nat} (ha : a < 8) (hb : b < 8) (hl : l ≤ 9) : F_X9_runsAlike 22 (nI a) 0 (nI b) 0 (nI l) M = zI (if decide (∀ k, k < l → M 23 (9 * a + k) = M 23 (9 * b + k)) = true then 1 else 0) M := by
  unfold F_X9_runsAlike
  refine zfor (i := 0) (f := zN) (a := ()) l (fun f k (_ : Unit) => F_X9_runsAlike_L3 22 (nI a) 0 (nI b) 0 (nI l) (fun (M3 : zM) => zck (zbo 1) (zI 1 M3)) f (nI k) M) (fun k _ => ∀ j, j < k → M 23 (9 * a + j) = M 23 (9 * b + j)) (fun o => o = zI (if decide (∀ k, k < l → M 23 (9 * a + k) = M 23 (9 * b + k)) = true then 1 else 0) M) ?_ ?_ (by omega) (zN_ge (by omega)) (fun j hj => absurd hj (Nat.not_lt_zero _))
  · rintro f k _ hk hI
    show F_X9_runsAlike_L3 22 (nI a) 0 (nI b) 0 (nI l) _ (f + 1) (nI k) M = _ ∨ _
    rw [F_X9_runsAlike_L3, zit_f (nI_ge hk (by omega)), sgn_x ha (by omega), zbI_I, sgn_x hb (by omega), zbI_I, nI_1]
    by_cases c : M 23 (9 * a + k) = M 23 (9 * b + k)
    · refine Or.inr ⟨(), ?_, fun j hj => ?_⟩
      · rw [zit_t c]
      · by_cases e : j = k
        · rw [e]; exact c
        · exact hI j (by omega)
    · refine Or.inl ?_
      rw [zit_f c, zbo_0, zck_t, if_neg (by rw [decide_eq_true_eq]; exact fun z => c (z k hk))]
  · rintro f _ hI
    show F_X9_runsAlike_L3 22 (nI a) 0 (nI b) 0 (nI l) _ (f + 1) (nI l) M = _
    rw [F_X9_runsAlike_L3, zit_t (nI_le (Nat.le_refl _) (by omega)), zbo_1, zck_t, if_pos (by rw [decide_eq_true_eq]; exact hI)]
def zalk (M : zM) (a b : Nat) : Bool := decide (M 24 a = M 24 b ∧ ∀ k, k < zix (M 24 a) → M 23 (9 * a + k) = M 23 (9 * b + k))
theorem alk_x {M : zM} {a b : Nat} (ha : a < 8) (hb : b < 8) {l : Nat} (hl : l ≤ 9) (h24 : M 24 a = nI l) : F_X9_alike 22 (nI a) (nI b) M = zI (if zalk M a b = true then 1 else 0) M := by
  unfold F_X9_alike
  rw [zin_k (k := a) (n := 8) ha (by omega), zck_t, zin_k (k := b) (n := 8) hb (by omega), zck_t, zjo_eq, zjo_eq, gr_22_1, zix_k (k := a) (by omega), zix_k (k := b) (by omega)]
  unfold zalk
  by_cases c : M 24 a = M 24 b
  · rw [zit_t c, zck_t, h24, ral_x ha hb hl, zbI_I, zix_k (k := l) (by omega)]
    rw [h24] at c
    by_cases d : ∀ k, k < l → M 23 (9 * a + k) = M 23 (9 * b + k)
    · rw [if_pos (decide_eq_true d), zit_f (by decide), if_pos (decide_eq_true ⟨c, d⟩)]
      try dsimp only
      rw [zbo_1, zck_t]
    · rw [if_neg (by rw [decide_eq_true_eq]; exact d), zit_t rfl, if_neg (by rw [decide_eq_true_eq]; exact fun z => d z.2)]
      try dsimp only
      rw [zbo_0, zck_t]
  · rw [zit_f c, if_neg (by rw [decide_eq_true_eq]; exact fun z => c z.1)]
    try dsimp only
    rw [zbo_0, zck_t]
def zlb (b : Nat) : Int32 := (((nI b - 97) + 1).toInt8.toInt32).toInt8.toInt32
theorem put_x (ht : zTxt B n) {p : Nat × Nat} {M : zM} (h : zTpx B n p M) {m : Nat} (hm : m < 8) (hb : ∀ j, (M 23 j).toInt8.toInt32 = M 23 j) : ∃ M', F_X9_put 22 (nI m) 1 M = zV M' ∧ (M' 24 m = nI (min (tkl B n p.2) 9) ∧ (∀ i, i ≠ m → M' 24 i = M 24 i) ∧ (∀ j, j < min (tkl B n p.2) 9 → M' 23 (9 * m + j) = zlb (B (tkst B n p.2 + j))) ∧ (∀ k, k < 9 * m → M' 23 k = M 23 k) ∧ (∀ j, (M' 23 j).toInt8.toInt32 = M' 23 j) ∧ zoff [23, 24] M M') := by
  obtain ⟨h1, h2, h3, h4, h5, h6, h7, -⟩ := id h
  have hn := ht.1
  have hts := tkst_le (B := B) (n := n) p.2
  have hte := tke_le (B := B) (n := n) p.2
  have hl := tkl_le (B := B) ht p.2
  unfold F_X9_put F_X8_size
  have emin : (if (9 : Int32) < nI (tkl B n p.2) then 9 else nI (tkl B n p.2)) = nI (min (tkl B n p.2) 9) := by
    have := z_min (p := tkl B n p.2) (q := 9) (by omega) (by omega)
    exact this
  rw [zbI_I, h6, h7, s_sub hte.1, zlt_eq, show nI (zpe B n (p.2 + 1) - tkst B n p.2) = nI (tkl B n p.2) from rfl, emin]
  obtain ⟨L, hL⟩ : ∃ L, min (tkl B n p.2) 9 = L := ⟨_, rfl⟩
  rw [hL]
  have hL9 : L ≤ 9 := by omega
  refine zfor (i := 0) (f := zN) (a := M) L (fun f k (M1 : zM) => F_X9_put_L13 22 (nI m) 1 (nI L) (fun (M4 : zM) => zck (zin (nI m) 8) (zst (zup M4 (zgr 22 1) (zix (nI m)) (nI L)) (fun M5 => zV M5))) f (nI k) M1) (fun k M1 => (∀ j, j < k → M1 23 (9 * m + j) = zlb (B (tkst B n p.2 + j))) ∧ (∀ i, i < 9 * m → M1 23 i = M 23 i) ∧ (∀ j, (M1 23 j).toInt8.toInt32 = M1 23 j) ∧ zoff [23] M M1) (fun o => ∃ M', o = zV M' ∧ (M' 24 m = nI L ∧ (∀ i, i ≠ m → M' 24 i = M 24 i) ∧ (∀ j, j < L → M' 23 (9 * m + j) = zlb (B (tkst B n p.2 + j))) ∧ (∀ k, k < 9 * m → M' 23 k = M 23 k) ∧ (∀ j, (M' 23 j).toInt8.toInt32 = M' 23 j) ∧ zoff [23, 24] M M')) ?_ ?_ (by omega) (zN_ge (by omega)) ⟨fun j hj => absurd hj (Nat.not_lt_zero _), fun _ _ => rfl, hb, zoff_rfl⟩
  · rintro f k M1 hk ⟨i1, i2, i3, i4⟩
    refine Or.inr ?_
    have t1 : zTp B n M1 := ⟨by rw [i4 1 (by decide)]; exact h1.1, fun j hj => by rw [i4 2 (by decide)]; exact h1.2 j hj⟩
    show ∃ M2, F_X9_put_L13 22 (nI m) 1 (nI L) _ (f + 1) (nI k) M1 = F_X9_put_L13 22 (nI m) 1 (nI L) _ f (nI (k + 1)) M2 ∧ _
    rw [F_X9_put_L13, zit_f (nI_ge hk (by omega)), i4 1 (by decide), h6, nI_add, at_x ht t1 (by omega), zbI_I, ix9, zin_k (k := m * 9 + k) (n := 72) (by omega) (by omega), zck_t, zst_eq, gr_22_0, zix_k (k := m * 9 + k) (by omega), nI_1]
    refine ⟨_, rfl, fun j hj => ?_, fun i hi => ?_, fun j => ?_, zoff_up i4 (by decide)⟩
    · rw [zup_row]
      by_cases e : j = k
      · rw [e, show 9 * m + k = m * 9 + k from by omega, upd_eq]
        rfl
      · rw [upd_ne (by omega), i1 j (by omega)]
    · rw [zup_row, upd_ne (by omega), i2 i hi]
    · rw [zup_row]
      by_cases e : j = m * 9 + k
      · rw [e, upd_eq, i8_i8]
      · rw [upd_ne e, i3 j]
  · rintro f M1 ⟨i1, i2, i3, i4⟩
    show ∃ M2, F_X9_put_L13 22 (nI m) 1 (nI L) _ (f + 1) (nI L) M1 = _ ∧ _
    rw [F_X9_put_L13, zit_t (nI_le (Nat.le_refl _) (by omega)), zin_k (k := m) (n := 8) hm (by omega), zck_t, zst_eq, gr_22_1, zix_k (k := m) (by omega)]
    refine ⟨_, rfl, by rw [zup_row, upd_eq], fun i hi => by rw [zup_row, upd_ne hi, i4 24 (by decide)], fun j hj => by rw [zup_ne (by decide)]; exact i1 j hj, fun k hk => by rw [zup_ne (by decide)]; exact i2 k hk, fun j => by rw [zup_ne (by decide)]; exact i3 j, zoff_up (zoff_mono i4 (by decide)) (by decide)⟩
/-- a word that is new -/
theorem rwd_x (ht : zTxt B n) {p : Nat × Nat} {M : zM} (h : zTpx B n p M) {S : zSD} {m : Nat} (hm : m < 8) (h21 : M 21 0 = nI m) (hl : ∀ i, i < m → ∃ l, l ≤ 9 ∧ M 24 i = nI l) (hb : ∀ j, (M 23 j).toInt8.toInt32 = M 23 j) (hS : p.1 = 0 → m = S 0 0 ∧ zSok S ∧ (∀ i, i < m → M 24 i = nI (S 3 i)) ∧ ∀ i, i < m → ∀ j, j < S 3 i → M 23 (9 * i + j) = nI (S 4 (9 * i + j))) : ∃ M', F_X7_readWord 39 M = zV M' ∧ (zTpx B n (zstp (zwrd B n S p)) M' ∧ (∃ l, l ≤ 9 ∧ M' 24 m = nI l) ∧ ((zwrd B n S p).1 = 0 → M' 24 m = nI (tkl B n p.2) ∧ ∀ j, j < tkl B n p.2 → M' 23 (9 * m + j) = nI (B (tkst B n p.2 + j) - 96)) ∧ (∀ i, i ≠ m → M' 24 i = M 24 i) ∧ (∀ k, k < 9 * m → M' 23 k = M 23 k) ∧ (∀ j, (M' 23 j).toInt8.toInt32 = M' 23 j) ∧ (∀ k, k < 3 → M' 1 k = M 1 k) ∧ zoff [1, 23, 24] M M') := by
  have hkl := zkn_lt (B := B) ht p
  have hsz := tkl_le (B := B) ht p.2
  obtain ⟨a, ha⟩ : ∃ a, (if zkn B n p ≠ 257 then zrfs 1 p else if 9 < tkl B n p.2 then zrfs 2 p else p) = a := ⟨_, rfl⟩
  have ha2 : a.2 = p.2 := by
    rw [← ha]
    unfold zrfs
    split
    · split <;> rfl
    · split
      · split <;> rfl
      · rfl
  have hap : a.1 = 0 → p.1 = 0 ∧ tkk B n p.2 = 257 ∧ tkl B n p.2 ≤ 9 := fun z => by
    by_cases hp : p.1 = 0
    · rw [zrfs_0 hp, zrfs_0 hp, zkn_0 hp] at ha
      by_cases c1 : tkk B n p.2 ≠ 257
      · rw [if_pos c1] at ha; rw [← ha] at z; exact absurd z (by simp)
      · rw [if_neg c1] at ha
        by_cases c2 : 9 < tkl B n p.2
        · rw [if_pos c2] at ha; rw [← ha] at z; exact absurd z (by simp)
        · exact ⟨hp, by omega, by omega⟩
    · rw [zrfs_f hp, zrfs_f hp] at ha
      split at ha
      · rw [← ha] at z; exact absurd z hp
      · split at ha
        · rw [← ha] at z; exact absurd z hp
        · rw [← ha] at z; exact absurd z hp
  -- put, and look
  have go : ∀ M4 : zM, zTpx B n a M4 → zTo M M4 → ∃ M', zbV (F_X9_put (zgr (zgr 39 1) 4) (M4 (zgr 39 1) 0) (zgr 39 0) M4) (fun M5 => F_X7_readWord_L67 39 (fun (M9 : zM) => zbV (F_X8_step (zgr 39 0) M9) (fun M10 => zV M10)) zN 0 M5) = zV M' ∧ (zTpx B n (zstp (zwrd B n S p)) M' ∧ (∃ l, l ≤ 9 ∧ M' 24 m = nI l) ∧ ((zwrd B n S p).1 = 0 → M' 24 m = nI (tkl B n p.2) ∧ ∀ j, j < tkl B n p.2 → M' 23 (9 * m + j) = nI (B (tkst B n p.2 + j) - 96)) ∧ (∀ i, i ≠ m → M' 24 i = M 24 i) ∧ (∀ k, k < 9 * m → M' 23 k = M 23 k) ∧ (∀ j, (M' 23 j).toInt8.toInt32 = M' 23 j) ∧ (∀ k, k < 3 → M' 1 k = M 1 k) ∧ zoff [1, 23, 24] M M') := fun M4 t4 o4 => by
    obtain ⟨M5, e5, p1, p2, p3, p4, p5, p6⟩ := put_x ht t4 hm (fun j => by rw [o4.2 23 (by decide)]; exact hb j)
    rw [ha2] at p1 p3
    have t5 : zTpx B n a M5 := zTpx_cg t4 (p6 1 (by decide)) (p6 2 (by decide))
    have h215 : M5 21 0 = nI m := by rw [p6 21 (by decide), o4.2 21 (by decide), h21]
    rw [gr_39_1, gr_39_0, gr_21_4, o4.2 21 (by decide), h21, e5, zbV_V]
    -- the loop
    have lp : ∀ K : zM → zO, ∃ M6, F_X7_readWord_L67 39 K zN 0 M5 = K M6 ∧ (zTpx B n (if a.1 = 0 ∧ zax (fun k => zalk M5 k m) m = true then (4, p.2) else a) M6 ∧ zTo M5 M6) := fun K => by
      refine zfor (i := 0) (f := zN) (a := M5) m (fun f k (M6 : zM) => F_X7_readWord_L67 39 K f (nI k) M6) (fun k M6 => zTpx B n (if a.1 = 0 ∧ zax (fun k => zalk M5 k m) k = true then (4, p.2) else a) M6 ∧ zTo M5 M6) (fun o => ∃ M6, o = K M6 ∧ (zTpx B n (if a.1 = 0 ∧ zax (fun k => zalk M5 k m) m = true then (4, p.2) else a) M6 ∧ zTo M5 M6)) ?_ ?_ (by omega) (zN_ge (by omega)) ⟨by rw [if_neg (fun z => by have := z.2; exact (nomatch this))]; exact t5, zTo_rfl⟩
      · rintro f k M6 hk ⟨i1, i2⟩
        refine Or.inr ?_
        obtain ⟨l, l1, l2⟩ := hl k hk
        have e24 : M6 24 k = nI l := by rw [i2.2 24 (by decide), p2 k (by omega), o4.2 24 (by decide), l2]
        have ezk : zalk M6 k m = zalk M5 k m := by
          unfold zalk
          rw [i2.2 24 (by decide), i2.2 23 (by decide)]
        show ∃ M7, F_X7_readWord_L67 39 K (f + 1) (nI k) M6 = F_X7_readWord_L67 39 K f (nI (k + 1)) M7 ∧ _
        rw [F_X7_readWord_L67, gr_39_1, gr_39_0, gr_21_4, i2.2 21 (by decide), h215, zit_f (nI_ge hk (by omega)), alk_x (a := k) (b := m) (by omega) hm l1 e24, zbI_I, zjo_eq, ezk, nI_1, zax_s]
        cases hz : zalk M5 k m with
        | false =>
          rw [if_neg (by decide), zit_t rfl, Bool.or_false]
          exact ⟨M6, rfl, i1, i2⟩
        | true =>
          obtain ⟨M7, e7, t7, o7⟩ := rf_x i1 (w := 4) (by omega) (by omega)
          rw [if_pos rfl, zit_f (by decide), show F_X8_refuse 1 4 M6 = zV M7 from e7, zbV_V, Bool.or_true]
          refine ⟨M7, rfl, ?_, zTo_tr i2 o7⟩
          by_cases ca : a.1 = 0
          · rw [if_pos ⟨ca, rfl⟩]
            by_cases cz : zax (fun k => zalk M5 k m) k = true
            · rw [if_pos ⟨ca, cz⟩, zrfs_f (by simp)] at t7
              exact t7
            · rw [if_neg (fun z => cz z.2), zrfs_0 ca, ha2] at t7
              exact t7
          · rw [if_neg (fun z => ca z.1)] at t7 ⊢
            rw [zrfs_f ca] at t7
            exact t7
      · rintro f M6 ⟨i1, i2⟩
        show ∃ M7, F_X7_readWord_L67 39 K (f + 1) (nI m) M6 = _ ∧ _
        rw [F_X7_readWord_L67, gr_39_1, i2.2 21 (by decide), h215, zit_t (nI_le (Nat.le_refl _) (by omega))]
        exact ⟨M6, rfl, i1, i2⟩
    obtain ⟨M6, e6, t6, o6⟩ := lp (fun (M9 : zM) => zbV (F_X8_step 1 M9) (fun M10 => zV M10))
    have ew : (if a.1 = 0 ∧ zax (fun k => zalk M5 k m) m = true then (4, p.2) else a) = zwrd B n S p := by
      unfold zwrd
      rw [ha]
      by_cases ca : a.1 = 0
      · obtain ⟨q1, q2, q3⟩ := hap ca
        obtain ⟨s1, s2, s3, s4⟩ := hS q1
        have hw := tk_word q2
        rw [← s1]
        have : zax (fun k => zalk M5 k m) m = zax (zsame B n S p.2) m := zax_cg m (fun k hk => by
          unfold zalk zsame
          have h9 := so_i s2 k (by omega)
          have e24 : M5 24 k = nI (S 3 k) := by rw [p2 k (by omega), o4.2 24 (by decide), s3 k hk]
          rw [p1, e24, zix_k (k := S 3 k) (by omega), show min (tkl B n p.2) 9 = tkl B n p.2 from by omega]
          refine decide_eq_decide.mpr ⟨fun ⟨u1, u2⟩ => ?_, fun ⟨u1, u2⟩ => ?_⟩
          · have u1 := (nI_eq (by omega) (by omega)).mp u1
            refine ⟨u1, fun j hj => ?_⟩
            have := u2 j (by omega)
            have hwj := hw j hj
            rw [p4 (9 * k + j) (by omega), o4.2 23 (by decide), s4 k hk j (by omega), p3 j (by omega), show zlb (B (tkst B n p.2 + j)) = nI (B (tkst B n p.2 + j) - 96) from zlb_all _ (ht.2.1 _) hwj.1 hwj.2] at this
            have h26 := so_4 s2 k (by omega) j (by omega)
            exact (nI_eq (by omega) (by omega)).mp this
          · refine ⟨by rw [u1], fun j hj => ?_⟩
            have hwj := hw j (by omega)
            rw [p4 (9 * k + j) (by omega), o4.2 23 (by decide), s4 k hk j hj, p3 j (by omega), show zlb (B (tkst B n p.2 + j)) = nI (B (tkst B n p.2 + j) - 96) from zlb_all _ (ht.2.1 _) hwj.1 hwj.2, u2 j (by omega)])
        rw [this]
      · rw [if_neg (fun z => ca z.1), if_neg (fun z => ca z.1)]
    rw [ew] at t6
    obtain ⟨M7, e7, t7, o7⟩ := st_x ht t6
    have oo := zTo_tr o6 o7
    rw [e6, e7, zbV_V]
    refine ⟨M7, rfl, t7, ⟨min (tkl B n p.2) 9, by omega, by rw [oo.2 24 (by decide), p1]⟩, fun z => ?_, fun i hi => by rw [oo.2 24 (by decide), p2 i hi, o4.2 24 (by decide)], fun k hk => by rw [oo.2 23 (by decide), p4 k hk, o4.2 23 (by decide)], fun j => by rw [oo.2 23 (by decide)]; exact p5 j, fun k hk => by rw [oo.1 k hk, p6 1 (by decide), o4.1 k hk], zoff_trans (zoff_mono o4.2 (by decide)) (zoff_trans (zoff_mono p6 (by decide)) (zoff_mono oo.2 (by decide)))⟩
    obtain ⟨q1, q2, q3, -, -⟩ := zwrd_g z
    have hw := tk_word q2
    refine ⟨by rw [oo.2 24 (by decide), p1, show min (tkl B n p.2) 9 = tkl B n p.2 from by omega], fun j hj => ?_⟩
    rw [oo.2 23 (by decide), p3 j (by omega)]
    exact zlb_all _ (ht.2.1 _) (hw j hj).1 (hw j hj).2
  unfold F_X7_readWord
  rw [zjo_eq, gr_39_0]
  have k257 : (M 1 3 = 257) = (zkn B n p = 257) := by
    rw [h.2.2.2.2.1]
    exact i_eq (b := 257) (by omega) (by omega)
  by_cases c1 : zkn B n p = 257
  · have hts := tke_le (B := B) (n := n) p.2
    rw [zit_t (k257.mpr c1)]
    unfold F_X8_size
    rw [zbI_I, h.2.2.2.2.2.1, h.2.2.2.2.2.2.1, s_sub hts.1, show nI (zpe B n (p.2 + 1) - tkst B n p.2) = nI (tkl B n p.2) from rfl]
    rw [if_neg (by omega)] at ha
    by_cases c2 : 9 < tkl B n p.2
    · rw [zit_f (show ¬ nI (tkl B n p.2) ≤ (9 : Int32) from (nI_ge c2 (by omega) : ¬ nI (tkl B n p.2) ≤ nI 9))]
      obtain ⟨M1, e1, t1, o1⟩ := rf_x h (w := 2) (by omega) (by omega)
      rw [if_pos c2] at ha
      rw [ha] at t1
      rw [show F_X8_refuse 1 2 M = zV M1 from e1, zbV_V]
      have := go M1 t1 o1
      rw [gr_39_0] at this
      exact this
    · rw [zit_t (show nI (tkl B n p.2) ≤ (9 : Int32) from nI_le (b := 9) (by omega) (by omega))]
      rw [if_neg c2] at ha
      subst ha
      have := go M h zTo_rfl
      rw [gr_39_0] at this
      exact this
  · rw [zit_f (fun z => c1 (k257.mp z))]
    obtain ⟨M1, e1, t1, o1⟩ := rf_x h (w := 1) (by omega) (by omega)
    rw [if_pos c1] at ha
    rw [ha] at t1
    rw [show F_X8_refuse 1 1 M = zV M1 from e1, zbV_V]
    have := go M1 t1 o1
    rw [gr_39_0] at this
    exact this
end ZXN
