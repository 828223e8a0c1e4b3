/-! WHICH NUMBERS ARE ARRANGEMENTS; RINGS -/
def zus (c : Nat) : Nat → Nat
  | 0 => 0
  | i + 1 => zpb (zus c i) (zfg c i)
theorem zus_b (c : Nat) : ∀ i, zus c i < 256 ∧ ∀ v, v < 8 → (zbi (zus c i) v = true ↔ ∃ j, j < i ∧ zfg c j = v)
  | 0 => ⟨by show (0 : Nat) < 256; omega, fun v _ => by
    rw [zus, bzero_b]
    exact ⟨fun z => (nomatch z), fun ⟨j, hj, _⟩ => absurd hj (Nat.not_lt_zero _)⟩⟩
  | i + 1 => by
    obtain ⟨h1, h2⟩ := zus_b c i
    obtain ⟨g1, g2⟩ := zpb_b _ h1 _ (zfg_lt c i)
    refine ⟨g1, fun v hv => ?_⟩
    rw [zus, g2 v hv, Bool.or_eq_true_iff, h2 v hv, decide_eq_true_iff]
    constructor
    · rintro (⟨j, hj, e⟩ | e)
      · exact ⟨j, by omega, e⟩
      · exact ⟨i, by omega, e.symm⟩
    · rintro ⟨j, hj, e⟩
      by_cases hji : j = i
      · subst hji; exact Or.inr e.symm
      · exact Or.inl ⟨j, by omega, e⟩
def zis (n c : Nat) : Bool := decide (c / 8 ^ n = 0) && decide (zus c n = 2 ^ n - 1)
theorem zis_ok {n c : Nat} (hn : n ≤ 8) (h : zis n c = true) : zAr n c := by
  obtain ⟨h1, h2⟩ := Bool.and_eq_true_iff.mp h
  have h1 := of_decide_eq_true h1
  have h2 := of_decide_eq_true h2
  have hb := (zus_b c n).2
  rw [h2] at hb
  have hlt : ∀ i, i < n → zfg c i < n := fun i hi => by
    have := (hb (zfg c i) (zfg_lt c i)).mpr ⟨i, hi, rfl⟩
    rw [bfull_b n (by omega) _ (zfg_lt c i)] at this
    exact of_decide_eq_true this
  have honto : ∀ v, v < n → ∃ i, i < n ∧ zfg c i = v := fun v hv => (hb v (by omega)).mp (by rw [bfull_b n (by omega) v (by omega)]; exact decide_eq_true hv)
  refine ⟨?_, hlt, fun i hi j hj e => onto_inj honto i hi j hj (hlt i hi) e⟩
  rcases Nat.lt_or_ge c (8 ^ n) with h | h
  · exact h
  · have := Nat.div_pos h (Nat.pow_pos (by decide))
    omega
section ZIS
variable {S : zSD} {M : zM}
theorem ia_x (hS : zSx S M) (hn : S 0 0 ≤ 8) {c : Nat} (hc : c < 2 ^ 31) : F_X4_isArrangement 69 (nI c) M = zI (if zis (S 0 0) c = true then 1 else 0) M := by
  have hd : c / 8 ^ S 0 0 ≤ c := Nat.div_le_self _ _
  unfold F_X4_isArrangement zis
  rw [gr_69_0, gr_40_0, sx_n hS, zlt_eq, zjo_eq, zit_f (nI_pos hc), shr8 hc (by omega)]
  by_cases h0 : c / 8 ^ S 0 0 = 0
  · rw [zit_t (by rw [h0]; rfl), decide_eq_true h0, Bool.true_and]
    refine zfor (i := 0) (f := zN) (a := ()) (S 0 0) (fun f i (_ : Unit) => F_X4_isArrangement_L30 (nI c) (nI (S 0 0)) (fun (y1 : Int32) (M2 : zM) => zjo (fun (w1 : Int32) (M3 : zM) => zck (zbo w1) (zI w1 M3)) (fun (k2 : Int32 → zM → zO) => zit (y1 = (((1 : Int32) <<< (nI (S 0 0) &&& 31)) - 1)) (k2 1 M2) (k2 0 M2))) f (nI (zus c i)) (nI i) M) (fun _ _ => True) (fun o => o = zI (if decide (zus c (S 0 0) = 2 ^ S 0 0 - 1) = true then 1 else 0) M) ?_ ?_ (by omega) (zN_ge (by omega)) trivial
    · rintro f i _ hi -
      refine Or.inr ⟨(), ?_, trivial⟩
      show F_X4_isArrangement_L30 (nI c) (nI (S 0 0)) _ (f + 1) _ _ M = F_X4_isArrangement_L30 (nI c) (nI (S 0 0)) _ f (nI (zpb (zus c i) (zfg c i))) _ M
      rw [F_X4_isArrangement_L30, zit_f (nI_ge hi (by omega))]
      unfold F_X4_figure
      rw [fig_e hc (by omega), zbI_I, bset _ (zus_b c i).1 _ (zfg_lt c i), zlt_eq, nI_1]
    · rintro f _ -
      show F_X4_isArrangement_L30 (nI c) (nI (S 0 0)) _ (f + 1) _ _ M = _
      have hb := (zus_b c (S 0 0)).1
      have hf := bfull_lt (S 0 0) (by omega)
      rw [F_X4_isArrangement_L30, zit_t (nI_le (Nat.le_refl _) (by omega)), zjo_eq, bfull _ (by omega)]
      by_cases h1 : zus c (S 0 0) = 2 ^ S 0 0 - 1
      · rw [zit_t (by rw [h1]), decide_eq_true h1]
        rfl
      · rw [zit_f (fun e => h1 ((nI_eq (by omega) (by omega)).mp e)), decide_eq_false h1]
        rfl
  · rw [zit_f (nI_ne0 (Nat.pos_of_ne_zero h0) (by omega)), decide_eq_false h0, Bool.false_and]
    rfl
theorem ia_x0 {a : Int32} (ha : a < 0) : F_X4_isArrangement 69 a M = zI 0 M := by
  unfold F_X4_isArrangement
  rw [zlt_eq, zjo_eq, zit_t ha]
  rfl
theorem ia_m (hS : zSm S M) (hn : S 0 0 ≤ 8) {c : Nat} (hc : c < 2 ^ 31) : ∃ M', F_X12_isArrangement 79 (nI c) M = zI (if zis (S 0 0) c = true then 1 else 0) M' ∧ ((∀ i, i < S 0 0 → M' 113 i = nI (zfg c i)) ∧ zoff [113] M M') := by
  unfold F_X12_isArrangement
  rw [zit_t (show (0 : Int32) ≤ nI c from nI_le (a := 0) (by omega) hc)]
  have key : ∃ M', F_X12_isArrangement_L13 79 (fun (y1 : Int32) (y2 : Int32) (M2 : zM) => zjo (fun (w1 : Int32) (M4 : zM) => zck (zbo w1) (zI w1 M4)) (fun (k1 : Int32 → zM → zO) => zjo (fun  (M3 : zM) => k1 0 M3) (fun (k2 : zM → zO) => zit (y1 = 0) (zit (y2 = (((1 : Int32) <<< ((M2 79 1) &&& 31)) - 1)) (k1 1 M2) (k2 M2)) (k2 M2)))) zN (nI (c / 8 ^ 0)) 0 0 M = zI (if zis (S 0 0) c = true then 1 else 0) M' ∧ ((∀ i, i < S 0 0 → M' 113 i = nI (zfg c i)) ∧ zoff [113] M M') := by
    refine zfor (i := 0) (f := zN) (a := M) (S 0 0) (fun f i (M1 : zM) => F_X12_isArrangement_L13 79 (fun (y1 : Int32) (y2 : Int32) (M2 : zM) => zjo (fun (w1 : Int32) (M4 : zM) => zck (zbo w1) (zI w1 M4)) (fun (k1 : Int32 → zM → zO) => zjo (fun  (M3 : zM) => k1 0 M3) (fun (k2 : zM → zO) => zit (y1 = 0) (zit (y2 = (((1 : Int32) <<< ((M2 79 1) &&& 31)) - 1)) (k1 1 M2) (k2 M2)) (k2 M2)))) f (nI (c / 8 ^ i)) (nI (zus c i)) (nI i) M1) (fun i M1 => (∀ j, j < i → M1 113 j = nI (zfg c j)) ∧ zoff [113] M M1) (fun o => ∃ M', o = zI (if zis (S 0 0) c = true then 1 else 0) M' ∧ ((∀ i, i < S 0 0 → M' 113 i = nI (zfg c i)) ∧ zoff [113] M M')) ?_ ?_ (by omega) (zN_ge (by omega)) ⟨fun j hj => absurd hj (Nat.not_lt_zero _), zoff_rfl⟩
    · rintro f i M1 hi ⟨h1, o1⟩
      refine Or.inr ?_
      have hd : c / 8 ^ i ≤ c := Nat.div_le_self _ _
      have n1 : M1 79 1 = nI (S 0 0) := by rw [o1 79 (by decide)]; exact sm_n hS
      show ∃ M2, F_X12_isArrangement_L13 79 _ (f + 1) _ _ _ M1 = F_X12_isArrangement_L13 79 _ f (nI (c / 8 ^ (i + 1))) (nI (zpb (zus c i) (zfg c i))) _ M2 ∧ _
      rw [F_X12_isArrangement_L13, n1, zit_f (nI_ge hi (by omega)), show (!decide (8 = 0)) = true from by decide, zck_t, zin_k (k := i) (n := 8) (by omega) (by omega), zck_t, show (8 : Int32) = nI 8 from rfl, pk_rem (by omega) (by omega) (by omega), zst_eq, zck_t, show c / 8 ^ i % 8 = zfg c i from rfl, bset _ (zus_b c i).1 _ (zfg_lt c i), zlt_eq, zck_t, pk_div (by omega) (by omega) (by omega), zlt_eq, zix_k (k := i) (by omega), nI_1, Nat.div_div_eq_div_mul, ← Nat.pow_succ, gr_79_59]
      refine ⟨_, rfl, fun j hj => ?_, zoff_up o1 (by decide)⟩
      rw [zup_row]
      by_cases e : j = i
      · rw [e, upd_eq]
      · rw [upd_ne e]
        exact h1 j (by omega)
    · rintro f M1 ⟨h1, o1⟩
      have n1 : M1 79 1 = nI (S 0 0) := by rw [o1 79 (by decide)]; exact sm_n hS
      have hd : c / 8 ^ S 0 0 ≤ c := Nat.div_le_self _ _
      have hb := (zus_b c (S 0 0)).1
      have hf := bfull_lt (S 0 0) (by omega)
      show ∃ M2, F_X12_isArrangement_L13 79 _ (f + 1) _ _ _ M1 = _ ∧ _
      rw [F_X12_isArrangement_L13, n1, zit_t (nI_le (Nat.le_refl _) (by omega)), zjo_eq, zjo_eq, bfull _ (by omega)]
      refine ⟨M1, ?_, h1, o1⟩
      unfold zis
      by_cases h0 : c / 8 ^ S 0 0 = 0
      · rw [zit_t (by rw [h0]; rfl), decide_eq_true h0, Bool.true_and]
        by_cases h2 : zus c (S 0 0) = 2 ^ S 0 0 - 1
        · rw [zit_t (by rw [h2]), decide_eq_true h2]
          rfl
        · rw [zit_f (fun e => h2 ((nI_eq (by omega) (by omega)).mp e)), decide_eq_false h2]
          rfl
      · rw [zit_f (nI_ne0 (Nat.pos_of_ne_zero h0) (by omega)), decide_eq_false h0, Bool.false_and]
        rfl
  rw [Nat.pow_zero, Nat.div_one] at key
  exact key
theorem ia_m0 {a : Int32} (ha : a < 0) : F_X12_isArrangement 79 a M = zI 0 M := by
  unfold F_X12_isArrangement
  rw [zit_f (fun z => Int32.lt_irrefl (Int32.lt_of_lt_of_le ha z))]
  rfl
end ZIS
/-- a walk till one was there -/
def zwl (f : Nat → Nat) : Nat → Nat → Nat → Nat
  | 0, g, _ => g
  | d + 1, g, a => if zbi g a = true then g else zwl f d (zpb g a) (f a)
def zrg (f : Nat → Nat) : Nat → Nat × Nat
  | 0 => (0, 0)
  | i + 1 => if zbi (zrg f i).2 i = true then zrg f i else ((zrg f i).1 + 1, zwl f 8 (zrg f i).2 i)
theorem zwl_set {f : Nat → Nat} {g a : Nat} (h : zbi g a = true) : ∀ d, zwl f d g a = g
  | 0 => rfl
  | d + 1 => by rw [zwl, if_pos h]
theorem zwl_b {n : Nat} (hn : n ≤ 8) {f : Nat → Nat} (hf : ∀ a, a < n → f a < n) : ∀ d g a, g < 256 → a < n → zwl f d g a < 256
  | 0, g, a, hg, _ => hg
  | d + 1, g, a, hg, ha => by
    rw [zwl]
    split
    · exact hg
    · exact zwl_b hn hf d _ _ (zpb_b g hg a (by omega)).1 (hf a ha)
theorem zrg_b {n : Nat} (hn : n ≤ 8) {f : Nat → Nat} (hf : ∀ a, a < n → f a < n) : ∀ i, i ≤ n → (zrg f i).2 < 256
  | 0, _ => by show (0 : Nat) < 256; omega
  | i + 1, hi => by
    rw [zrg]
    split
    · exact zrg_b hn hf i (by omega)
    · exact zwl_b hn hf 8 _ _ (zrg_b hn hf i (by omega)) (by omega)
/-- who has a name, told -/
def zhn (w : zWD) (v : Nat) : Nat → Nat → Nat
  | 0, _ => 0
  | d + 1, i => if w.1 i = v then i else zhn w v d (i + 1)
theorem zhn_fi {w : zWD} {v : Nat} : ∀ d i, (∃ j, i ≤ j ∧ j < i + d ∧ w.1 j = v) → zfi (fun i => decide (w.1 i = v)) d i = nI (zhn w v d i) ∧ zhn w v d i < i + d
  | 0, i, ⟨j, h1, h2, _⟩ => absurd h2 (by omega)
  | d + 1, i, ⟨j, h1, h2, h3⟩ => by
    rw [zfi, zhn]
    by_cases e : w.1 i = v
    · rw [if_pos (decide_eq_true e), if_pos e]
      exact ⟨rfl, by omega⟩
    · rw [if_neg (by rw [decide_eq_false e]; decide), if_neg e]
      obtain ⟨g1, g2⟩ := zhn_fi (w := w) (v := v) d (i + 1) ⟨j, by
        have : j ≠ i := fun z => e (by rw [← z]; exact h3)
        omega, by omega, h3⟩
      exact ⟨g1, by omega⟩
section ZRN
variable {S : zSD} {w : zWD} {M : zM}
def zhf (S : zSD) (w : zWD) (c a : Nat) : Nat := zhn w (zfg c a) (S 0 0) 0
theorem zhf_ok (hk : zWok S w) {c : Nat} (hA : zAr (S 0 0) c) {a : Nat} (ha : a < S 0 0) : zfi (fun i => decide (w.1 i = zfg c a)) (S 0 0) 0 = nI (zhf S w c a) ∧ zhf S w c a < S 0 0 := by
  obtain ⟨j, hj, e⟩ := inj_onto (p := w.1) hk.2.2.1 hk.2.1 (hA.2.1 a ha)
  have := zhn_fi (w := w) (v := zfg c a) (S 0 0) 0 ⟨j, by omega, by omega, e⟩
  rw [Nat.zero_add] at this
  exact this
theorem fo_x (hS : zSx S M) (ho : zSok S) (hW : zWx 40 w M) (hk : zWok S w) {c : Nat} (hA : zAr (S 0 0) c) : F_X4_fewestOfItself 69 (nI c) M = zI (nI (S 0 0) - nI (zrg (zhf S w c) (S 0 0)).1) M := by
  have hn := so_n ho
  have h8 := pow8 hn
  have hcl := hA.1
  have hf : ∀ a, a < S 0 0 → zhf S w c a < S 0 0 := fun a ha => (zhf_ok hk hA ha).2
  have walk : ∀ (x3 x4 : Int32) (K : Int32 → zM → zO) (d : Nat), d ≤ 8 → ∀ (F : Nat), d < F → ∀ g a, g < 256 → a < S 0 0 → F_X4_fewestOfItself_L41 69 (nI c) x3 x4 K F (nI g) (nI a) (nI (8 - d)) M = K (nI (zwl (zhf S w c) d g a)) M := by
    intro x3 x4 K d
    induction d with
    | zero =>
      intro _ F hF g a hg ha
      obtain ⟨F, rfl⟩ : ∃ m, F = m + 1 := ⟨F - 1, by omega⟩
      rw [F_X4_fewestOfItself_L41, zit_t (by decide)]
      rfl
    | succ d ih =>
      intro hd F hF g a hg ha
      obtain ⟨F, rfl⟩ : ∃ m, F = m + 1 := ⟨F - 1, by omega⟩
      rw [F_X4_fewestOfItself_L41, show (8 : Int32) = nI 8 from rfl, zit_f (nI_ge (by omega) (by omega)), zit_f (nI_n1 (by omega)), zwl]
      by_cases hb : zbi g a = true
      · rw [zit_f (by rw [bi_0 hg (by omega), hb]; decide), if_pos hb]
      · have hb' : zbi g a = false := by
          cases hz : zbi g a with
          | true => exact absurd hz hb
          | false => rfl
        rw [zit_t (by rw [bi_0 hg (by omega)]; exact hb'), if_neg hb, bset g hg a (by omega), zlt_eq]
        unfold F_X4_figure
        rw [fig_e (by omega) (by omega), zbI_I, gr_69_0, hd_x hS ho hW hk (zfg_lt c a), (zhf_ok hk hA ha).1, zbI_I, nI_1, show 8 - (d + 1) + 1 = 8 - d from by omega]
        exact ih (by omega) F (by omega) _ _ (zpb_b g hg a (by omega)).1 (hf a ha)
  unfold F_X4_fewestOfItself
  refine zfor (i := 0) (f := zN) (a := ()) (S 0 0) (fun F i (_ : Unit) => F_X4_fewestOfItself_L7 69 (nI c) (fun (y2 : Int32) (M5 : zM) => zI ((M5 (zgr (zgr 69 0) 0) 0) - y2) M5) F (nI (zrg (zhf S w c) i).2) (nI (zrg (zhf S w c) i).1) (nI i) M) (fun _ _ => True) (fun o => o = zI (nI (S 0 0) - nI (zrg (zhf S w c) (S 0 0)).1) M) ?_ ?_ (by omega) (zN_ge (by omega)) trivial
  · rintro F i _ hi -
    refine Or.inr ⟨(), ?_, trivial⟩
    have hg := zrg_b hn hf i (by omega)
    show F_X4_fewestOfItself_L7 69 (nI c) _ (F + 1) _ _ _ M = F_X4_fewestOfItself_L7 69 (nI c) _ F (nI (zrg (zhf S w c) (i + 1)).2) (nI (zrg (zhf S w c) (i + 1)).1) _ M
    rw [F_X4_fewestOfItself_L7, gr_69_0, gr_40_0, sx_n hS, zit_f (nI_ge hi (by omega)), zjo_eq]
    have wk := fun (x3 x4 : Int32) (K : Int32 → zM → zO) => walk x3 x4 K 8 (Nat.le_refl _) zN (zN_ge (by omega)) (zrg (zhf S w c) i).2 i hg hi
    have wk' : ∀ (x3 x4 : Int32) (K : Int32 → zM → zO), F_X4_fewestOfItself_L41 69 (nI c) x3 x4 K zN (nI (zrg (zhf S w c) i).2) (nI i) 0 M = K (nI (zwl (zhf S w c) 8 (zrg (zhf S w c) i).2 i)) M := wk
    by_cases hb : zbi (zrg (zhf S w c) i).2 i = true
    · rw [zit_f (by rw [bi_0 hg (by omega), hb]; decide)]
      dsimp only
      rw [wk', zwl_set hb, nI_1, zrg, if_pos hb]
    · have hb' : zbi (zrg (zhf S w c) i).2 i = false := by
        cases hz : zbi (zrg (zhf S w c) i).2 i with
        | true => exact absurd hz hb
        | false => rfl
      rw [zit_t (by rw [bi_0 hg (by omega)]; exact hb')]
      dsimp only
      rw [wk', nI_1, nI_1, zrg, if_neg hb]
  · rintro F _ -
    show F_X4_fewestOfItself_L7 69 (nI c) _ (F + 1) _ _ _ M = _
    rw [F_X4_fewestOfItself_L7, gr_69_0, gr_40_0, sx_n hS, zit_t (nI_le (Nat.le_refl _) (by omega))]
theorem rg_m (hS : zSm S M) (ho : zSok S) (hW : zWr (M 102) 0 w) (hk : zWok S w) {c : Nat} (hA : zAr (S 0 0) c) (h113 : ∀ i, i < S 0 0 → M 113 i = nI (zfg c i)) : F_X12_rings 79 M = zI (nI (zrg (zhf S w c) (S 0 0)).1) M := by
  have hn := so_n ho
  have hf : ∀ a, a < S 0 0 → zhf S w c a < S 0 0 := fun a ha => (zhf_ok hk hA ha).2
  have walk : ∀ (x1 x3 : Int32) (K : Int32 → zM → zO) (d : Nat) (F : Nat), d < F → ∀ g a, g < 256 → a < S 0 0 → zcu (fun v => !zbi g v) 8 ≤ d → F_X12_rings_L32 79 x1 x3 K F (nI g) (nI a) M = K (nI (zwl (zhf S w c) d g a)) M := by
    intro x1 x3 K d
    induction d with
    | zero =>
      intro F hF g a hg ha hz
      obtain ⟨F, rfl⟩ : ∃ m, F = m + 1 := ⟨F - 1, by omega⟩
      have hb : zbi g a = true := by
        cases h5 : zbi g a with
        | true => rfl
        | false =>
          have := zcu_less (P := fun _ => false) (Q := fun v => !zbi g v) 8 (fun _ _ z => absurd z (by decide)) ⟨a, by omega, rfl, by rw [h5]; rfl⟩
          omega
      rw [F_X12_rings_L32, zit_f (by rw [bi_0 hg (by omega), hb]; decide)]
      rfl
    | succ d ih =>
      intro F hF g a hg ha hz
      obtain ⟨F, rfl⟩ : ∃ m, F = m + 1 := ⟨F - 1, by omega⟩
      rw [F_X12_rings_L32, zwl]
      by_cases hb : zbi g a = true
      · rw [zit_f (by rw [bi_0 hg (by omega), hb]; decide), if_pos hb]
      · have hb' : zbi g a = false := by
          cases hz : zbi g a with
          | true => exact absurd hz hb
          | false => rfl
        obtain ⟨p1, p2⟩ := zpb_b g hg a (by omega)
        rw [zit_t (by rw [bi_0 hg (by omega)]; exact hb'), if_neg hb, bset g hg a (by omega), zlt_eq, zin_k (k := a) (n := 8) (by omega) (by omega), zck_t, gr_79_47, gr_79_59, zix_k (k := a) (by omega), h113 a ha, hd_m zal102 hS ho hW hk (zfg_lt c a), (zhf_ok hk hA ha).1, zbI_I]
        refine ih F (by omega) _ _ p1 (hf a ha) ?_
        have := zcu_less (P := fun v => !zbi (zpb g a) v) (Q := fun v => !zbi g v) 8 (fun v hv hp => by
          rw [p2 v hv] at hp
          cases h5 : zbi g v with
          | true => rw [h5, Bool.true_or] at hp; exact absurd hp (by decide)
          | false => rfl) ⟨a, by omega, by rw [p2 a (by omega), decide_eq_true rfl, Bool.or_true]; rfl, by rw [hb']; rfl⟩
        omega
  unfold F_X12_rings
  refine zfor (i := 0) (f := zN) (a := ()) (S 0 0) (fun F i (_ : Unit) => F_X12_rings_L6 79 (fun (y2 : Int32) (M4 : zM) => zI y2 M4) F (nI (zrg (zhf S w c) i).1) (nI (zrg (zhf S w c) i).2) (nI i) M) (fun _ _ => True) (fun o => o = zI (nI (zrg (zhf S w c) (S 0 0)).1) M) ?_ ?_ (by omega) (zN_ge (by omega)) trivial
  · rintro F i _ hi -
    refine Or.inr ⟨(), ?_, trivial⟩
    have hg := zrg_b hn hf i (by omega)
    show F_X12_rings_L6 79 _ (F + 1) _ _ _ M = F_X12_rings_L6 79 _ F (nI (zrg (zhf S w c) (i + 1)).1) (nI (zrg (zhf S w c) (i + 1)).2) _ M
    rw [F_X12_rings_L6, sm_n hS, zit_f (nI_ge hi (by omega)), zjo_eq]
    by_cases hb : zbi (zrg (zhf S w c) i).2 i = true
    · rw [zit_t (by rw [bi_1 hg (by omega)]; exact hb), nI_1, zrg, if_pos hb]
    · rw [zit_f (by rw [bi_1 hg (by omega)]; exact hb), walk _ _ _ 8 zN (zN_ge (by omega)) _ _ hg hi (zcu_le _ 8), nI_1, nI_1, zrg, if_neg hb]
  · rintro F _ -
    show F_X12_rings_L6 79 _ (F + 1) _ _ _ M = _
    rw [F_X12_rings_L6, sm_n hS, zit_t (nI_le (Nat.le_refl _) (by omega))]
end ZRN
