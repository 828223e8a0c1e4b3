/-! the reference's tape: the next token -/
def zpkw (f : Nat → Nat) : Nat → Nat
  | 0 => 0
  | k + 1 => 32 * zpkw f k + (f k - 96)
theorem zpkw_lt {f : Nat → Nat} : ∀ k, (∀ j, j < k → 97 ≤ f j ∧ f j ≤ 122) → zpkw f k < 32 ^ k
  | 0, _ => by show (0 : Nat) < 1; decide
  | k + 1, h => by
    have h1 := zpkw_lt k (fun j hj => h j (by omega))
    have h2 := h k (by omega)
    show 32 * zpkw f k + (f k - 96) < 32 ^ (k + 1)
    rw [Nat.pow_succ]
    omega
abbrev lI (k : Nat) : Int64 := Int64.ofNat k
theorem lI_nat {k : Nat} (h : k < 2 ^ 62) : (lI k).toBitVec.toNat = k := by
  show (BitVec.ofNat 64 k).toNat = k
  rw [BitVec.toNat_ofNat]
  omega
theorem lI_inj {a b : Nat} (ha : a < 2 ^ 62) (hb : b < 2 ^ 62) : lI a = lI b ↔ a = b := by
  constructor
  · intro h
    have := congrArg (fun x : Int64 => x.toBitVec.toNat) h
    simp only [lI_nat ha, lI_nat hb] at this
    exact this
  · intro h; rw [h]
theorem pk5 {a b : Nat} (ha : a < 2 ^ 40) (hb : b < 32) : ((lI a) <<< ((5 : Int32).toInt64 &&& 63)) ||| (lI b) = lI (32 * a + b) := by
  have e5 : ((5 : Int32).toInt64 &&& 63) = 5 := by decide
  rw [e5]
  apply Int64.toBitVec_inj.mp
  apply BitVec.eq_of_toNat_eq
  rw [lI_nat (by omega), Int64.toBitVec_or, Int64.toBitVec_shiftLeft, BitVec.toNat_or, lI_nat (by omega)]
  have e6 : ((5 : Int64).toBitVec.smod 64) = 5#64 := by decide
  rw [e6, BitVec.shiftLeft_eq', BitVec.toNat_shiftLeft, lI_nat (by omega)]
  have e7 : (5#64).toNat = 5 := by decide
  rw [e7, Nat.shiftLeft_eq, Nat.mod_eq_of_lt (by omega)]
  have := Nat.shiftLeft_add_eq_or_of_lt (a := a) (b := b) (i := 5) (by omega)
  rw [Nat.shiftLeft_eq] at this
  rw [← this]
  omega
theorem lI_96 : ∀ b, b < 256 → 97 ≤ b → (nI b - 96).toInt64 = lI (b - 96) := by decide +kernel
section ZGO
variable {B : Nat → Nat} {n : Nat}
def zTq (B : Nat → Nat) (n : Nat) (M : zM) : Prop := M 79 19 = nI n ∧ ∀ k, k < n → M 89 k = nI (B k)
/-- only the token's fields -/
def zMo (M M' : zM) : Prop := (∀ k, (k < 20 ∨ 26 < k) → k ≠ 1026 → M' 79 k = M 79 k) ∧ zoff [79] M M'
theorem zMo_rfl {M : zM} : zMo M M := ⟨fun _ _ _ => rfl, zoff_rfl⟩
theorem zMo_tr {M M' M'' : zM} (h : zMo M M') (h' : zMo M' M'') : zMo M M'' := ⟨fun k hk h2 => (h'.1 k hk h2).trans (h.1 k hk h2), zoff_trans h.2 h'.2⟩
theorem zMo_up {M M' : zM} {k : Nat} {v : Int32} (h : zMo M M') (hk : (20 ≤ k ∧ k ≤ 26) ∨ k = 1026) : zMo M (zup M' 79 k v) := ⟨fun j hj h2 => by rw [zup_row, upd_ne (by omega), h.1 j hj h2], zoff_up h.2 (by decide)⟩
theorem zMo_q {M M' : zM} (h : zTq B n M) (o : zMo M M') : zTq B n M' := ⟨by rw [o.1 19 (by omega) (by omega)]; exact h.1, fun k hk => by rw [o.2 89 (by decide)]; exact h.2 k hk⟩
theorem bat_m (ht : zTxt B n) {M : zM} (h : zTq B n M) {p : Nat} (hp : p < 2 ^ 31) : F_X12_byteAt 79 (nI p) M = zI (nI (B p)) M := by
  obtain ⟨h1, h2, h3⟩ := ht
  unfold F_X12_byteAt
  rw [zjo_eq, h.1]
  by_cases hc : n ≤ p
  · rw [zit_t (nI_le hc hp), h3 p hc]
    rfl
  · rw [zit_f (nI_ge (by omega) (by omega)), zin_k (k := p) (n := 700) (by omega) (by omega), zck_t, gr_79_14, zix_k (k := p) (by omega), h.2 p (by omega)]
theorem il_m {b : Nat} (hb : b < 256) (M : zM) : F_X12_isLetter (nI b) M = zI (if 97 ≤ b ∧ b ≤ 122 then 1 else 0) M := by
  unfold F_X12_isLetter
  rw [zjo_eq, zjo_eq]
  by_cases c1 : b < 97
  · rw [zit_t (show nI b < (97 : Int32) from nI_lt (b := 97) c1 (by omega)), if_neg (by omega)]
    try dsimp only
    rw [zbo_0, zck_t]
  · rw [zit_f (show ¬ nI b < (97 : Int32) from (nI_nlt (by omega) (by omega) : ¬ nI b < nI 97))]
    by_cases c2 : 122 < b
    · rw [zit_t (show (122 : Int32) < nI b from nI_lt (a := 122) c2 (by omega)), if_neg (by omega)]
      try dsimp only
      rw [zbo_0, zck_t]
    · rw [zit_f (show ¬ (122 : Int32) < nI b from (nI_nlt (by omega) (by omega) : ¬ nI 122 < nI b)), if_pos (by omega)]
      try dsimp only
      rw [zbo_1, zck_t]
theorem idg_m {b : Nat} (hb : b < 256) (M : zM) : F_X12_isDigit (nI b) M = zI (if 48 ≤ b ∧ b ≤ 57 then 1 else 0) M := by
  unfold F_X12_isDigit
  rw [zjo_eq, zjo_eq]
  by_cases c1 : b < 48
  · rw [zit_t (show nI b < (48 : Int32) from nI_lt (b := 48) c1 (by omega)), if_neg (by omega)]
    try dsimp only
    rw [zbo_0, zck_t]
  · rw [zit_f (show ¬ nI b < (48 : Int32) from (nI_nlt (by omega) (by omega) : ¬ nI b < nI 48))]
    by_cases c2 : 57 < b
    · rw [zit_t (show (57 : Int32) < nI b from nI_lt (a := 57) c2 (by omega)), if_neg (by omega)]
      try dsimp only
      rw [zbo_0, zck_t]
    · rw [zit_f (show ¬ (57 : Int32) < nI b from (nI_nlt (by omega) (by omega) : ¬ nI 57 < nI b)), if_pos (by omega)]
      try dsimp only
      rw [zbo_1, zck_t]
theorem zup_up {M : zM} {a k : Nat} {v w : Int32} : zup (zup M a k v) a k w = zup M a k w := by
  funext i j
  unfold zup
  split <;> rfl
theorem skp_m (ht : zTxt B n) {M : zM} (h : zTq B n M) {e : Nat} (he : e ≤ n) (h4 : M 79 20 = nI e) (K : zM → zO) : F_X12_goes_L0 79 K zN M = K (zup M 79 20 (nI (ztS B n e))) := by
  have hn := ht.1
  refine zfor (i := e) (f := zN) (a := M) n (fun f p (M1 : zM) => F_X12_goes_L0 79 K f M1) (fun p M1 => M1 = zup M 79 20 (nI p) ∧ ztS B n e = zskp B (n - p) p) (fun o => o = K (zup M 79 20 (nI (ztS B n e)))) ?_ ?_ he (zN_ge (by omega)) ⟨by rw [← h4, zup_same rfl], rfl⟩
  · rintro f p M1 hp ⟨rfl, hz⟩
    obtain ⟨d, hd⟩ : ∃ d, n - p = d + 1 := ⟨n - p - 1, by omega⟩
    rw [hd, zskp] at hz
    have hbp := ht.2.1 p
    have h1 : zTq B n (zup M 79 20 (nI p)) := zMo_q h (zMo_up zMo_rfl (by omega))
    have e4 : zup M 79 20 (nI p) 79 20 = nI p := by rw [zup_row, upd_eq]
    have e32 : (nI (B p) = (32 : Int32)) = (B p = 32) := i_eq (b := 32) (by omega) (by omega)
    have e10 : (nI (B p) = (10 : Int32)) = (B p = 10) := i_eq (b := 10) (by omega) (by omega)
    have stp : F_X12_goes_L0 79 K (f + 1) (zup M 79 20 (nI p)) = zit (B p = 32) (F_X12_goes_L0 79 K f (zup M 79 20 (nI (p + 1)))) (zit (B p = 10) (F_X12_goes_L0 79 K f (zup M 79 20 (nI (p + 1)))) (K (zup M 79 20 (nI p)))) := by
      rw [F_X12_goes_L0, h1.1, e4, zit_f (nI_ge hp (by omega)), bat_m ht h1 (by omega), zbI_I, zjo_eq]
      rw [e4, bat_m ht h1 (by omega), zbI_I]
      try dsimp only
      rw [zst_eq, e4, nI_1, zup_up]
      simp only [e32, e10]
    show F_X12_goes_L0 79 K (f + 1) (zup M 79 20 (nI p)) = _ ∨ _
    rw [stp]
    by_cases c1 : B p = 32 ∨ B p = 10
    · refine Or.inr ⟨zup M 79 20 (nI (p + 1)), ?_, rfl, ?_⟩
      · by_cases c2 : B p = 32
        · rw [zit_t c2]
        · rw [zit_f c2, zit_t (c1.resolve_left c2)]
      · rw [if_pos c1] at hz
        rw [hz]
        congr 1
        omega
    · refine Or.inl ?_
      rw [if_neg c1] at hz
      rw [zit_f (fun z => c1 (Or.inl z)), zit_f (fun z => c1 (Or.inr z)), hz]
  · rintro f M1 ⟨rfl, hz⟩
    have e0 : n - n = 0 := by omega
    rw [e0, zskp] at hz
    show F_X12_goes_L0 79 K (f + 1) (zup M 79 20 (nI n)) = _
    rw [F_X12_goes_L0, (zMo_q (B := B) h (zMo_up (k := 20) (v := nI n) zMo_rfl (by omega))).1, zup_row, upd_eq, zit_t (nI_le (Nat.le_refl _) (by omega)), hz]
theorem zgL_up (M : zM) (x : Int64) : zgL (zupL M 79 26 x) 79 26 = x := by
  unfold zgL zupL
  rw [zup_row, upd_ne (show 26 ≠ 26 + 1000 from by decide), upd_eq, zup_row, upd_eq]
  exact zmk_eq x
theorem zgL_cg {M M' : zM} (h1 : M' 79 26 = M 79 26) (h2 : M' 79 1026 = M 79 1026) : zgL M' 79 26 = zgL M 79 26 := by
  unfold zgL
  rw [h1, show 26 + 1000 = 1026 from rfl, h2]
/-- a word -/
theorem let_m (ht : zTxt B n) {M : zM} (h : zTq B n M) {s : Nat} (hs : s ≤ n) (h20 : M 79 20 = nI s) (h22 : M 79 22 = nI s) (hw : zgL M 79 26 = 0) (K : zM → zO) : ∃ M', F_X12_goes_L108 79 K zN M = K M' ∧ (M' 79 20 = nI (zeor B 97 122 (n - s) s) ∧ zgL M' 79 26 = lI (zpkw (fun j => B (s + j)) (min (zeor B 97 122 (n - s) s - s) 6)) ∧ (∀ k, k ≠ 20 → k ≠ 26 → k ≠ 1026 → M' 79 k = M 79 k) ∧ zoff [79] M M') := by
  have hn := ht.1
  refine zfor (i := s) (f := zN) (a := M) n (fun f p (M1 : zM) => F_X12_goes_L108 79 K f M1) (fun p M1 => s ≤ p ∧ zeor B 97 122 (n - s) s = zeor B 97 122 (n - p) p ∧ (∀ j, s ≤ j → j < p → 97 ≤ B j ∧ B j ≤ 122) ∧ M1 79 20 = nI p ∧ zgL M1 79 26 = lI (zpkw (fun j => B (s + j)) (min (p - s) 6)) ∧ (∀ k, k ≠ 20 → k ≠ 26 → k ≠ 1026 → M1 79 k = M 79 k) ∧ zoff [79] M M1) (fun o => ∃ M', o = K M' ∧ (M' 79 20 = nI (zeor B 97 122 (n - s) s) ∧ zgL M' 79 26 = lI (zpkw (fun j => B (s + j)) (min (zeor B 97 122 (n - s) s - s) 6)) ∧ (∀ k, k ≠ 20 → k ≠ 26 → k ≠ 1026 → M' 79 k = M 79 k) ∧ zoff [79] M M')) ?_ ?_ hs (zN_ge (by omega)) ⟨Nat.le_refl _, rfl, fun j h1 h2 => absurd h1 (by omega), h20, by rw [show min (s - s) 6 = 0 from by omega, hw]; rfl, fun _ _ _ _ => rfl, zoff_rfl⟩
  · rintro f p M1 hp ⟨i0, i1, i2, i3, i4, i5, i6⟩
    have h1 : zTq B n M1 := ⟨by rw [i5 19 (by decide) (by decide) (by decide)]; exact h.1, fun k hk => by rw [i6 89 (by decide)]; exact h.2 k hk⟩
    have hbp := ht.2.1 p
    obtain ⟨d, hd⟩ : ∃ d, n - p = d + 1 := ⟨n - p - 1, by omega⟩
    rw [hd, zeor] at i1
    have e22 : M1 79 22 = nI s := by rw [i5 22 (by decide) (by decide) (by decide), h22]
    show (∃ M', F_X12_goes_L108 79 K (f + 1) M1 = K M' ∧ _) ∨ _
    rw [F_X12_goes_L108, i3, bat_m ht h1 (by omega), zbI_I, il_m hbp, zbI_I]
    by_cases c1 : 97 ≤ B p ∧ B p ≤ 122
    · refine Or.inr ?_
      rw [if_pos c1] at i1
      have i1' : zeor B 97 122 (n - s) s = zeor B 97 122 (n - (p + 1)) (p + 1) := by
        rw [i1]
        congr 1
        omega
      have i2' : ∀ j, s ≤ j → j < p + 1 → 97 ≤ B j ∧ B j ≤ 122 := fun j h1 h2 => by
        by_cases e : j = p
        · rw [e]; exact c1
        · exact i2 j h1 (by omega)
      rw [if_pos c1, zit_f (by decide), zjo_eq, i3, e22, s_sub i0]
      by_cases c2 : 6 ≤ p - s
      · rw [zit_t (show (6 : Int32) ≤ nI (p - s) from nI_le (a := 6) c2 (by omega))]
        try dsimp only
        rw [zst_eq, i3, nI_1]
        refine ⟨_, rfl, by omega, i1', i2', by rw [zup_row, upd_eq], ?_, fun k k1 k2 k3 => by rw [zup_row, upd_ne k1]; exact i5 k k1 k2 k3, zoff_up i6 (by decide)⟩
        rw [zgL_cg (M := M1) (by rw [zup_row, upd_ne (by decide)]) (by rw [zup_row, upd_ne (by decide)]), i4, show min (p - s) 6 = min (p + 1 - s) 6 from by omega]
      · rw [zit_f (show ¬ (6 : Int32) ≤ nI (p - s) from (nI_ge (by omega) (by omega) : ¬ nI 6 ≤ nI (p - s))), bat_m ht h1 (by omega), zbI_I, zst_eq]
        try dsimp only
        rw [zst_eq, i4, lI_96 _ hbp c1.1]
        have hlt := zpkw_lt (f := fun j => B (s + j)) (min (p - s) 6) (fun j hj => i2 (s + j) (by omega) (by omega))
        have hpw : 32 ^ (min (p - s) 6) ≤ 32 ^ 6 := Nat.pow_le_pow_right (by decide) (by omega)
        have e326 : (32 : Nat) ^ 6 = 1073741824 := by decide
        rw [pk5 (by omega) (by omega)]
        have e20 : ∀ x : Int64, zupL M1 79 26 x 79 20 = nI p := fun x => by
          unfold zupL
          rw [zup_row, upd_ne (by decide), zup_row, upd_ne (by decide), i3]
        rw [e20, nI_1]
        refine ⟨_, rfl, by omega, i1', i2', by rw [zup_row, upd_eq], ?_, fun k k1 k2 k3 => ?_, ?_⟩
        · rw [zgL_cg (M := zupL M1 79 26 _) (by rw [zup_row, upd_ne (by decide)]) (by rw [zup_row, upd_ne (by decide)]), zgL_up]
          have e1 : min (p + 1 - s) 6 = min (p - s) 6 + 1 := by omega
          have e2 : min (p - s) 6 = p - s := by omega
          rw [e1, zpkw, e2, show s + (p - s) = p from by omega]
        · unfold zupL
          rw [zup_row, upd_ne k1, zup_row, upd_ne k3, zup_row, upd_ne k2]
          exact i5 k k1 k2 k3
        · exact zoff_up (zoff_up (zoff_up i6 (by decide)) (by decide)) (by decide)
    · refine Or.inl ?_
      rw [if_neg c1] at i1
      rw [if_neg c1, zit_t rfl]
      refine ⟨M1, rfl, by rw [i1, i3], by rw [i1, i4], i5, i6⟩
  · rintro f M1 ⟨i0, i1, i2, i3, i4, i5, i6⟩
    have h1 : zTq B n M1 := ⟨by rw [i5 19 (by decide) (by decide) (by decide)]; exact h.1, fun k hk => by rw [i6 89 (by decide)]; exact h.2 k hk⟩
    have e0 : n - n = 0 := by omega
    rw [e0, zeor] at i1
    show ∃ M', F_X12_goes_L108 79 K (f + 1) M1 = K M' ∧ _
    rw [F_X12_goes_L108, i3, bat_m ht h1 (by omega), zbI_I, il_m (ht.2.1 n), zbI_I, ht.2.2 n (Nat.le_refl _), if_neg (by decide), zit_t rfl]
    exact ⟨M1, rfl, by rw [i1, i3], by rw [i1, i4], i5, i6⟩
/-- a number -/
theorem dig_m (ht : zTxt B n) {M : zM} (h : zTq B n M) {s : Nat} (hs : s ≤ n) (h20 : M 79 20 = nI s) (h22 : M 79 22 = nI s) (hw : M 79 24 = 0) (K : zM → zO) : ∃ M', F_X12_goes_L187 79 K zN M = K M' ∧ (M' 79 20 = nI (zeor B 48 57 (n - s) s) ∧ M' 79 24 = nI (zdgv (fun j => B (s + j)) (min (zeor B 48 57 (n - s) s - s) 4)) ∧ (∀ k, k ≠ 20 → k ≠ 24 → M' 79 k = M 79 k) ∧ zoff [79] M M') := by
  have hn := ht.1
  refine zfor (i := s) (f := zN) (a := M) n (fun f p (M1 : zM) => F_X12_goes_L187 79 K f M1) (fun p M1 => s ≤ p ∧ zeor B 48 57 (n - s) s = zeor B 48 57 (n - p) p ∧ (∀ j, s ≤ j → j < p → 48 ≤ B j ∧ B j ≤ 57) ∧ M1 79 20 = nI p ∧ M1 79 24 = nI (zdgv (fun j => B (s + j)) (min (p - s) 4)) ∧ (∀ k, k ≠ 20 → k ≠ 24 → M1 79 k = M 79 k) ∧ zoff [79] M M1) (fun o => ∃ M', o = K M' ∧ (M' 79 20 = nI (zeor B 48 57 (n - s) s) ∧ M' 79 24 = nI (zdgv (fun j => B (s + j)) (min (zeor B 48 57 (n - s) s - s) 4)) ∧ (∀ k, k ≠ 20 → k ≠ 24 → M' 79 k = M 79 k) ∧ zoff [79] M M')) ?_ ?_ hs (zN_ge (by omega)) ⟨Nat.le_refl _, rfl, fun j h1 h2 => absurd h1 (by omega), h20, by rw [show min (s - s) 4 = 0 from by omega, hw]; rfl, fun _ _ _ => rfl, zoff_rfl⟩
  · rintro f p M1 hp ⟨i0, i1, i2, i3, i4, i5, i6⟩
    have h1 : zTq B n M1 := ⟨by rw [i5 19 (by decide) (by decide)]; exact h.1, fun k hk => by rw [i6 89 (by decide)]; exact h.2 k hk⟩
    have hbp := ht.2.1 p
    obtain ⟨d, hd⟩ : ∃ d, n - p = d + 1 := ⟨n - p - 1, by omega⟩
    rw [hd, zeor] at i1
    have e22 : M1 79 22 = nI s := by rw [i5 22 (by decide) (by decide), h22]
    show (∃ M', F_X12_goes_L187 79 K (f + 1) M1 = K M' ∧ _) ∨ _
    rw [F_X12_goes_L187, i3, bat_m ht h1 (by omega), zbI_I, idg_m hbp, zbI_I]
    by_cases c1 : 48 ≤ B p ∧ B p ≤ 57
    · refine Or.inr ?_
      rw [if_pos c1] at i1
      have i1' : zeor B 48 57 (n - s) s = zeor B 48 57 (n - (p + 1)) (p + 1) := by
        rw [i1]
        congr 1
        omega
      have i2' : ∀ j, s ≤ j → j < p + 1 → 48 ≤ B j ∧ B j ≤ 57 := fun j h1 h2 => by
        by_cases e : j = p
        · rw [e]; exact c1
        · exact i2 j h1 (by omega)
      rw [if_pos c1, zit_f (by decide), zjo_eq, i3, e22, s_sub i0]
      by_cases c2 : 4 ≤ p - s
      · rw [zit_t (show (4 : Int32) ≤ nI (p - s) from nI_le (a := 4) c2 (by omega))]
        try dsimp only
        rw [zst_eq, i3, nI_1]
        refine ⟨_, rfl, by omega, i1', i2', by rw [zup_row, upd_eq], ?_, fun k k1 k2 => by rw [zup_row, upd_ne k1]; exact i5 k k1 k2, zoff_up i6 (by decide)⟩
        rw [zup_row, upd_ne (by decide), i4, show min (p - s) 4 = min (p + 1 - s) 4 from by omega]
      · have e1 : min (p + 1 - s) 4 = min (p - s) 4 + 1 := by omega
        have e2 : min (p - s) 4 = p - s := by omega
        rw [zit_f (show ¬ (4 : Int32) ≤ nI (p - s) from (nI_ge (by omega) (by omega) : ¬ nI 4 ≤ nI (p - s))), bat_m ht h1 (by omega), zbI_I, zst_eq]
        try dsimp only
        rw [zst_eq, i4, show (10 : Int32) = nI 10 from rfl, pk_mul, nI_add, show (48 : Int32) = nI 48 from rfl, s_sub (by omega), show ∀ v, zup M1 79 24 v 79 20 = nI p from fun v => by rw [zup_row, upd_ne (by decide), i3], nI_1]
        refine ⟨_, rfl, by omega, i1', i2', by rw [zup_row, upd_eq], ?_, fun k k1 k2 => by rw [zup_row, upd_ne k1, zup_row, upd_ne k2]; exact i5 k k1 k2, zoff_up (zoff_up i6 (by decide)) (by decide)⟩
        rw [zup_row, upd_ne (by decide), zup_row, upd_eq, e1, zdgv, e2, show s + (p - s) = p from by omega]
        congr 1
        omega
    · refine Or.inl ?_
      rw [if_neg c1] at i1
      rw [if_neg c1, zit_t rfl]
      refine ⟨M1, rfl, by rw [i1, i3], by rw [i1, i4], i5, i6⟩
  · rintro f M1 ⟨i0, i1, i2, i3, i4, i5, i6⟩
    have h1 : zTq B n M1 := ⟨by rw [i5 19 (by decide) (by decide)]; exact h.1, fun k hk => by rw [i6 89 (by decide)]; exact h.2 k hk⟩
    have e0 : n - n = 0 := by omega
    rw [e0, zeor] at i1
    show ∃ M', F_X12_goes_L187 79 K (f + 1) M1 = K M' ∧ _
    rw [F_X12_goes_L187, i3, bat_m ht h1 (by omega), zbI_I, idg_m (ht.2.1 n), zbI_I, ht.2.2 n (Nat.le_refl _), if_neg (by decide), zit_t rfl]
    exact ⟨M1, rfl, by rw [i1, i3], by rw [i1, i4], i5, i6⟩
def zso (k : Nat) : Nat := if k = 256 then 0 else if k = 257 then 1 else if k = 258 then 2 else if k = 259 then 4 else 3
/-- the token at s -/
def zTo1 (B : Nat → Nat) (n s : Nat) (M : zM) : Prop := M 79 20 = nI (ztE B n s) ∧ M 79 21 = nI (zso (ztK B n s)) ∧ M 79 22 = nI s ∧ M 79 23 = nI (ztE B n s - s) ∧ (ztK B n s = 258 → M 79 24 = nI (zdgv (fun j => B (s + j)) (min (ztE B n s - s) 4))) ∧ M 79 25 = nI (B s) ∧ (ztK B n s = 257 → zgL M 79 26 = lI (zpkw (fun j => B (s + j)) (min (ztE B n s - s) 6)))
theorem gos_m (ht : zTxt B n) {M : zM} (h : zTq B n M) {e : Nat} (he : e ≤ n) (h20 : M 79 20 = nI e) : ∃ M', F_X12_goes 79 M = zV M' ∧ (zTo1 B n (ztS B n e) M' ∧ zMo M M') := by
  have hn := ht.1
  have hs := (ztS_le (B := B) he).2
  unfold F_X12_goes
  rw [skp_m ht h he h20]
  obtain ⟨s, hs'⟩ : ∃ s, ztS B n e = s := ⟨_, rfl⟩
  rw [hs'] at hs ⊢
  rw [zst_eq, zst_eq, zst_eq]
  obtain ⟨M1, hM1⟩ : ∃ M1, zup (zupL (zup (zup M 79 20 (nI s)) 79 22 (zup M 79 20 (nI s) 79 20)) 79 26 0) 79 24 0 = M1 := ⟨_, rfl⟩
  rw [hM1]
  have a20 : M1 79 20 = nI s := by
    rw [← hM1]
    unfold zupL
    rw [zup_row, upd_ne (by decide), zup_row, upd_ne (by decide), zup_row, upd_ne (by decide), zup_row, upd_ne (by decide), zup_row, upd_eq]
  have a22 : M1 79 22 = nI s := by
    rw [← hM1]
    unfold zupL
    rw [zup_row, upd_ne (by decide), zup_row, upd_ne (by decide), zup_row, upd_ne (by decide), zup_row, upd_eq, zup_row, upd_eq]
  have a24 : M1 79 24 = 0 := by rw [← hM1, zup_row, upd_eq]
  have a26 : zgL M1 79 26 = 0 := by
    rw [← hM1, zgL_cg (M := zupL (zup (zup M 79 20 (nI s)) 79 22 (zup M 79 20 (nI s) 79 20)) 79 26 0) (by rw [zup_row, upd_ne (by decide)]) (by rw [zup_row, upd_ne (by decide)]), zgL_up]
  have o1 : zMo M M1 := by
    rw [← hM1]
    exact zMo_up (zMo_up (zMo_up (zMo_up (zMo_up zMo_rfl (by omega)) (by omega)) (by omega)) (by omega)) (by omega)
  have hb := ht.2.1 s
  have h1 := zMo_q h o1
  rw [a20, bat_m ht h1 (by omega), zbI_I, zst_eq, zjo_eq]
  obtain ⟨M2, hM2⟩ : ∃ M2, zup M1 79 25 (nI (B s)) = M2 := ⟨_, rfl⟩
  rw [hM2]
  have k2 : ∀ k, k ≠ 25 → M2 79 k = M1 79 k := fun k hk => by rw [← hM2, zup_row, upd_ne hk]
  have b25 : M2 79 25 = nI (B s) := by rw [← hM2, zup_row, upd_eq]
  have o2 : zMo M M2 := by rw [← hM2]; exact zMo_up o1 (by omega)
  have h2 := zMo_q h o2
  have w2 : zgL M2 79 26 = 0 := by rw [zgL_cg (k2 26 (by decide)) (k2 1026 (by decide)), a26]
  rw [k2 20 (by decide), a20, h2.1]
  -- the end of all
  have fin : ∀ (M3 : zM) (v : Nat), M3 79 20 = nI (ztE B n s) → M3 79 22 = nI s → M3 79 25 = nI (B s) → v = zso (ztK B n s) → (ztK B n s = 258 → M3 79 24 = nI (zdgv (fun j => B (s + j)) (min (ztE B n s - s) 4))) → (ztK B n s = 257 → zgL M3 79 26 = lI (zpkw (fun j => B (s + j)) (min (ztE B n s - s) 6))) → zMo M M3 → ∃ M', zst (zup M3 79 21 (nI v)) (fun M32 => zst (zup M32 79 23 ((M32 79 20) - (M32 79 22))) (fun M35 => zV M35)) = zV M' ∧ (zTo1 B n s M' ∧ zMo M M') := fun M3 v m20 m22 m25 hv m24 m26 o3 => by
    have hle := (ztE_le (B := B) hs).1
    rw [zst_eq, zst_eq, show zup M3 79 21 (nI v) 79 20 = nI (ztE B n s) from by rw [zup_row, upd_ne (by decide), m20], show zup M3 79 21 (nI v) 79 22 = nI s from by rw [zup_row, upd_ne (by decide), m22], s_sub hle]
    refine ⟨_, rfl, ⟨?_, ?_, ?_, ?_, fun hk => ?_, ?_, fun hk => ?_⟩, zMo_up (zMo_up o3 (by omega)) (by omega)⟩
    · rw [zup_row, upd_ne (by decide), zup_row, upd_ne (by decide), m20]
    · rw [zup_row, upd_ne (by decide), zup_row, upd_eq, hv]
    · rw [zup_row, upd_ne (by decide), zup_row, upd_ne (by decide), m22]
    · rw [zup_row, upd_eq]
    · rw [zup_row, upd_ne (by decide), zup_row, upd_ne (by decide), m24 hk]
    · rw [zup_row, upd_ne (by decide), zup_row, upd_ne (by decide), m25]
    · rw [← m26 hk]
      exact zgL_cg (by rw [zup_row, upd_ne (by decide), zup_row, upd_ne (by decide)]) (by rw [zup_row, upd_ne (by decide), zup_row, upd_ne (by decide)])
  by_cases c0 : n ≤ s
  · have hK : ztK B n s = 256 := by unfold ztK; rw [if_pos c0]
    have hE : ztE B n s = s := by unfold ztE; rw [if_pos c0]
    rw [zit_f (nI_nlt c0 (by omega))]
    exact fin M2 0 (by rw [k2 20 (by decide), a20, hE]) (by rw [k2 22 (by decide), a22]) b25 (by rw [hK]; rfl) (fun z => by omega) (fun z => by omega) o2
  · rw [zit_t (nI_lt (by omega) (by omega)), il_m hb, zbI_I]
    by_cases c1 : 97 ≤ B s ∧ B s ≤ 122
    · have hK : ztK B n s = 257 := by unfold ztK; rw [if_neg c0, if_pos c1]
      have hE : ztE B n s = zeor B 97 122 (n - s) s := by unfold ztE; rw [if_neg c0, if_pos c1]
      rw [if_pos c1, zit_f (by decide)]
      obtain ⟨M3, e3, p20, p26, pk, po⟩ := let_m ht h2 hs (by rw [k2 20 (by decide), a20]) (by rw [k2 22 (by decide), a22]) w2 (fun (M31 : zM) => zst (zup M31 79 21 1) (fun M32 => zst (zup M32 79 23 ((M32 79 20) - (M32 79 22))) (fun M35 => zV M35)))
      have o3 : zMo M M3 := zMo_tr o2 ⟨fun k hk h26 => pk k (by omega) (by omega) h26, po⟩
      obtain ⟨M4, e4, g4⟩ := fin M3 1 (by rw [hE, p20]) (by rw [pk 22 (by decide) (by decide) (by decide), k2 22 (by decide), a22]) (by rw [pk 25 (by decide) (by decide) (by decide), b25]) (by rw [hK]; rfl) (fun z => by omega) (fun _ => by rw [p26, hE]) o3
      exact ⟨M4, e3.trans e4, g4⟩
    · rw [if_neg c1, zit_t rfl, idg_m hb, zbI_I]
      by_cases c3 : 48 ≤ B s ∧ B s ≤ 57
      · have hK : ztK B n s = 258 := by unfold ztK; rw [if_neg c0, if_neg c1, if_pos c3]
        have hE : ztE B n s = zeor B 48 57 (n - s) s := by unfold ztE; rw [if_neg c0, if_neg c1, if_pos c3]
        rw [if_pos c3, zit_f (by decide)]
        obtain ⟨M3, e3, p20, p24, pk, po⟩ := dig_m ht h2 hs (by rw [k2 20 (by decide), a20]) (by rw [k2 22 (by decide), a22]) (by rw [k2 24 (by decide), a24]) (fun (M23 : zM) => zst (zup M23 79 21 2) (fun M24 => zst (zup M24 79 23 ((M24 79 20) - (M24 79 22))) (fun M35 => zV M35)))
        have o3 : zMo M M3 := zMo_tr o2 ⟨fun k hk h26 => pk k (by omega) (by omega), po⟩
        obtain ⟨M4, e4, g4⟩ := fin M3 2 (by rw [hE, p20]) (by rw [pk 22 (by decide) (by decide), k2 22 (by decide), a22]) (by rw [pk 25 (by decide) (by decide), b25]) (by rw [hK]; rfl) (fun _ => by rw [p24, hE]) (fun z => by omega) o3
        exact ⟨M4, e3.trans e4, g4⟩
      · have hE : ztE B n s = s + 1 := by unfold ztE; rw [if_neg c0, if_neg c1, if_neg c3]
        rw [if_neg c3, zit_t rfl, zst_eq, zjo_eq, zjo_eq, k2 20 (by decide), a20, nI_1]
        obtain ⟨M3, hM3⟩ : ∃ M3, zup M2 79 20 (nI (s + 1)) = M3 := ⟨_, rfl⟩
        rw [hM3]
        have o3 : zMo M M3 := by rw [← hM3]; exact zMo_up o2 (by omega)
        have k3 : ∀ k, k ≠ 20 → M3 79 k = M2 79 k := fun k hk => by rw [← hM3, zup_row, upd_ne hk]
        have f3 : ∀ v : Nat, v = zso (ztK B n s) → ztK B n s ≠ 258 → ztK B n s ≠ 257 → ∃ M', zst (zup M3 79 21 (nI v)) (fun M32 => zst (zup M32 79 23 ((M32 79 20) - (M32 79 22))) (fun M35 => zV M35)) = zV M' ∧ (zTo1 B n s M' ∧ zMo M M') := fun v hv n1 n2 => fin M3 v (by rw [← hM3, zup_row, upd_eq, hE]) (by rw [k3 22 (by decide), k2 22 (by decide), a22]) (by rw [k3 25 (by decide), b25]) hv (fun z => absurd z n1) (fun z => absurd z n2) o3
        have hcs : ∀ (c : Nat) (X Y : zO), c < 256 → zit (nI (B s) = nI c) X Y = if B s = c then X else Y := fun c X Y hc => by
          by_cases e : B s = c
          · rw [if_pos e, zit_t (by rw [e])]
          · rw [if_neg e, zit_f (fun z => e ((nI_eq (by omega) (by omega)).mp z))]
        have hcs' : ∀ X Y : zO, zit (nI (B s) = 59) X (zit (nI (B s) = 40) X (zit (nI (B s) = 41) X (zit (nI (B s) = 43) X (zit (nI (B s) = 45) X (zit (nI (B s) = 42) X (zit (nI (B s) = 47) X (zit (nI (B s) = 60) X (zit (nI (B s) = 61) X Y)))))))) = if B s ∈ zsgn then X else Y := fun X Y => by
          rw [show zit (nI (B s) = 59) X (zit (nI (B s) = 40) X (zit (nI (B s) = 41) X (zit (nI (B s) = 43) X (zit (nI (B s) = 45) X (zit (nI (B s) = 42) X (zit (nI (B s) = 47) X (zit (nI (B s) = 60) X (zit (nI (B s) = 61) X Y)))))))) = zit (nI (B s) = nI 59) X (zit (nI (B s) = nI 40) X (zit (nI (B s) = nI 41) X (zit (nI (B s) = nI 43) X (zit (nI (B s) = nI 45) X (zit (nI (B s) = nI 42) X (zit (nI (B s) = nI 47) X (zit (nI (B s) = nI 60) X (zit (nI (B s) = nI 61) X Y)))))))) from rfl]
          rw [hcs 59 _ _ (by omega), hcs 40 _ _ (by omega), hcs 41 _ _ (by omega), hcs 43 _ _ (by omega), hcs 45 _ _ (by omega), hcs 42 _ _ (by omega), hcs 47 _ _ (by omega), hcs 60 _ _ (by omega), hcs 61 _ _ (by omega)]
          by_cases hm : B s ∈ zsgn
          · rw [if_pos hm]
            simp only [zsgn, List.mem_cons, List.mem_nil_iff, or_false] at hm
            rcases hm with h | h | h | h | h | h | h | h | h <;> rw [h] <;> rfl
          · rw [if_neg hm]
            simp only [zsgn, List.mem_cons, List.mem_nil_iff, or_false, not_or] at hm
            obtain ⟨h1, h2, h3, h4, h5, h6, h7, h8, h9⟩ := hm
            rw [if_neg h1, if_neg h2, if_neg h3, if_neg h4, if_neg h5, if_neg h6, if_neg h7, if_neg h8, if_neg h9]
        rw [hcs']
        by_cases c4 : B s ∈ zsgn
        · have hK : ztK B n s = B s := by unfold ztK; rw [if_neg c0, if_neg c1, if_neg c3, if_pos c4]
          rw [if_pos c4]
          refine f3 3 ?_ (by omega) (by omega)
          rw [hK]
          unfold zso
          rw [if_neg (by omega), if_neg (by omega), if_neg (by omega), if_neg (by omega)]
        · have hK : ztK B n s = 259 := by unfold ztK; rw [if_neg c0, if_neg c1, if_neg c3, if_neg c4]
          rw [if_neg c4]
          exact f3 4 (by rw [hK]; rfl) (by omega) (by omega)
/-- the reference at the token p.2, with the fault p.1 -/
def zTmx (B : Nat → Nat) (n : Nat) (p : Nat × Nat) (M : zM) : Prop := zTq B n M ∧ M 79 16 = nI p.1 ∧ p.1 ≤ 5 ∧ M 79 17 = (if p.1 = 0 then -1 else nI (tkst B n p.2)) ∧ zTo1 B n (tkst B n p.2) M
theorem goz_m (ht : zTxt B n) {i : Nat} {M : zM} (h : zTmx B n (0, i) M) : ∃ M', F_X12_goes 79 M = zV M' ∧ (zTmx B n (0, i + 1) M' ∧ zMo M M') := by
  obtain ⟨h1, h2, h3, h4, h5⟩ := h
  obtain ⟨M', e, t, o⟩ := gos_m ht h1 (zpe_le (B := B) (n := n) (i + 1)) h5.1
  refine ⟨M', e, ⟨zMo_q h1 o, ?_, h3, ?_, t⟩, o⟩
  · rw [o.1 16 (by omega) (by omega), h2]
  · rw [o.1 17 (by omega) (by omega), h4, if_pos rfl, if_pos rfl]
theorem wr_m {p : Nat × Nat} {M : zM} (h : zTmx B n p M) {w : Nat} (hw : 1 ≤ w) (hw5 : w ≤ 5) : ∃ M', F_X12_wrong 79 (nI w) M = zV M' ∧ (zTmx B n (zrfs w p) M' ∧ (∀ k, k ≠ 16 → k ≠ 17 → M' 79 k = M 79 k) ∧ zoff [79] M M') := by
  obtain ⟨h1, h2, h3, h4, h5⟩ := id h
  unfold F_X12_wrong zrfs
  by_cases hp : p.1 = 0
  · rw [zit_t (show M 79 16 = 0 from by rw [h2, hp]; rfl), if_pos hp, zst_eq, zst_eq]
    have k1 : ∀ (v : Int32) k, k ≠ 16 → k ≠ 17 → zup (zup M 79 16 (nI w)) 79 17 v 79 k = M 79 k := fun v k k1 k2 => by rw [zup_row, upd_ne k2, zup_row, upd_ne k1]
    obtain ⟨t1, t2, t3, t4, t5, t6, t7⟩ := h5
    refine ⟨_, rfl, ⟨⟨by rw [k1 _ 19 (by decide) (by decide)]; exact h1.1, fun k hk => by rw [zup_ne (by decide), zup_ne (by decide)]; exact h1.2 k hk⟩, by rw [zup_row, upd_ne (by decide), zup_row, upd_eq], hw5, ?_, ?_⟩, k1 _, zoff_up (zoff_up zoff_rfl (by decide)) (by decide)⟩
    · rw [zup_row, upd_eq, zup_row, upd_ne (by decide), t3, if_neg (show ¬ w = 0 from by omega)]
    · refine ⟨by rw [k1 _ 20 (by decide) (by decide)]; exact t1, by rw [k1 _ 21 (by decide) (by decide)]; exact t2, by rw [k1 _ 22 (by decide) (by decide)]; exact t3, by rw [k1 _ 23 (by decide) (by decide)]; exact t4, fun z => by rw [k1 _ 24 (by decide) (by decide)]; exact t5 z, by rw [k1 _ 25 (by decide) (by decide)]; exact t6, fun z => by rw [← t7 z]; exact zgL_cg (k1 _ 26 (by decide) (by decide)) (k1 _ 1026 (by decide) (by decide))⟩
  · rw [zit_f (show ¬ M 79 16 = 0 from by rw [h2]; exact fun z => hp ((nI_eq (b := 0) (by omega) (by omega)).mp z)), if_neg hp]
    exact ⟨M, rfl, h, fun _ _ _ => rfl, zoff_rfl⟩
end ZGO
