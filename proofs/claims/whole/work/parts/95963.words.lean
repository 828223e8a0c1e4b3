/-! the WORDS that are known -/
def zkwl : List (List Nat) := [[109, 105, 110, 101], [121, 111, 117, 114, 115], [102, 97, 114], [115, 111, 114, 116], [111, 116, 104, 101, 114], [100, 101, 98, 116], [121, 101, 97, 114], [110, 97, 109, 101], [99, 111, 108, 111, 110, 121], [110, 111, 114, 116, 104], [119, 105, 115, 104], [102, 97, 105, 114], [115, 112, 101, 101, 100], [108, 97, 119], [97, 110, 100], [111, 114], [110, 111, 116]]
def zkws (k : Nat) : Nat := [10, 11, 12, 13, 14, 15, 16, 2, 3, 4, 5, 6, 7, 8, 17, 18, 9].getD k 0
def zkwf (k j : Nat) : Nat := (zkwl.getD k []).getD j 0
def zkwn (k : Nat) : Nat := (zkwl.getD k []).length
theorem zkw_x : ∀ k, k < 17 → zsl.getD (zkws k) 0 = zkwn k ∧ ∀ j, j < zkwn k → (((zsC (zkws k) j) &&& 255).toUInt32 % 65536).toInt32 = nI (zkwf k j) ∧ zna (nI (zkwf k j)) = true := by decide +kernel
theorem zkw_n : ∀ k, k < 17 → zkwn k ≤ 6 ∧ zsL (zkws k) = nI (zkwn k) ∧ ∀ j, j < zkwn k → 97 ≤ zkwf k j ∧ zkwf k j ≤ 122 := by decide +kernel
theorem zkw_d : ∀ k, k < 17 → ∀ l, l < 17 → zkwn k = zkwn l → (∀ j, j < zkwn k → zkwf k j = zkwf l j) → k = l := by decide +kernel
theorem zso_lt (k : Nat) : zso k ≤ 4 := by
  unfold zso
  split
  · omega
  · split
    · omega
    · split
      · omega
      · split <;> omega
theorem zso_2 {k : Nat} : (zso k = 2) = (k = 258) := by
  unfold zso
  apply propext
  split
  · omega
  · split
    · omega
    · split
      · omega
      · split <;> omega
theorem zso_1 {k : Nat} : (zso k = 1) = (k = 257) := by
  unfold zso
  apply propext
  split
  · omega
  · split
    · omega
    · split
      · omega
      · split <;> omega
theorem zso_0 {k : Nat} : (zso k = 0) = (k = 256) := by
  unfold zso
  apply propext
  split
  · omega
  · split
    · omega
    · split
      · omega
      · split <;> omega
section ZKW
variable {B : Nat → Nat} {n : Nat}
def zisw (B : Nat → Nat) (n i k : Nat) : Bool := decide (tkk B n i = 257 ∧ tkl B n i = zkwn k ∧ ∀ j, j < zkwn k → B (tkst B n i + j) = zkwf k j)
def tkw (B : Nat → Nat) (n i : Nat) : Nat := ((List.range 17).find? (zisw B n i)).getD 17
theorem tkw_is {i k : Nat} (hk : k < 17) : (tkw B n i = k) ↔ zisw B n i k = true := by
  have huq : ∀ l, l < 17 → zisw B n i l = true → zisw B n i k = true → l = k := fun l hl h1 h2 => by
    obtain ⟨-, a2, a3⟩ := of_decide_eq_true h1
    obtain ⟨-, b2, b3⟩ := of_decide_eq_true h2
    refine zkw_d l hl k hk (by omega) (fun j hj => ?_)
    rw [← a3 j hj, ← b3 j (by omega)]
  unfold tkw
  cases hf : (List.range 17).find? (zisw B n i) with
  | none =>
    constructor
    · intro h
      have : (17 : Nat) = k := h
      omega
    · intro h
      exact absurd h (List.find?_eq_none.mp hf k (List.mem_range.mpr hk))
  | some l =>
    have hl := List.mem_range.mp (List.mem_of_find?_eq_some hf)
    have hz := List.find?_some hf
    constructor
    · intro h
      have : l = k := h
      rw [← this]
      exact hz
    · intro h
      exact huq l hl hz h
theorem tkw_le (i : Nat) : tkw B n i ≤ 17 := by
  unfold tkw
  cases hf : (List.range 17).find? (zisw B n i) with
  | none => exact Nat.le_refl _
  | some l =>
    have hl := List.mem_range.mp (List.mem_of_find?_eq_some hf)
    show l ≤ 17
    omega
theorem tkw_k {i : Nat} (h : tkw B n i < 17) : tkk B n i = 257 := by
  have := (tkw_is (B := B) (n := n) (i := i) h).mp rfl
  exact (of_decide_eq_true this).1
def zwd (B : Nat → Nat) (n : Nat) (p : Nat × Nat) : Nat := if p.1 = 0 then tkw B n p.2 else 17
/-- the class asks for a word -/
theorem iw_x (ht : zTxt B n) {p : Nat × Nat} {M : zM} (h : zTpx B n p M) {k : Nat} (hk : k < 17) : F_X8_isWord 1 (zkws k) M = zI (if zwd B n p = k then 1 else 0) M := by
  obtain ⟨h1, h2, h3, h4, h5, h6, h7, -⟩ := id h
  have hn := ht.1
  have hts := tkst_le (B := B) (n := n) p.2
  have hte := tke_le (B := B) (n := n) p.2
  obtain ⟨k1, k2⟩ := zkw_x k hk
  obtain ⟨k3, k4, k5⟩ := zkw_n k hk
  unfold F_X8_isWord zwd
  rw [zjo_eq, h5]
  have hkb : zkn B n p < 2 ^ 31 := by
    unfold zkn tkk ztK
    have := ht.2.1 (tkst B n p.2)
    split
    · split
      · omega
      · split
        · omega
        · split
          · omega
          · split <;> omega
    · omega
  by_cases hp : p.1 = 0
  · rw [if_pos hp]
    have ekn : zkn B n p = tkk B n p.2 := by unfold zkn; rw [if_pos hp]
    by_cases hw : tkk B n p.2 = 257
    · rw [zit_t (show nI (zkn B n p) = (257 : Int32) from by rw [ekn, hw]; rfl)]
      unfold F_X8_size
      rw [zbI_I, h6, h7, s_sub hte.1, pj_length, zbI_I, k4]
      by_cases hl : tkl B n p.2 = zkwn k
      · rw [zit_t (by rw [← hl]; rfl)]
        refine zfor (i := 0) (f := zN) (a := ()) (zkwn k) (fun f j (_ : Unit) => F_X8_isWord_L25 1 (zkws k) (fun (M6 : zM) => zck (zbo 1) (zI 1 M6)) f (nI j) M) (fun j _ => ∀ l, l < j → B (tkst B n p.2 + l) = zkwf k l) (fun o => o = zI (if tkw B n p.2 = k then 1 else 0) M) ?_ ?_ (by omega) (zN_ge (by omega)) (fun l hl => absurd hl (Nat.not_lt_zero _))
        · rintro f j _ hj hI
          obtain ⟨k6, k7⟩ := k2 j hj
          have hb := ht.2.1 (tkst B n p.2 + j)
          have hkf := k5 j hj
          have ech : F_J0_charAt_5068e (zkws k) (nI j) M = zI (nI (zkwf k j)) M := by
            unfold F_J0_charAt_5068e F_J1_charAt_3b067 F_J0_checkIndex_df160 F_J3_checkIndex_8e157
            rw [pj_lat, zbI_I, zit_f (by decide), zjo_eq, zit_f (show ¬ nI j < (0 : Int32) from (nI_nlt (Nat.zero_le _) (by omega) : ¬ nI j < nI 0)), k4, zit_t (nI_lt hj (by omega)), zbI_I, zbV_V, k1, zin_k (k := j) (n := zkwn k) hj (by omega), zck_t, zix_k (k := j) (by omega), k6, k7, zck_t, zbI_I, k7, zck_t]
          have stp : F_X8_isWord_L25 1 (zkws k) (fun (M6 : zM) => zck (zbo 1) (zI 1 M6)) (f + 1) (nI j) M = zit (nI (B (tkst B n p.2 + j)) = nI (zkwf k j)) (F_X8_isWord_L25 1 (zkws k) (fun (M6 : zM) => zck (zbo 1) (zI 1 M6)) f (nI (j + 1)) M) (zI 0 M) := by
            rw [F_X8_isWord_L25, pj_length, zbI_I, k4, zit_f (nI_ge hj (by omega)), h6, nI_add, at_x ht h1 (by omega), zbI_I, ech, zbI_I, nI_1]
            try dsimp only
            rw [zbo_0, zck_t]
          show F_X8_isWord_L25 1 (zkws k) _ (f + 1) (nI j) M = _ ∨ _
          rw [stp]
          by_cases he : B (tkst B n p.2 + j) = zkwf k j
          · refine Or.inr ⟨(), ?_, fun l hl => ?_⟩
            · rw [zit_t (by rw [he])]
            · by_cases e : l = j
              · rw [e]; exact he
              · exact hI l (by omega)
          · refine Or.inl ?_
            rw [zit_f (fun z => he ((nI_eq (by omega) (by omega)).mp z)), if_neg (fun z => ?_)]
            exact he ((of_decide_eq_true ((tkw_is hk).mp z)).2.2 j hj)
        · rintro f _ hI
          show F_X8_isWord_L25 1 (zkws k) _ (f + 1) (nI (zkwn k)) M = _
          rw [F_X8_isWord_L25, pj_length, zbI_I, k4, zit_t (nI_le (Nat.le_refl _) (by omega))]
          try dsimp only
          rw [zbo_1, zck_t, if_pos ((tkw_is hk).mpr (decide_eq_true ⟨hw, hl, hI⟩))]
      · have hle : tkl B n p.2 ≤ 700 := by unfold tkl; omega
        rw [zit_f (show ¬ nI (zpe B n (p.2 + 1) - tkst B n p.2) = nI (zkwn k) from fun z => hl ((nI_eq (show tkl B n p.2 < 2 ^ 31 from by omega) (by omega)).mp z))]
        try dsimp only
        rw [zbo_0, zck_t, if_neg (fun z => ?_)]
        exact hl (of_decide_eq_true ((tkw_is hk).mp z)).2.1
    · rw [zit_f (show ¬ nI (zkn B n p) = (257 : Int32) from fun z => hw (by rw [← ekn]; exact (nI_eq (b := 257) hkb (by omega)).mp z))]
      try dsimp only
      rw [zbo_0, zck_t, if_neg (fun z => ?_)]
      exact hw (of_decide_eq_true ((tkw_is hk).mp z)).1
  · have ekn : zkn B n p = 259 := by unfold zkn; rw [if_neg hp]
    rw [if_neg hp, ekn, zit_f (by decide)]
    try dsimp only
    rw [zbo_0, zck_t, if_neg (by omega)]
theorem zpkw_inj {f g : Nat → Nat} : ∀ a b, (∀ j, j < a → 97 ≤ f j ∧ f j ≤ 122) → (∀ j, j < b → 97 ≤ g j ∧ g j ≤ 122) → zpkw f a = zpkw g b → a = b ∧ ∀ j, j < a → f j = g j
  | 0, 0, _, _, _ => ⟨rfl, fun j hj => absurd hj (Nat.not_lt_zero _)⟩
  | 0, b + 1, _, hg, h => by
    have h2 := hg b (by omega)
    have h' : 0 = 32 * zpkw g b + (g b - 96) := h
    omega
  | a + 1, 0, hf, _, h => by
    have h2 := hf a (by omega)
    have h' : 32 * zpkw f a + (f a - 96) = 0 := h
    omega
  | a + 1, b + 1, hf, hg, h => by
    have h1 := hf a (by omega)
    have h2 := hg b (by omega)
    have h' : 32 * zpkw f a + (f a - 96) = 32 * zpkw g b + (g b - 96) := h
    have e1 : zpkw f a = zpkw g b := by omega
    obtain ⟨i1, i2⟩ := zpkw_inj a b (fun j hj => hf j (by omega)) (fun j hj => hg j (by omega)) e1
    subst i1
    refine ⟨rfl, fun j hj => ?_⟩
    by_cases e : j = a
    · rw [e]; omega
    · exact i2 j (by omega)
theorem ltr_m (M : zM) : ∀ k, k < 17 → F_X12_letters (nI k) M = zJ (lI (zpkw (zkwf k) (zkwn k))) M := fun k hk => by
  rcases (by omega : k = 0 ∨ k = 1 ∨ k = 2 ∨ k = 3 ∨ k = 4 ∨ k = 5 ∨ k = 6 ∨ k = 7 ∨ k = 8 ∨ k = 9 ∨ k = 10 ∨ k = 11 ∨ k = 12 ∨ k = 13 ∨ k = 14 ∨ k = 15 ∨ k = 16) with rfl | rfl | rfl | rfl | rfl | rfl | rfl | rfl | rfl | rfl | rfl | rfl | rfl | rfl | rfl | rfl | rfl <;> rfl
theorem lg_0 {x y : Int64} : (lg_cmp x y = 0) = (x = y) := by
  unfold lg_cmp
  by_cases h : x = y
  · subst h
    simp
  · by_cases h2 : x > y
    · rw [if_pos h2]
      simp [h]
    · rw [if_neg h2, if_neg h]
      simp [h]
/-- the reference asks which word it is -/
theorem kw_m (ht : zTxt B n) {p : Nat × Nat} {M : zM} (h : zTmx B n p M) : F_X12_knownWord 79 M = zI (if tkw B n p.2 < 17 then nI (tkw B n p.2) else -1) M := by
  obtain ⟨h1, h2, h3, h4, t1, t2, t3, t4, t5, t6, t7⟩ := id h
  have hn := ht.1
  have hts := tkst_le (B := B) (n := n) p.2
  have hte := tke_le (B := B) (n := n) p.2
  have el : ztE B n (tkst B n p.2) - tkst B n p.2 = tkl B n p.2 := rfl
  rw [el] at t4 t7
  have hle : tkl B n p.2 ≤ 700 := by unfold tkl; omega
  unfold F_X12_knownWord
  rw [zjo_eq, t2, t4]
  by_cases hw : tkk B n p.2 = 257
  · have e1 : zso (ztK B n (tkst B n p.2)) = 1 := by
      show zso (tkk B n p.2) = 1
      rw [hw]
      rfl
    rw [e1, zit_t (by decide)]
    have hwl := tk_word hw
    by_cases h6 : tkl B n p.2 ≤ 6
    · have t7' := t7 hw
      rw [show min (tkl B n p.2) 6 = tkl B n p.2 from by omega] at t7'
      rw [zit_t (show nI (tkl B n p.2) ≤ (6 : Int32) from nI_le (b := 6) h6 (by omega))]
      have hlt := zpkw_lt (f := fun j => B (tkst B n p.2 + j)) (tkl B n p.2) hwl
      have hpw : 32 ^ (tkl B n p.2) ≤ 32 ^ 6 := Nat.pow_le_pow_right (by decide) h6
      have e326 : (32 : Nat) ^ 6 = 1073741824 := by decide
      refine zfor (i := 0) (f := zN) (a := ()) 17 (fun f k (_ : Unit) => F_X12_knownWord_L21 79 (fun (M2 : zM) => zI (-1) M2) f (nI k) M) (fun k _ => ∀ l, l < k → tkw B n p.2 ≠ l) (fun o => o = zI (if tkw B n p.2 < 17 then nI (tkw B n p.2) else -1) M) ?_ ?_ (by omega) (zN_ge (by omega)) (fun l hl => absurd hl (Nat.not_lt_zero _))
      · rintro f k _ hk hI
        obtain ⟨k3, k4, k5⟩ := zkw_n k hk
        have hlt2 := zpkw_lt (f := zkwf k) (zkwn k) k5
        have hpw2 : 32 ^ (zkwn k) ≤ 32 ^ 6 := Nat.pow_le_pow_right (by decide) k3
        show F_X12_knownWord_L21 79 _ (f + 1) (nI k) M = _ ∨ _
        rw [F_X12_knownWord_L21, zit_f (show ¬ (17 : Int32) ≤ nI k from (nI_ge (by omega) (by omega) : ¬ nI 17 ≤ nI k)), ltr_m M k hk, zbJ_J, t7', nI_1]
        by_cases he : tkw B n p.2 = k
        · refine Or.inl ?_
          obtain ⟨-, a2, a3⟩ := of_decide_eq_true ((tkw_is hk).mp he)
          have epk : ∀ m, (∀ j, j < m → B (tkst B n p.2 + j) = zkwf k j) → zpkw (fun j => B (tkst B n p.2 + j)) m = zpkw (zkwf k) m := by
            intro m
            induction m with
            | zero => intro _; rfl
            | succ m ih =>
              intro hm
              show 32 * zpkw _ m + (B (tkst B n p.2 + m) - 96) = 32 * zpkw _ m + (zkwf k m - 96)
              rw [ih (fun j hj => hm j (by omega)), hm m (by omega)]
          rw [a2, epk _ a3, zit_t (by rw [lg_0]), if_pos (by omega), he]
        · refine Or.inr ⟨(), ?_, fun l hl => ?_⟩
          · rw [zit_f (fun z => ?_)]
            rw [lg_0, lI_inj (by omega) (by omega)] at z
            obtain ⟨z1, z2⟩ := zpkw_inj (zkwn k) (tkl B n p.2) k5 hwl z
            exact he ((tkw_is hk).mpr (decide_eq_true ⟨hw, z1.symm, fun j hj => (z2 j hj).symm⟩))
          · by_cases e : l = k
            · rw [e]; exact he
            · exact hI l (by omega)
      · rintro f _ hI
        have : ¬ tkw B n p.2 < 17 := fun z => hI _ z rfl
        show F_X12_knownWord_L21 79 _ (f + 1) (nI 17) M = _
        rw [F_X12_knownWord_L21, zit_t (by decide), if_neg this]
    · rw [zit_f (show ¬ nI (tkl B n p.2) ≤ (6 : Int32) from (nI_ge (by omega) (by omega) : ¬ nI (tkl B n p.2) ≤ nI 6)), if_neg (fun z => ?_)]
      have a2 := (of_decide_eq_true ((tkw_is z).mp rfl)).2.1
      have := (zkw_n _ z).1
      omega
  · have e1 : nI (zso (ztK B n (tkst B n p.2))) ≠ 1 := fun z => by
      have hlt := zso_lt (tkk B n p.2)
      have z' : zso (tkk B n p.2) = 1 := (nI_eq (b := 1) (by omega) (by omega)).mp z
      rw [zso_1] at z'
      exact hw z'
    rw [zit_f e1, if_neg (fun z => hw (tkw_k z))]
end ZKW
