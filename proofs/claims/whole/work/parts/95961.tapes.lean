/-! both tapes: the next token -/
section ZTP
variable {B : Nat → Nat} {n : Nat}
/-- a text -/
def zTxt (B : Nat → Nat) (n : Nat) : Prop := n ≤ 700 ∧ (∀ p, B p < 256) ∧ ∀ p, n ≤ p → B p = 0
theorem by255 : ∀ b, b < 256 → (nI b).toInt8.toInt32 &&& 255 = nI b := by decide +kernel
/-- the class's tape: its text -/
def zTp (B : Nat → Nat) (n : Nat) (M : zM) : Prop := M 1 2 = nI n ∧ ∀ k, k < n → M 2 k = (nI (B k)).toInt8.toInt32
def zkn (B : Nat → Nat) (n : Nat) (p : Nat × Nat) : Nat := if p.1 = 0 then tkk B n p.2 else 259
/-- at the token p.2, with the fault p.1 -/
def zTpx (B : Nat → Nat) (n : Nat) (p : Nat × Nat) (M : zM) : Prop := zTp B n M ∧ M 1 7 = nI p.1 ∧ p.1 ≤ 5 ∧ M 1 8 = (if p.1 = 0 then -1 else nI (tkst B n p.2)) ∧ M 1 3 = nI (zkn B n p) ∧ M 1 4 = nI (tkst B n p.2) ∧ M 1 5 = nI (zpe B n (p.2 + 1)) ∧ (tkk B n p.2 = 258 → M 1 6 = nI (tkv B n p.2))
theorem zTp_up {M : zM} {k : Nat} {v : Int32} (h : zTp B n M) (hk : k ≠ 2) : zTp B n (zup M 1 k v) := by
  obtain ⟨h1, h2⟩ := h
  refine ⟨by rw [zup_row, upd_ne (fun z => hk z.symm)]; exact h1, fun j hj => by rw [zup_ne (by decide)]; exact h2 j hj⟩
theorem at_x (ht : zTxt B n) {M : zM} (h : zTp B n M) {p : Nat} (hp : p < 2 ^ 31) : F_X8_at 1 (nI p) M = zI (nI (B p)) M := by
  obtain ⟨h1, h2, h3⟩ := ht
  unfold F_X8_at
  rw [zjo_eq, zjo_eq, zit_f (show ¬ nI p < (0 : Int32) from (nI_nlt (Nat.zero_le _) hp : ¬ nI p < nI 0)), h.1]
  by_cases hc : n ≤ p
  · rw [zit_t (nI_le hc hp), h3 p hc]
    rfl
  · rw [zit_f (nI_ge (by omega) (by omega)), zin_k (k := p) (n := 700) (by omega) (by omega), zck_t, gr_1_0, zix_k (k := p) (by omega), h.2 p (by omega), by255 _ (h2 p)]
theorem skp_x (ht : zTxt B n) {M : zM} (h : zTp B n M) {e : Nat} (he : e ≤ n) (h4 : M 1 4 = nI e) (K : zM → zO) : F_X8_step_L16 1 K zN M = K (zup M 1 4 (nI (ztS B n e))) := by
  have hn := ht.1
  refine zfor (i := e) (f := zN) (a := M) n (fun f p (M1 : zM) => F_X8_step_L16 1 K f M1) (fun p M1 => M1 = zup M 1 4 (nI p) ∧ ztS B n e = zskp B (n - p) p) (fun o => o = K (zup M 1 4 (nI (ztS B n e)))) ?_ ?_ he (zN_ge (by omega)) ⟨by rw [← h4, zup_same rfl], rfl⟩
  · rintro f p M1 hp ⟨rfl, hz⟩
    obtain ⟨d, hd⟩ : ∃ d, n - p = d + 1 := ⟨n - p - 1, by omega⟩
    rw [hd, zskp] at hz
    have hbp := ht.2.1 p
    have h1 : zTp B n (zup M 1 4 (nI p)) := zTp_up h (by decide)
    have e4 : zup M 1 4 (nI p) 1 4 = nI p := by rw [zup_row, upd_eq]
    have e32 : (nI (B p) = (32 : Int32)) = (B p = 32) := i_eq (b := 32) (by omega) (by omega)
    have e10 : (nI (B p) = (10 : Int32)) = (B p = 10) := i_eq (b := 10) (by omega) (by omega)
    have stp : F_X8_step_L16 1 K (f + 1) (zup M 1 4 (nI p)) = zit (B p = 32) (F_X8_step_L16 1 K f (zup M 1 4 (nI (p + 1)))) (zit (B p = 10) (F_X8_step_L16 1 K f (zup M 1 4 (nI (p + 1)))) (K (zup M 1 4 (nI p)))) := by
      rw [F_X8_step_L16, h1.1, e4, zit_f (nI_ge hp (by omega)), at_x ht h1 (by omega), zbI_I, zjo_eq]
      rw [e4, at_x ht h1 (by omega), zbI_I]
      try dsimp only
      rw [zst_eq, e4, nI_1, show zup (zup M 1 4 (nI p)) 1 4 (nI (p + 1)) = zup M 1 4 (nI (p + 1)) from by funext i j; unfold zup; split <;> rfl]
      simp only [e32, e10]
    show F_X8_step_L16 1 K (f + 1) (zup M 1 4 (nI p)) = _ ∨ _
    rw [stp]
    by_cases c1 : B p = 32 ∨ B p = 10
    · refine Or.inr ⟨zup M 1 4 (nI (p + 1)), ?_, rfl, ?_⟩
      · by_cases c2 : B p = 32
        · rw [zit_t c2]
        · rw [zit_f c2, zit_t (c1.resolve_left c2)]
      · rw [if_pos c1] at hz
        rw [hz]
        congr 1
        omega
    · refine Or.inl ?_
      rw [if_neg c1] at hz
      rw [zit_f (fun z => c1 (Or.inl z)), zit_f (fun z => c1 (Or.inr z)), hz]
  · rintro f M1 ⟨rfl, hz⟩
    have e0 : n - n = 0 := by omega
    rw [e0, zskp] at hz
    show F_X8_step_L16 1 K (f + 1) (zup M 1 4 (nI n)) = _
    rw [F_X8_step_L16, (zTp_up (k := 4) (v := nI n) h (by decide)).1, zup_row, upd_eq, zit_t (nI_le (Nat.le_refl _) (by omega)), hz]
theorem sgi_all : ∀ b, b < 256 → ∀ k, k < 9 → decide (zsC 1 k = (nI b).toInt8.toInt32) = decide (b = zsgn.getD k 0) := by decide +kernel
theorem sgc_all : ∀ b, b < 256 → ((nI b).toUInt32 % 65536).toInt32 = nI b := by decide +kernel
theorem six_x {b : Nat} (hb : b < 256) (M : zM) : F_J0_indexOf_0f7a4 1 (((nI b).toUInt32 % 65536).toInt32) M = zI (if b ∈ zsgn then nI (zsgn.idxOf b) else -1) M := by
  have key : F_J1_indexOfChar_4cfef 1 (nI b) 0 (nI 9) M = zI (if b ∈ zsgn then nI (zsgn.idxOf b) else -1) M := by
    unfold F_J1_indexOfChar_4cfef
    refine zfor (i := 0) (f := zN) (a := ()) 9 (fun f k (_ : Unit) => F_J1_indexOfChar_4cfef_L7 1 (nI 9) (nI b).toInt8.toInt32 (fun (M1 : zM) => zI (-1) M1) f (nI k) M) (fun k _ => ∀ j, j < k → b ≠ zsgn.getD j 0) (fun o => o = zI (if b ∈ zsgn then nI (zsgn.idxOf b) else -1) M) ?_ ?_ (by omega) (zN_ge (by omega)) (fun j hj => absurd hj (Nat.not_lt_zero _))
    · rintro f k _ hk hj
      have hd := sgi_all b hb k hk
      show F_J1_indexOfChar_4cfef_L7 1 (nI 9) (nI b).toInt8.toInt32 _ (f + 1) (nI k) M = _ ∨ _
      rw [F_J1_indexOfChar_4cfef_L7, zit_f (nI_ge hk (by omega)), show zsl.getD 1 0 = 9 from rfl, zin_k (k := k) (n := 9) hk (by omega), zck_t, zix_k (k := k) (by omega), nI_1]
      by_cases hc : b = zsgn.getD k 0
      · refine Or.inl ?_
        rw [decide_eq_true hc] at hd
        rw [zit_t (of_decide_eq_true hd)]
        have hm : b ∈ zsgn := by rw [hc]; exact getD_in 0 zsgn k hk
        have hx : zsgn.idxOf b = k := by
          rw [hc]
          have : ∀ k, k < 9 → zsgn.idxOf (zsgn.getD k 0) = k := by decide
          exact this k hk
        rw [if_pos hm, hx]
      · refine Or.inr ⟨(), ?_, fun j hjk => ?_⟩
        · rw [decide_eq_false hc] at hd
          rw [zit_f (of_decide_eq_false hd)]
        · by_cases e : j = k
          · rw [e]; exact hc
          · exact hj j (by omega)
    · rintro f _ hj
      show F_J1_indexOfChar_4cfef_L7 1 (nI 9) (nI b).toInt8.toInt32 _ (f + 1) (nI 9) M = _
      rw [F_J1_indexOfChar_4cfef_L7, zit_t (nI_le (Nat.le_refl _) (by omega)), if_neg (fun hm => ?_)]
      have h9 : ∀ j, j < 9 → ∀ b, b = zsgn.getD j 0 → True := fun _ _ _ _ => trivial
      simp only [zsgn, List.mem_cons, List.mem_nil_iff, or_false] at hm
      rcases hm with h | h | h | h | h | h | h | h | h
      · exact hj 0 (by omega) h
      · exact hj 1 (by omega) h
      · exact hj 2 (by omega) h
      · exact hj 3 (by omega) h
      · exact hj 4 (by omega) h
      · exact hj 5 (by omega) h
      · exact hj 6 (by omega) h
      · exact hj 7 (by omega) h
      · exact hj 8 (by omega) h
  unfold F_J0_indexOf_0f7a4 F_J0_indexOf_7cf53 F_J1_indexOf_4cfef F_J1_canEncode_9a6ad
  rw [sgc_all b hb, pj_lat, zbI_I, zit_f (by decide), pj_length, zbI_I, zjo_eq, zjo_eq, zit_f (show ¬ nI b < (0 : Int32) from (nI_nlt (Nat.zero_le _) (by omega) : ¬ nI b < nI 0)), zit_f (show ¬ (255 : Int32) < nI b from (nI_nlt (by omega) (by omega) : ¬ nI 255 < nI b))]
  try dsimp only
  rw [zbo_1, zck_t, zbI_I, zit_f (by decide), zlt_eq, zlt_eq, show (if (0 : Int32) < 0 then (0 : Int32) else 0) = 0 from by decide, show (if zsL 1 < zsL 1 then zsL 1 else zsL 1) = nI 9 from by decide, zit_t (by decide), key, zbI_I, zbI_I, zbI_I]
/-- what kind of token a byte begins -/
def ztkd (b : Nat) : Nat := if 97 ≤ b ∧ b ≤ 122 then 257 else if 48 ≤ b ∧ b ≤ 57 then 258 else if b ∈ zsgn then b else 259
theorem ztkd_lt {b : Nat} (hb : b < 256) : ztkd b ≤ 259 := by
  unfold ztkd
  split
  · omega
  · split
    · omega
    · split <;> omega
theorem ztkd_w : ∀ b, b < 256 → (ztkd b = 257 ↔ (97 ≤ b ∧ b ≤ 122)) := by decide +kernel
theorem ztkd_n : ∀ b, b < 256 → (ztkd b = 258 ↔ (48 ≤ b ∧ b ≤ 57)) := by decide +kernel
theorem tkd_x {b : Nat} (hb : b < 256) (M : zM) : F_X8_kindOf (nI b) M = zI (nI (ztkd b)) M := by
  unfold F_X8_kindOf ztkd
  rw [zjo_eq]
  by_cases c1 : 97 ≤ b ∧ b ≤ 122
  · rw [zit_f (show ¬ nI b < (97 : Int32) from (nI_nlt c1.1 (by omega) : ¬ nI b < nI 97)), zit_f (show ¬ (122 : Int32) < nI b from (nI_nlt c1.2 (by omega) : ¬ nI 122 < nI b)), if_pos c1]
    try rfl
  · have hg : ∀ X Y : zO, zit (nI b < (97 : Int32)) X (zit ((122 : Int32) < nI b) X Y) = X := fun X Y => by
      by_cases c2 : b < 97
      · rw [zit_t (show nI b < (97 : Int32) from nI_lt (b := 97) c2 (by omega))]
      · rw [zit_f (show ¬ nI b < (97 : Int32) from (nI_nlt (by omega) (by omega) : ¬ nI b < nI 97)), zit_t (show (122 : Int32) < nI b from nI_lt (a := 122) (by omega) (by omega))]
    rw [hg, if_neg c1]
    try dsimp only
    rw [zjo_eq]
    by_cases c3 : 48 ≤ b ∧ b ≤ 57
    · rw [zit_f (show ¬ nI b < (48 : Int32) from (nI_nlt c3.1 (by omega) : ¬ nI b < nI 48)), zit_f (show ¬ (57 : Int32) < nI b from (nI_nlt c3.2 (by omega) : ¬ nI 57 < nI b)), if_pos c3]
      try rfl
    · have hg2 : ∀ X Y : zO, zit (nI b < (48 : Int32)) X (zit ((57 : Int32) < nI b) X Y) = X := fun X Y => by
        by_cases c2 : b < 48
        · rw [zit_t (show nI b < (48 : Int32) from nI_lt (b := 48) c2 (by omega))]
        · rw [zit_f (show ¬ nI b < (48 : Int32) from (nI_nlt (by omega) (by omega) : ¬ nI b < nI 48)), zit_t (show (57 : Int32) < nI b from nI_lt (a := 57) (by omega) (by omega))]
      rw [hg2, if_neg c3]
      try dsimp only
      rw [six_x hb, zbI_I, zjo_eq]
      by_cases h : b ∈ zsgn
      · have hx : zsgn.idxOf b < 9 := List.idxOf_lt_length_of_mem h
        rw [if_pos h, if_pos h, zit_f (show ¬ nI (zsgn.idxOf b) < (0 : Int32) from (nI_nlt (Nat.zero_le _) (by omega) : ¬ nI (zsgn.idxOf b) < nI 0))]
      · rw [if_neg h, if_neg h, zit_t (by decide)]
        try rfl
theorem zup_up5 {M : zM} {a k : Nat} {v w : Int32} : zup (zup M a k v) a k w = zup M a k w := by
  funext i j
  unfold zup
  split <;> rfl
/-- a row of letters, or of digits -/
theorem row_x (ht : zTxt B n) {M : zM} (h : zTp B n M) {e kd lo hi : Nat} (hkd : kd < 300) (hk : ∀ b, b < 256 → (ztkd b = kd ↔ (lo ≤ b ∧ b ≤ hi))) (he : e ≤ n) (h3 : M 1 3 = nI kd) (h5 : M 1 5 = nI e) (K : zM → zO) : F_X8_step_L152 1 1 K zN M = K (zup M 1 5 (nI (zeor B lo hi (n - e) e))) := by
  have hn := ht.1
  refine zfor (i := e) (f := zN) (a := M) n (fun f p (M1 : zM) => F_X8_step_L152 1 1 K f M1) (fun p M1 => M1 = zup M 1 5 (nI p) ∧ zeor B lo hi (n - e) e = zeor B lo hi (n - p) p) (fun o => o = K (zup M 1 5 (nI (zeor B lo hi (n - e) e)))) ?_ ?_ he (zN_ge (by omega)) ⟨by rw [← h5, zup_same rfl], rfl⟩
  · rintro f p M1 hp ⟨rfl, hz⟩
    obtain ⟨d, hd⟩ : ∃ d, n - p = d + 1 := ⟨n - p - 1, by omega⟩
    rw [hd, zeor] at hz
    have hbp := ht.2.1 p
    have hkl := ztkd_lt hbp
    have h1 : zTp B n (zup M 1 5 (nI p)) := zTp_up h (by decide)
    have e5 : zup M 1 5 (nI p) 1 5 = nI p := by rw [zup_row, upd_eq]
    have e3 : zup M 1 5 (nI p) 1 3 = nI kd := by rw [zup_row, upd_ne (by decide), h3]
    show F_X8_step_L152 1 1 K (f + 1) (zup M 1 5 (nI p)) = _ ∨ _
    rw [F_X8_step_L152, zit_f (show ¬ (1 : Int32) = 0 from by decide), h1.1, e5, zit_f (nI_ge hp (by omega)), at_x ht h1 (by omega), zbI_I, tkd_x hbp, zbI_I, e3]
    by_cases c : ztkd (B p) = kd
    · rw [zit_t (by rw [c]), zst_eq, e5, nI_1, zup_up5]
      refine Or.inr ⟨zup M 1 5 (nI (p + 1)), rfl, rfl, ?_⟩
      rw [if_pos ((hk _ hbp).mp c)] at hz
      rw [hz]
      congr 1
      omega
    · refine Or.inl ?_
      rw [if_neg (fun z => c ((hk _ hbp).mpr z))] at hz
      rw [zit_f (show ¬ nI (ztkd (B p)) = nI kd from fun z => c ((nI_eq (by omega) (by omega)).mp z)), hz]
  · rintro f M1 ⟨rfl, hz⟩
    have e0 : n - n = 0 := by omega
    rw [e0, zeor] at hz
    show F_X8_step_L152 1 1 K (f + 1) (zup M 1 5 (nI n)) = _
    rw [F_X8_step_L152, zit_f (show ¬ (1 : Int32) = 0 from by decide), (zTp_up (k := 5) (v := nI n) h (by decide)).1, zup_row, upd_eq, zit_t (nI_le (Nat.le_refl _) (by omega)), hz]
/-- a number's value -/
theorem vlp_x (ht : zTxt B n) {M : zM} (h : zTp B n M) {s e : Nat} (hse : s ≤ e) (he : e ≤ n) (hd : ∀ j, s ≤ j → j < e → 48 ≤ B j ∧ B j ≤ 57) (h3 : M 1 3 = 258) (h4 : M 1 4 = nI s) (h5 : M 1 5 = nI e) (h6 : M 1 6 = 0) (K : zM → zO) : F_X8_step_L208 1 K zN (nI s) M = K (zup M 1 6 (nI (zdgv (fun k => B (s + k)) (min (e - s) 4)))) := by
  have hn := ht.1
  refine zfor (i := 0) (f := zN) (a := M) (min (e - s) 4) (fun f k (M1 : zM) => F_X8_step_L208 1 K f (nI (s + k)) M1) (fun k M1 => M1 = zup M 1 6 (nI (zdgv (fun k => B (s + k)) k))) (fun o => o = K (zup M 1 6 (nI (zdgv (fun k => B (s + k)) (min (e - s) 4))))) ?_ ?_ (by omega) (zN_ge (by omega)) (zup_same h6).symm
  · rintro f k M1 hk rfl
    have hb := hd (s + k) (by omega) (by omega)
    refine Or.inr ⟨zup M 1 6 (nI (10 * zdgv (fun k => B (s + k)) k + (B (s + k) - 48))), ?_, rfl⟩
    obtain ⟨v, hv⟩ : ∃ v, zdgv (fun k => B (s + k)) k = v := ⟨_, rfl⟩
    rw [hv]
    have h1 : zTp B n (zup M 1 6 (nI v)) := zTp_up h (by decide)
    have e3 : zup M 1 6 (nI v) 1 3 = 258 := by rw [zup_row, upd_ne (by decide), h3]
    have e4 : zup M 1 6 (nI v) 1 4 = nI s := by rw [zup_row, upd_ne (by decide), h4]
    have e5 : zup M 1 6 (nI v) 1 5 = nI e := by rw [zup_row, upd_ne (by decide), h5]
    have e6 : zup M 1 6 (nI v) 1 6 = nI v := by rw [zup_row, upd_eq]
    show F_X8_step_L208 1 K (f + 1) (nI (s + k)) (zup M 1 6 (nI v)) = F_X8_step_L208 1 K f (nI (s + (k + 1))) (zup M 1 6 (nI (10 * v + (B (s + k) - 48))))
    rw [F_X8_step_L208, e3, zit_t rfl, e5, zit_f (show ¬ nI e ≤ nI (s + k) from nI_ge (by omega) (by omega)), e4, show (4 : Int32) = nI 4 from rfl, nI_add, zit_f (show ¬ nI (s + 4) ≤ nI (s + k) from nI_ge (by omega) (by omega)), at_x ht h1 (by omega), zbI_I, zst_eq, e6, show (10 : Int32) = nI 10 from rfl, pk_mul, nI_add, show (48 : Int32) = nI 48 from rfl, s_sub (by omega), nI_1, zup_up5, show 10 * v + B (s + k) - 48 = 10 * v + (B (s + k) - 48) from by omega]
    try rfl
  · rintro f M1 rfl
    obtain ⟨v, hv⟩ : ∃ v, zdgv (fun k => B (s + k)) (min (e - s) 4) = v := ⟨_, rfl⟩
    rw [hv]
    have e3 : zup M 1 6 (nI v) 1 3 = 258 := by rw [zup_row, upd_ne (by decide), h3]
    have e4 : zup M 1 6 (nI v) 1 4 = nI s := by rw [zup_row, upd_ne (by decide), h4]
    have e5 : zup M 1 6 (nI v) 1 5 = nI e := by rw [zup_row, upd_ne (by decide), h5]
    show F_X8_step_L208 1 K (f + 1) (nI (s + min (e - s) 4)) (zup M 1 6 (nI v)) = _
    rw [F_X8_step_L208, e3, zit_t rfl, e5]
    by_cases c : e - s ≤ 4
    · rw [zit_t (show nI e ≤ nI (s + min (e - s) 4) from nI_le (by omega) (by omega))]
    · rw [zit_f (show ¬ nI e ≤ nI (s + min (e - s) 4) from nI_ge (by omega) (by omega)), e4, show (4 : Int32) = nI 4 from rfl, nI_add, zit_t (show nI (s + 4) ≤ nI (s + min (e - s) 4) from nI_le (by omega) (by omega))]
def zstp (p : Nat × Nat) : Nat × Nat := if p.1 = 0 then (0, p.2 + 1) else p
def zrfs (w : Nat) (p : Nat × Nat) : Nat × Nat := if p.1 = 0 then (w, p.2) else p
/-- only fields 3 to 8 of the tape -/
def zTo (M M' : zM) : Prop := (∀ k, k < 3 → M' 1 k = M 1 k) ∧ zoff [1] M M'
theorem zTo_rfl {M : zM} : zTo M M := ⟨fun _ _ => rfl, zoff_rfl⟩
theorem zTo_tr {M M' M'' : zM} (h : zTo M M') (h' : zTo M' M'') : zTo M M'' := ⟨fun k hk => (h'.1 k hk).trans (h.1 k hk), zoff_trans h.2 h'.2⟩
theorem zTo_up {M M' : zM} {k : Nat} {v : Int32} (h : zTo M M') (hk : 3 ≤ k) : zTo M (zup M' 1 k v) := ⟨fun j hj => by rw [zup_row, upd_ne (by omega), h.1 j hj], zoff_up h.2 (by decide)⟩
theorem zTo_p {M M' : zM} (h : zTp B n M) (o : zTo M M') : zTp B n M' := ⟨by rw [o.1 2 (by omega)]; exact h.1, fun k hk => by rw [o.2 2 (by decide)]; exact h.2 k hk⟩
/-- the token behind e -/
theorem stp_x (ht : zTxt B n) {M : zM} (h : zTp B n M) (h6 : M 1 7 = 0) {e : Nat} (he : e ≤ n) (h5 : M 1 5 = nI e) : ∃ M', F_X8_step 1 M = zV M' ∧ (M' 1 3 = nI (ztK B n (ztS B n e)) ∧ M' 1 4 = nI (ztS B n e) ∧ M' 1 5 = nI (ztE B n (ztS B n e)) ∧ M' 1 7 = M 1 7 ∧ M' 1 8 = M 1 8 ∧ zTo M M' ∧ (ztK B n (ztS B n e) = 258 → M' 1 6 = nI (zdgv (fun k => B (ztS B n e + k)) (min (ztE B n (ztS B n e) - ztS B n e) 4)))) := by
  have hn := ht.1
  have hs := (ztS_le (B := B) he).2
  unfold F_X8_step
  rw [zit_t h6, zst_eq, h5, skp_x ht (zTp_up h (by decide)) he (by rw [zup_row, upd_eq])]
  obtain ⟨s, hs'⟩ : ∃ s, ztS B n e = s := ⟨_, rfl⟩
  rw [hs'] at hs ⊢
  obtain ⟨M1, hM1⟩ : ∃ M1, zup (zup M 1 4 (nI e)) 1 4 (nI s) = M1 := ⟨_, rfl⟩
  rw [hM1]
  have o1 : zTo M M1 := by rw [← hM1]; exact zTo_up (zTo_up zTo_rfl (by omega)) (by omega)
  have h1 := zTo_p h o1
  have e4 : M1 1 4 = nI s := by rw [← hM1, zup_row, upd_eq]
  have e7 : M1 1 7 = M 1 7 := by rw [← hM1, zup_row, upd_ne (by decide), zup_row, upd_ne (by decide)]
  have e8 : M1 1 8 = M 1 8 := by rw [← hM1, zup_row, upd_ne (by decide), zup_row, upd_ne (by decide)]
  have hb := ht.2.1 s
  have hE := ztE_le (B := B) hs
  have kds : ¬ n ≤ s → ztK B n s = ztkd (B s) := fun c => by unfold ztK ztkd; rw [if_neg c]
  have hkl : ztK B n s ≤ 259 := by
    by_cases c : n ≤ s
    · unfold ztK; rw [if_pos c]; omega
    · rw [kds c]; exact ztkd_lt hb
  have st1 : ∀ J : Int32 → zM → zO, zjo J (fun (k2 : Int32 → zM → zO) => zit ((M1 1 2) ≤ (M1 1 4)) (k2 256 M1) (zbI (F_X8_at 1 (M1 1 4) M1) (fun r3 M7 => zbI (F_X8_kindOf r3 M7) (fun r4 M8 => k2 r4 M8)))) = J (nI (ztK B n s)) M1 := fun J => by
    rw [zjo_eq, e4, h1.1]
    by_cases c : n ≤ s
    · rw [zit_t (nI_le c (by omega)), show ztK B n s = 256 from by unfold ztK; rw [if_pos c]]
      try rfl
    · rw [zit_f (nI_ge (by omega) (by omega)), at_x ht h1 (by omega), zbI_I, tkd_x hb, zbI_I, kds c]
  rw [st1]
  try dsimp only
  rw [zst_eq]
  obtain ⟨M2, hM2⟩ : ∃ M2, zup M1 1 3 (nI (ztK B n s)) = M2 := ⟨_, rfl⟩
  rw [hM2]
  have o2 : zTo M M2 := by rw [← hM2]; exact zTo_up o1 (by omega)
  have h2 := zTo_p h o2
  have f3 : M2 1 3 = nI (ztK B n s) := by rw [← hM2, zup_row, upd_eq]
  have f4 : M2 1 4 = nI s := by rw [← hM2, zup_row, upd_ne (by decide), e4]
  have f7 : M2 1 7 = M 1 7 := by rw [← hM2, zup_row, upd_ne (by decide), e7]
  have f8 : M2 1 8 = M 1 8 := by rw [← hM2, zup_row, upd_ne (by decide), e8]
  have st2 : ∀ J : Int32 → zM → zO, zjo J (fun (k3 : Int32 → zM → zO) => zit ((M2 1 2) ≤ (M2 1 4)) (k3 (M2 1 4) M2) (k3 ((M2 1 4) + 1) M2)) = J (nI (if n ≤ s then s else s + 1)) M2 := fun J => by
    rw [zjo_eq, f4, h2.1]
    by_cases c : n ≤ s
    · rw [zit_t (nI_le c (by omega)), if_pos c]
    · rw [zit_f (nI_ge (by omega) (by omega)), if_neg c, nI_1]
  rw [st2]
  try dsimp only
  rw [zst_eq]
  obtain ⟨M3, hM3⟩ : ∃ M3, zup M2 1 5 (nI (if n ≤ s then s else s + 1)) = M3 := ⟨_, rfl⟩
  rw [hM3]
  have o3 : zTo M M3 := by rw [← hM3]; exact zTo_up o2 (by omega)
  have h3 := zTo_p h o3
  have g3 : M3 1 3 = nI (ztK B n s) := by rw [← hM3, zup_row, upd_ne (by decide), f3]
  have g4 : M3 1 4 = nI s := by rw [← hM3, zup_row, upd_ne (by decide), f4]
  have g5 : M3 1 5 = nI (if n ≤ s then s else s + 1) := by rw [← hM3, zup_row, upd_eq]
  have g7 : M3 1 7 = M 1 7 := by rw [← hM3, zup_row, upd_ne (by decide), f7]
  have g8 : M3 1 8 = M 1 8 := by rw [← hM3, zup_row, upd_ne (by decide), f8]
  have q7 : (M3 1 3 = (257 : Int32)) = (ztK B n s = 257) := by rw [g3]; exact i_eq (b := 257) (by omega) (by omega)
  have q8 : (M3 1 3 = (258 : Int32)) = (ztK B n s = 258) := by rw [g3]; exact i_eq (b := 258) (by omega) (by omega)
  have st3 : ∀ J : Int32 → zM → zO, zjo J (fun (k4 : Int32 → zM → zO) => zjo (fun (M13 : zM) => k4 1 M13) (fun (k5 : zM → zO) => zit ((M3 1 3) = 257) (k5 M3) (zit ((M3 1 3) = 258) (k5 M3) (k4 0 M3)))) = J (if ztK B n s = 257 ∨ ztK B n s = 258 then 1 else 0) M3 := fun J => by
    rw [zjo_eq, zjo_eq]
    by_cases c7 : ztK B n s = 257
    · rw [zit_t (q7.mpr c7), if_pos (Or.inl c7)]
    · rw [zit_f (fun z => c7 (q7.mp z))]
      by_cases c8 : ztK B n s = 258
      · rw [zit_t (q8.mpr c8), if_pos (Or.inr c8)]
      · rw [zit_f (fun z => c8 (q8.mp z)), if_neg (fun z => z.elim c7 c8)]
  rw [st3]
  try dsimp only
  have st4 : ∀ K : zM → zO, F_X8_step_L152 1 (if ztK B n s = 257 ∨ ztK B n s = 258 then 1 else 0) K zN M3 = K (zup M3 1 5 (nI (ztE B n s))) := fun K => by
    by_cases c : n ≤ s
    · have ek : ztK B n s = 256 := by unfold ztK; rw [if_pos c]
      have ee : ztE B n s = s := by unfold ztE; rw [if_pos c]
      rw [if_neg (by omega), show zN = 999999 + 1 from rfl, F_X8_step_L152, zit_t rfl, zup_same (by rw [g5, if_pos c, ee])]
    · obtain ⟨d, hd⟩ : ∃ d, n - s = d + 1 := ⟨n - s - 1, by omega⟩
      have hd' : n - (s + 1) = d := by omega
      rw [if_neg c] at g5
      have ek := kds c
      by_cases c1 : 97 ≤ B s ∧ B s ≤ 122
      · have e1 := (ztkd_w _ hb).mpr c1
        rw [if_pos (Or.inl (ek.trans e1)), row_x ht h3 (kd := 257) (lo := 97) (hi := 122) (by omega) ztkd_w (e := s + 1) (by omega) (by rw [g3, ek, e1]) g5, show ztE B n s = zeor B 97 122 (n - (s + 1)) (s + 1) from by unfold ztE; rw [if_neg c, if_pos c1, hd, hd', zeor, if_pos c1]]
      · by_cases c2 : 48 ≤ B s ∧ B s ≤ 57
        · have e1 := (ztkd_n _ hb).mpr c2
          rw [if_pos (Or.inr (ek.trans e1)), row_x ht h3 (kd := 258) (lo := 48) (hi := 57) (by omega) ztkd_n (e := s + 1) (by omega) (by rw [g3, ek, e1]) g5, show ztE B n s = zeor B 48 57 (n - (s + 1)) (s + 1) from by unfold ztE; rw [if_neg c, if_neg c1, if_pos c2, hd, hd', zeor, if_pos c2]]
        · have n1 : ¬ (ztK B n s = 257 ∨ ztK B n s = 258) := by
            rw [ek]
            exact fun z => z.elim (fun z => c1 ((ztkd_w _ hb).mp z)) (fun z => c2 ((ztkd_n _ hb).mp z))
          have ee : ztE B n s = s + 1 := by unfold ztE; rw [if_neg c, if_neg c1, if_neg c2]
          rw [if_neg n1, show zN = 999999 + 1 from rfl, F_X8_step_L152, zit_t rfl, zup_same (by rw [g5, ee])]
  rw [st4]
  try dsimp only
  rw [zst_eq]
  obtain ⟨M4, hM4⟩ : ∃ M4, zup M3 1 5 (nI (ztE B n s)) = M4 := ⟨_, rfl⟩
  rw [hM4]
  have o4 : zTo M M4 := by rw [← hM4]; exact zTo_up o3 (by omega)
  have i3 : M4 1 3 = nI (ztK B n s) := by rw [← hM4, zup_row, upd_ne (by decide), g3]
  have i4 : M4 1 4 = nI s := by rw [← hM4, zup_row, upd_ne (by decide), g4]
  have i5 : M4 1 5 = nI (ztE B n s) := by rw [← hM4, zup_row, upd_eq]
  have i7 : M4 1 7 = M 1 7 := by rw [← hM4, zup_row, upd_ne (by decide), g7]
  have i8 : M4 1 8 = M 1 8 := by rw [← hM4, zup_row, upd_ne (by decide), g8]
  have fld : ∀ (v : Int32) (k : Nat), k ≠ 6 → zup M4 1 6 v 1 k = M4 1 k := fun v k hk => by rw [zup_row, upd_ne hk]
  have fin : ∀ v : Int32, (ztK B n s = 258 → v = nI (zdgv (fun k => B (s + k)) (min (ztE B n s - s) 4))) → (zup M4 1 6 v 1 3 = nI (ztK B n s) ∧ zup M4 1 6 v 1 4 = nI s ∧ zup M4 1 6 v 1 5 = nI (ztE B n s) ∧ zup M4 1 6 v 1 7 = M 1 7 ∧ zup M4 1 6 v 1 8 = M 1 8 ∧ zTo M (zup M4 1 6 v) ∧ (ztK B n s = 258 → zup M4 1 6 v 1 6 = nI (zdgv (fun k => B (s + k)) (min (ztE B n s - s) 4)))) := fun v hv =>
    ⟨by rw [fld v 3 (by decide), i3], by rw [fld v 4 (by decide), i4], by rw [fld v 5 (by decide), i5], by rw [fld v 7 (by decide), i7], by rw [fld v 8 (by decide), i8], zTo_up o4 (by omega), fun z => by rw [zup_row, upd_eq, hv z]⟩
  rw [zlt_eq, fld 0 4 (by decide), i4]
  by_cases c8 : ztK B n s = 258
  · have c0 : ¬ n ≤ s := fun z => by
      have : ztK B n s = 256 := by unfold ztK; rw [if_pos z]
      omega
    have c2 : 48 ≤ B s ∧ B s ≤ 57 := (ztkd_n _ hb).mp ((kds c0).symm.trans c8)
    have c1 : ¬ (97 ≤ B s ∧ B s ≤ 122) := by omega
    have eE : ztE B n s = zeor B 48 57 (n - s) s := by unfold ztE; rw [if_neg c0, if_neg c1, if_pos c2]
    rw [vlp_x ht (zTo_p h (zTo_up o4 (by omega))) (s := s) (e := ztE B n s) hE.1 hE.2 (fun j hj1 hj2 => zeor_in B 48 57 (n - s) s j hj1 (by omega)) (by rw [fld 0 3 (by decide), i3, c8]; rfl) (by rw [fld 0 4 (by decide), i4]) (by rw [fld 0 5 (by decide), i5]) (by rw [zup_row, upd_eq]), zup_up5]
    exact ⟨_, rfl, fin _ (fun _ => rfl)⟩
  · rw [show zN = 999999 + 1 from rfl, F_X8_step_L208, fld 0 3 (by decide), i3, zit_f (show ¬ nI (ztK B n s) = (258 : Int32) from fun z => c8 ((nI_eq (b := 258) (by omega) (by omega)).mp z))]
    exact ⟨_, rfl, fin 0 (fun z => absurd z c8)⟩
/-- a step, in both states -/
theorem st_x (ht : zTxt B n) {p : Nat × Nat} {M : zM} (h : zTpx B n p M) : ∃ M', F_X8_step 1 M = zV M' ∧ (zTpx B n (zstp p) M' ∧ zTo M M') := by
  obtain ⟨h1, h2, h3, h4, h5, h6, h7, h8⟩ := id h
  by_cases hp : p.1 = 0
  · rw [hp] at h2
    obtain ⟨M', e, m3, m4, m5, m6, m7, o, mv⟩ := stp_x ht h1 h2 (zpe_le (B := B) (n := n) (p.2 + 1)) h7
    refine ⟨M', e, ?_, o⟩
    unfold zstp
    rw [if_pos hp]
    refine ⟨zTo_p h1 o, by rw [m6, h2], by show 0 ≤ 5; omega, ?_, m3, m4, m5, mv⟩
    rw [m7, h4, if_pos hp, if_pos rfl]
  · unfold F_X8_step
    rw [zit_f (show ¬ M 1 7 = 0 from by rw [h2]; exact fun z => hp ((nI_eq (b := 0) (by omega) (by omega)).mp z))]
    refine ⟨M, rfl, ?_, zTo_rfl⟩
    unfold zstp
    rw [if_neg hp]
    exact h
theorem rf_x {p : Nat × Nat} {M : zM} (h : zTpx B n p M) {w : Nat} (hw : 1 ≤ w) (hw5 : w ≤ 5) : ∃ M', F_X8_refuse 1 (nI w) M = zV M' ∧ (zTpx B n (zrfs w p) M' ∧ zTo M M') := by
  obtain ⟨h1, h2, h3, h4, h5, h6, h7, h8⟩ := id h
  unfold F_X8_refuse
  rw [zjo_eq]
  by_cases hp : p.1 = 0
  · rw [hp] at h2
    rw [zit_t (by rw [h2]; rfl), zst_eq, zst_eq, zst_eq]
    unfold zrfs
    rw [if_pos hp]
    have o : zTo M (zup (zup (zup M 1 7 (nI w)) 1 8 (zup M 1 7 (nI w) 1 4)) 1 3 259) := zTo_up (zTo_up (zTo_up zTo_rfl (by omega)) (by omega)) (by omega)
    refine ⟨_, rfl, ⟨zTo_p h1 o, ?_, hw5, ?_, ?_, ?_, ?_, fun hk => ?_⟩, o⟩
    · rw [zup_row, upd_ne (by decide), zup_row, upd_ne (by decide), zup_row, upd_eq]
    · rw [zup_row, upd_ne (by decide), zup_row, upd_eq, zup_row, upd_ne (by decide), h6, if_neg (show ¬ w = 0 from by omega)]
    · rw [zup_row, upd_eq]
      unfold zkn
      rw [if_neg (show ¬ w = 0 from by omega)]
      rfl
    · rw [zup_row, upd_ne (by decide), zup_row, upd_ne (by decide), zup_row, upd_ne (by decide), h6]
    · rw [zup_row, upd_ne (by decide), zup_row, upd_ne (by decide), zup_row, upd_ne (by decide), h7]
    · rw [zup_row, upd_ne (by decide), zup_row, upd_ne (by decide), zup_row, upd_ne (by decide), h8 hk]
  · rw [zit_f (show ¬ M 1 7 = 0 from by rw [h2]; exact fun z => hp ((nI_eq (b := 0) (by omega) (by omega)).mp z))]
    unfold zrfs
    rw [if_neg hp]
    exact ⟨M, rfl, h, zTo_rfl⟩
end ZTP
