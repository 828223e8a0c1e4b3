/-! both tapes: the next token -/
section ZTP
variable {B : Nat → Nat} {n : Nat}
/-- a text -/
def zTxt (B : Nat → Nat) (n : Nat) : Prop := n ≤ 700 ∧ (∀ p, B p < 256) ∧ ∀ p, n ≤ p → B p = 0
theorem by255 : ∀ b, b < 256 → (nI b).toInt8.toInt32 &&& 255 = nI b := by decide +kernel
/-- the class's tape: its text -/
def zTp (B : Nat → Nat) (n : Nat) (M : zM) : Prop := M 1 2 = nI n ∧ ∀ k, k < n → M 2 k = (nI (B k)).toInt8.toInt32
def zkn (B : Nat → Nat) (n : Nat) (p : Nat × Nat) : Nat := if p.1 = 0 then tkk B n p.2 else 259
/-- at the token p.2, with the fault p.1 -/
def zTpx (B : Nat → Nat) (n : Nat) (p : Nat × Nat) (M : zM) : Prop := zTp B n M ∧ M 1 6 = nI p.1 ∧ p.1 ≤ 5 ∧ M 1 7 = (if p.1 = 0 then -1 else nI (tkst B n p.2)) ∧ M 1 3 = nI (zkn B n p) ∧ M 1 4 = nI (tkst B n p.2) ∧ M 1 5 = nI (zpe B n (p.2 + 1))
theorem zTp_up {M : zM} {k : Nat} {v : Int32} (h : zTp B n M) (hk : k ≠ 2) : zTp B n (zup M 1 k v) := by
  obtain ⟨h1, h2⟩ := h
  refine ⟨by rw [zup_row, upd_ne (fun z => hk z.symm)]; exact h1, fun j hj => by rw [zup_ne (by decide)]; exact h2 j hj⟩
theorem at_x (ht : zTxt B n) {M : zM} (h : zTp B n M) {p : Nat} (hp : p < 2 ^ 31) : F_X8_at 1 (nI p) M = zI (nI (B p)) M := by
  obtain ⟨h1, h2, h3⟩ := ht
  unfold F_X8_at
  rw [zjo_eq, zjo_eq, zit_f (show ¬ nI p < (0 : Int32) from (nI_nlt (Nat.zero_le _) hp : ¬ nI p < nI 0)), h.1]
  by_cases hc : n ≤ p
  · rw [zit_t (nI_le hc hp), h3 p hc]
    rfl
  · rw [zit_f (nI_ge (by omega) (by omega)), zin_k (k := p) (n := 700) (by omega) (by omega), zck_t, gr_1_0, zix_k (k := p) (by omega), h.2 p (by omega), by255 _ (h2 p)]
theorem eor_x (ht : zTxt B n) {M : zM} (h : zTp B n M) {lo hi s : Nat} (hl : lo < 256) (hh : hi < 256) (hs : s ≤ n) (h4 : M 1 4 = nI s) : F_X8_endOfRow 1 (nI lo) (nI hi) M = zI (nI (zeor B lo hi (n - s) s)) M := by
  have hn := ht.1
  have hb := ht.2.1
  unfold F_X8_endOfRow
  rw [zlt_eq, h4]
  refine zfor (i := s) (f := zN) (a := ()) n (fun f p (_ : Unit) => F_X8_endOfRow_L5 1 (nI lo) (nI hi) (fun (y1 : Int32) (M3 : zM) => zI y1 M3) f (nI p) M) (fun p _ => zeor B lo hi (n - s) s = zeor B lo hi (n - p) p) (fun o => o = zI (nI (zeor B lo hi (n - s) s)) M) ?_ ?_ hs (zN_ge (by omega)) rfl
  · rintro f p _ hp he
    have hbp := hb p
    obtain ⟨d, hd⟩ : ∃ d, n - p = d + 1 := ⟨n - p - 1, by omega⟩
    rw [hd, zeor] at he
    have stp : F_X8_endOfRow_L5 1 (nI lo) (nI hi) (fun (y1 : Int32) (M3 : zM) => zI y1 M3) (f + 1) (nI p) M = zit (nI (B p) < nI lo) (zI (nI p) M) (zit (nI hi < nI (B p)) (zI (nI p) M) (F_X8_endOfRow_L5 1 (nI lo) (nI hi) (fun (y1 : Int32) (M3 : zM) => zI y1 M3) f (nI (p + 1)) M)) := by
      rw [F_X8_endOfRow_L5, h.1, zit_f (nI_ge hp (by omega)), at_x ht h (by omega), zbI_I, at_x ht h (by omega), zbI_I, nI_1]
    show F_X8_endOfRow_L5 1 (nI lo) (nI hi) _ (f + 1) (nI p) M = _ ∨ _
    rw [stp]
    by_cases c1 : B p < lo
    · refine Or.inl ?_
      rw [if_neg (by omega)] at he
      rw [zit_t (nI_lt c1 (by omega)), he]
    · rw [zit_f (nI_nlt (by omega) (by omega))]
      by_cases c2 : hi < B p
      · refine Or.inl ?_
        rw [if_neg (by omega)] at he
        rw [zit_t (nI_lt c2 (by omega)), he]
      · refine Or.inr ⟨(), ?_, ?_⟩
        · rw [zit_f (nI_nlt (by omega) (by omega))]
        · rw [if_pos ⟨by omega, by omega⟩] at he
          rw [he]
          congr 1
          omega
  · rintro f _ he
    have e0 : n - n = 0 := by omega
    rw [e0, zeor] at he
    show F_X8_endOfRow_L5 1 (nI lo) (nI hi) _ (f + 1) (nI n) M = _
    rw [F_X8_endOfRow_L5, h.1, zit_t (nI_le (Nat.le_refl _) (by omega)), he]
theorem skp_x (ht : zTxt B n) {M : zM} (h : zTp B n M) {e : Nat} (he : e ≤ n) (h4 : M 1 4 = nI e) (K : zM → zO) : F_X8_step_L16 1 K zN M = K (zup M 1 4 (nI (ztS B n e))) := by
  have hn := ht.1
  refine zfor (i := e) (f := zN) (a := M) n (fun f p (M1 : zM) => F_X8_step_L16 1 K f M1) (fun p M1 => M1 = zup M 1 4 (nI p) ∧ ztS B n e = zskp B (n - p) p) (fun o => o = K (zup M 1 4 (nI (ztS B n e)))) ?_ ?_ he (zN_ge (by omega)) ⟨by rw [← h4, zup_same rfl], rfl⟩
  · rintro f p M1 hp ⟨rfl, hz⟩
    obtain ⟨d, hd⟩ : ∃ d, n - p = d + 1 := ⟨n - p - 1, by omega⟩
    rw [hd, zskp] at hz
    have hbp := ht.2.1 p
    have h1 : zTp B n (zup M 1 4 (nI p)) := zTp_up h (by decide)
    have e4 : zup M 1 4 (nI p) 1 4 = nI p := by rw [zup_row, upd_eq]
    have e32 : (nI (B p) = (32 : Int32)) = (B p = 32) := i_eq (b := 32) (by omega) (by omega)
    have e10 : (nI (B p) = (10 : Int32)) = (B p = 10) := i_eq (b := 10) (by omega) (by omega)
    have stp : F_X8_step_L16 1 K (f + 1) (zup M 1 4 (nI p)) = zit (B p = 32) (F_X8_step_L16 1 K f (zup M 1 4 (nI (p + 1)))) (zit (B p = 10) (F_X8_step_L16 1 K f (zup M 1 4 (nI (p + 1)))) (K (zup M 1 4 (nI p)))) := by
      rw [F_X8_step_L16, h1.1, e4, zit_f (nI_ge hp (by omega)), at_x ht h1 (by omega), zbI_I, zjo_eq]
      rw [e4, at_x ht h1 (by omega), zbI_I]
      try dsimp only
      rw [zst_eq, e4, nI_1, show zup (zup M 1 4 (nI p)) 1 4 (nI (p + 1)) = zup M 1 4 (nI (p + 1)) from by funext i j; unfold zup; split <;> rfl]
      simp only [e32, e10]
    show F_X8_step_L16 1 K (f + 1) (zup M 1 4 (nI p)) = _ ∨ _
    rw [stp]
    by_cases c1 : B p = 32 ∨ B p = 10
    · refine Or.inr ⟨zup M 1 4 (nI (p + 1)), ?_, rfl, ?_⟩
      · by_cases c2 : B p = 32
        · rw [zit_t c2]
        · rw [zit_f c2, zit_t (c1.resolve_left c2)]
      · rw [if_pos c1] at hz
        rw [hz]
        congr 1
        omega
    · refine Or.inl ?_
      rw [if_neg c1] at hz
      rw [zit_f (fun z => c1 (Or.inl z)), zit_f (fun z => c1 (Or.inr z)), hz]
  · rintro f M1 ⟨rfl, hz⟩
    have e0 : n - n = 0 := by omega
    rw [e0, zskp] at hz
    show F_X8_step_L16 1 K (f + 1) (zup M 1 4 (nI n)) = _
    rw [F_X8_step_L16, (zTp_up (k := 4) (v := nI n) h (by decide)).1, zup_row, upd_eq, zit_t (nI_le (Nat.le_refl _) (by omega)), hz]
theorem sgi_all : ∀ b, b < 256 → ∀ k, k < 9 → decide (zsC 1 k = (nI b).toInt8.toInt32) = decide (b = zsgn.getD k 0) := by decide +kernel
theorem sgc_all : ∀ b, b < 256 → ((nI b).toUInt32 % 65536).toInt32 = nI b := by decide +kernel
theorem sg_x {b : Nat} (hb : b < 256) (M : zM) : F_X8_isSign (nI b) M = zI (if b ∈ zsgn then 1 else 0) M := by
  have key : F_J1_indexOfChar_4cfef 1 (nI b) 0 (nI 9) M = zI (if b ∈ zsgn then nI (zsgn.idxOf b) else -1) M := by
    unfold F_J1_indexOfChar_4cfef
    refine zfor (i := 0) (f := zN) (a := ()) 9 (fun f k (_ : Unit) => F_J1_indexOfChar_4cfef_L7 1 (nI 9) (nI b).toInt8.toInt32 (fun (M1 : zM) => zI (-1) M1) f (nI k) M) (fun k _ => ∀ j, j < k → b ≠ zsgn.getD j 0) (fun o => o = zI (if b ∈ zsgn then nI (zsgn.idxOf b) else -1) M) ?_ ?_ (by omega) (zN_ge (by omega)) (fun j hj => absurd hj (Nat.not_lt_zero _))
    · rintro f k _ hk hj
      have hd := sgi_all b hb k hk
      show F_J1_indexOfChar_4cfef_L7 1 (nI 9) (nI b).toInt8.toInt32 _ (f + 1) (nI k) M = _ ∨ _
      rw [F_J1_indexOfChar_4cfef_L7, zit_f (nI_ge hk (by omega)), show zsl.getD 1 0 = 9 from rfl, zin_k (k := k) (n := 9) hk (by omega), zck_t, zix_k (k := k) (by omega), nI_1]
      by_cases hc : b = zsgn.getD k 0
      · refine Or.inl ?_
        rw [decide_eq_true hc] at hd
        rw [zit_t (of_decide_eq_true hd)]
        have hm : b ∈ zsgn := by rw [hc]; exact getD_in 0 zsgn k hk
        have hx : zsgn.idxOf b = k := by
          rw [hc]
          have : ∀ k, k < 9 → zsgn.idxOf (zsgn.getD k 0) = k := by decide
          exact this k hk
        rw [if_pos hm, hx]
      · refine Or.inr ⟨(), ?_, fun j hjk => ?_⟩
        · rw [decide_eq_false hc] at hd
          rw [zit_f (of_decide_eq_false hd)]
        · by_cases e : j = k
          · rw [e]; exact hc
          · exact hj j (by omega)
    · rintro f _ hj
      show F_J1_indexOfChar_4cfef_L7 1 (nI 9) (nI b).toInt8.toInt32 _ (f + 1) (nI 9) M = _
      rw [F_J1_indexOfChar_4cfef_L7, zit_t (nI_le (Nat.le_refl _) (by omega)), if_neg (fun hm => ?_)]
      have h9 : ∀ j, j < 9 → ∀ b, b = zsgn.getD j 0 → True := fun _ _ _ _ => trivial
      simp only [zsgn, List.mem_cons, List.mem_nil_iff, or_false] at hm
      rcases hm with h | h | h | h | h | h | h | h | h
      · exact hj 0 (by omega) h
      · exact hj 1 (by omega) h
      · exact hj 2 (by omega) h
      · exact hj 3 (by omega) h
      · exact hj 4 (by omega) h
      · exact hj 5 (by omega) h
      · exact hj 6 (by omega) h
      · exact hj 7 (by omega) h
      · exact hj 8 (by omega) h
  unfold F_X8_isSign F_J0_indexOf_0f7a4 F_J0_indexOf_7cf53 F_J1_indexOf_4cfef F_J1_canEncode_9a6ad
  rw [sgc_all b hb, pj_lat, zbI_I, zit_f (by decide), pj_length, zbI_I, zjo_eq, zjo_eq, zit_f (show ¬ nI b < (0 : Int32) from (nI_nlt (Nat.zero_le _) (by omega) : ¬ nI b < nI 0)), zit_f (show ¬ (255 : Int32) < nI b from (nI_nlt (by omega) (by omega) : ¬ nI 255 < nI b))]
  try dsimp only
  rw [zbo_1, zck_t, zbI_I, zit_f (by decide), zlt_eq, zlt_eq, show (if (0 : Int32) < 0 then (0 : Int32) else 0) = 0 from by decide, show (if zsL 1 < zsL 1 then zsL 1 else zsL 1) = nI 9 from by decide, zit_t (by decide), key, zbI_I, zbI_I, zbI_I, zbI_I, zjo_eq]
  by_cases h : b ∈ zsgn
  · have hx : zsgn.idxOf b < 9 := List.idxOf_lt_length_of_mem h
    rw [if_pos h, if_pos h, zit_f (show ¬ nI (zsgn.idxOf b) < (0 : Int32) from (nI_nlt (Nat.zero_le _) (by omega) : ¬ nI (zsgn.idxOf b) < nI 0))]
    try dsimp only
    rw [zbo_1, zck_t]
  · rw [if_neg h, if_neg h, zit_t (by decide)]
    try dsimp only
    rw [zbo_0, zck_t]
def zstp (p : Nat × Nat) : Nat × Nat := if p.1 = 0 then (0, p.2 + 1) else p
def zrfs (w : Nat) (p : Nat × Nat) : Nat × Nat := if p.1 = 0 then (w, p.2) else p
/-- only fields 3 to 7 of the tape -/
def zTo (M M' : zM) : Prop := (∀ k, k < 3 → M' 1 k = M 1 k) ∧ zoff [1] M M'
theorem zTo_rfl {M : zM} : zTo M M := ⟨fun _ _ => rfl, zoff_rfl⟩
theorem zTo_tr {M M' M'' : zM} (h : zTo M M') (h' : zTo M' M'') : zTo M M'' := ⟨fun k hk => (h'.1 k hk).trans (h.1 k hk), zoff_trans h.2 h'.2⟩
theorem zTo_up {M M' : zM} {k : Nat} {v : Int32} (h : zTo M M') (hk : 3 ≤ k) : zTo M (zup M' 1 k v) := ⟨fun j hj => by rw [zup_row, upd_ne (by omega), h.1 j hj], zoff_up h.2 (by decide)⟩
theorem zTo_p {M M' : zM} (h : zTp B n M) (o : zTo M M') : zTp B n M' := ⟨by rw [o.1 2 (by omega)]; exact h.1, fun k hk => by rw [o.2 2 (by decide)]; exact h.2 k hk⟩
/-- the token behind e -/
theorem stp_x (ht : zTxt B n) {M : zM} (h : zTp B n M) (h6 : M 1 6 = 0) {e : Nat} (he : e ≤ n) (h5 : M 1 5 = nI e) : ∃ M', F_X8_step 1 M = zV M' ∧ (M' 1 3 = nI (ztK B n (ztS B n e)) ∧ M' 1 4 = nI (ztS B n e) ∧ M' 1 5 = nI (ztE B n (ztS B n e)) ∧ M' 1 6 = M 1 6 ∧ M' 1 7 = M 1 7 ∧ zTo M M') := by
  have hn := ht.1
  have hs := (ztS_le (B := B) he).2
  unfold F_X8_step
  rw [zit_t h6, zst_eq, h5, skp_x ht (zTp_up h (by decide)) he (by rw [zup_row, upd_eq])]
  obtain ⟨s, hs'⟩ : ∃ s, ztS B n e = s := ⟨_, rfl⟩
  rw [hs'] at hs ⊢
  obtain ⟨M1, hM1⟩ : ∃ M1, zup (zup M 1 4 (nI e)) 1 4 (nI s) = M1 := ⟨_, rfl⟩
  rw [hM1]
  have o1 : zTo M M1 := by rw [← hM1]; exact zTo_up (zTo_up zTo_rfl (by omega)) (by omega)
  have h1 := zTo_p h o1
  have e4 : M1 1 4 = nI s := by rw [← hM1, zup_row, upd_eq]
  have e6 : M1 1 6 = M 1 6 := by rw [← hM1, zup_row, upd_ne (by decide), zup_row, upd_ne (by decide)]
  have e7 : M1 1 7 = M 1 7 := by rw [← hM1, zup_row, upd_ne (by decide), zup_row, upd_ne (by decide)]
  have hb := ht.2.1 s
  have fin : ∀ (k v : Nat) (M2 : zM), M2 = zup (zup M1 1 3 (nI k)) 1 5 (nI v) → ztK B n s = k → ztE B n s = v → M2 1 3 = nI (ztK B n s) ∧ M2 1 4 = nI s ∧ M2 1 5 = nI (ztE B n s) ∧ M2 1 6 = M 1 6 ∧ M2 1 7 = M 1 7 ∧ zTo M M2 := fun k v M2 hM hk hv => by
    rw [hM, hk, hv]
    refine ⟨by rw [zup_row, upd_ne (by decide), zup_row, upd_eq], by rw [zup_row, upd_ne (by decide), zup_row, upd_ne (by decide), e4], by rw [zup_row, upd_eq], by rw [zup_row, upd_ne (by decide), zup_row, upd_ne (by decide), e6], by rw [zup_row, upd_ne (by decide), zup_row, upd_ne (by decide), e7], zTo_up (zTo_up o1 (by omega)) (by omega)⟩
  rw [e4, at_x ht h1 (by omega), zbI_I, zjo_eq, e4, h1.1]
  by_cases c0 : n ≤ s
  · rw [zit_f (nI_nlt c0 (by omega)), zst_eq, zst_eq]
    refine ⟨_, rfl, fin 256 s _ (by rw [show zup M1 1 3 256 1 4 = nI s from by rw [zup_row, upd_ne (by decide), e4]]; rfl) (by unfold ztK; rw [if_pos c0]) (by unfold ztE; rw [if_pos c0])⟩
  · rw [zit_t (nI_lt (by omega) (by omega)), zjo_eq]
    by_cases c1 : 97 ≤ B s ∧ B s ≤ 122
    · rw [zit_f (show ¬ nI (B s) < (97 : Int32) from (nI_nlt c1.1 (by omega) : ¬ nI (B s) < nI 97)), zit_f (show ¬ (122 : Int32) < nI (B s) from (nI_nlt c1.2 (by omega) : ¬ nI 122 < nI (B s))), zst_eq, show F_X8_endOfRow 1 97 122 (zup M1 1 3 257) = zI (nI (zeor B 97 122 (n - s) s)) (zup M1 1 3 257) from eor_x (lo := 97) (hi := 122) ht (zTp_up h1 (by decide)) (by omega) (by omega) hs (by rw [zup_row, upd_ne (by decide), e4]), zbI_I, zst_eq]
      exact ⟨_, rfl, fin 257 _ _ rfl (by unfold ztK; rw [if_neg c0, if_pos c1]) (by unfold ztE; rw [if_neg c0, if_pos c1])⟩
    · have hg : ∀ X Y : zO, zit (nI (B s) < (97 : Int32)) X (zit ((122 : Int32) < nI (B s)) X Y) = X := fun X Y => by
        by_cases c2 : B s < 97
        · rw [zit_t (show nI (B s) < (97 : Int32) from nI_lt (b := 97) c2 (by omega))]
        · rw [zit_f (show ¬ nI (B s) < (97 : Int32) from (nI_nlt (by omega) (by omega) : ¬ nI (B s) < nI 97)), zit_t (show (122 : Int32) < nI (B s) from nI_lt (a := 122) (by omega) (by omega))]
      rw [hg]
      try dsimp only
      rw [zjo_eq]
      by_cases c3 : 48 ≤ B s ∧ B s ≤ 57
      · rw [zit_f (show ¬ nI (B s) < (48 : Int32) from (nI_nlt c3.1 (by omega) : ¬ nI (B s) < nI 48)), zit_f (show ¬ (57 : Int32) < nI (B s) from (nI_nlt c3.2 (by omega) : ¬ nI 57 < nI (B s))), zst_eq, show F_X8_endOfRow 1 48 57 (zup M1 1 3 258) = zI (nI (zeor B 48 57 (n - s) s)) (zup M1 1 3 258) from eor_x (lo := 48) (hi := 57) ht (zTp_up h1 (by decide)) (by omega) (by omega) hs (by rw [zup_row, upd_ne (by decide), e4]), zbI_I, zst_eq]
        exact ⟨_, rfl, fin 258 _ _ rfl (by unfold ztK; rw [if_neg c0, if_neg c1, if_pos c3]) (by unfold ztE; rw [if_neg c0, if_neg c1, if_pos c3])⟩
      · have hg2 : ∀ X Y : zO, zit (nI (B s) < (48 : Int32)) X (zit ((57 : Int32) < nI (B s)) X Y) = X := fun X Y => by
          by_cases c2 : B s < 48
          · rw [zit_t (show nI (B s) < (48 : Int32) from nI_lt (b := 48) c2 (by omega))]
          · rw [zit_f (show ¬ nI (B s) < (48 : Int32) from (nI_nlt (by omega) (by omega) : ¬ nI (B s) < nI 48)), zit_t (show (57 : Int32) < nI (B s) from nI_lt (a := 57) (by omega) (by omega))]
        rw [hg2]
        try dsimp only
        rw [sg_x hb, zbI_I, zjo_eq]
        have hv : ztE B n s = s + 1 := by unfold ztE; rw [if_neg c0, if_neg c1, if_neg c3]
        by_cases c4 : B s ∈ zsgn
        · rw [if_pos c4, zit_f (by decide)]
          try dsimp only
          rw [zst_eq, zst_eq, show zup M1 1 3 (nI (B s)) 1 4 = nI s from by rw [zup_row, upd_ne (by decide), e4], nI_1]
          exact ⟨_, rfl, fin (B s) (s + 1) _ rfl (by unfold ztK; rw [if_neg c0, if_neg c1, if_neg c3, if_pos c4]) hv⟩
        · rw [if_neg c4, zit_t rfl]
          try dsimp only
          rw [zst_eq, zst_eq, show zup M1 1 3 259 1 4 = nI s from by rw [zup_row, upd_ne (by decide), e4], nI_1]
          exact ⟨_, rfl, fin 259 (s + 1) _ rfl (by unfold ztK; rw [if_neg c0, if_neg c1, if_neg c3, if_neg c4]) hv⟩
/-- a step, in both states -/
theorem st_x (ht : zTxt B n) {p : Nat × Nat} {M : zM} (h : zTpx B n p M) : ∃ M', F_X8_step 1 M = zV M' ∧ (zTpx B n (zstp p) M' ∧ zTo M M') := by
  obtain ⟨h1, h2, h3, h4, h5, h6, h7⟩ := id h
  by_cases hp : p.1 = 0
  · rw [hp] at h2
    obtain ⟨M', e, m3, m4, m5, m6, m7, o⟩ := stp_x ht h1 h2 (zpe_le (B := B) (n := n) (p.2 + 1)) h7
    refine ⟨M', e, ?_, o⟩
    unfold zstp
    rw [if_pos hp]
    refine ⟨zTo_p h1 o, by rw [m6, h2], by show 0 ≤ 5; omega, ?_, m3, m4, m5⟩
    rw [m7, h4, if_pos hp, if_pos rfl]
  · unfold F_X8_step
    rw [zit_f (show ¬ M 1 6 = 0 from by rw [h2]; exact fun z => hp ((nI_eq (b := 0) (by omega) (by omega)).mp z))]
    refine ⟨M, rfl, ?_, zTo_rfl⟩
    unfold zstp
    rw [if_neg hp]
    exact h
theorem rf_x {p : Nat × Nat} {M : zM} (h : zTpx B n p M) {w : Nat} (hw : 1 ≤ w) (hw5 : w ≤ 5) : ∃ M', F_X8_refuse 1 (nI w) M = zV M' ∧ (zTpx B n (zrfs w p) M' ∧ zTo M M') := by
  obtain ⟨h1, h2, h3, h4, h5, h6, h7⟩ := id h
  unfold F_X8_refuse
  rw [zjo_eq]
  by_cases hp : p.1 = 0
  · rw [hp] at h2
    rw [zit_t (by rw [h2]; rfl), zst_eq, zst_eq, zst_eq]
    unfold zrfs
    rw [if_pos hp]
    have o : zTo M (zup (zup (zup M 1 6 (nI w)) 1 7 (zup M 1 6 (nI w) 1 4)) 1 3 259) := zTo_up (zTo_up (zTo_up zTo_rfl (by omega)) (by omega)) (by omega)
    refine ⟨_, rfl, ⟨zTo_p h1 o, ?_, hw5, ?_, ?_, ?_, ?_⟩, o⟩
    · rw [zup_row, upd_ne (by decide), zup_row, upd_ne (by decide), zup_row, upd_eq]
    · rw [zup_row, upd_ne (by decide), zup_row, upd_eq, zup_row, upd_ne (by decide), h6, if_neg (show ¬ w = 0 from by omega)]
    · rw [zup_row, upd_eq]
      unfold zkn
      rw [if_neg (show ¬ w = 0 from by omega)]
      rfl
    · rw [zup_row, upd_ne (by decide), zup_row, upd_ne (by decide), zup_row, upd_ne (by decide), h6]
    · rw [zup_row, upd_ne (by decide), zup_row, upd_ne (by decide), zup_row, upd_ne (by decide), h7]
  · rw [zit_f (show ¬ M 1 6 = 0 from by rw [h2]; exact fun z => hp ((nI_eq (b := 0) (by omega) (by omega)).mp z))]
    unfold zrfs
    rw [if_neg hp]
    exact ⟨M, rfl, h, zTo_rfl⟩
end ZTP
