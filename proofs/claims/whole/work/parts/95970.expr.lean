/-! the reference's expressions: nots, parts, the whole -/
section ZXP
variable {B : Nat → Nat} {n : Nat}
theorem wrg_m {s : zLs} {W P : List Nat} {D : Nat} {M : zM} (h : zEg B n s W P D M) {w : Nat} (hw : 1 ≤ w) (hw5 : w ≤ 5) : ∃ M', F_X12_wrong 79 (nI w) M = zV M' ∧ (zEf B n (w, s.1.2) M' ∧ M' 101 = M 101 ∧ zEo M M') := by
  obtain ⟨M1, e1, t1, k1, o1⟩ := wr_m h.1 hw hw5
  rw [zrfs_0 h.2.1] at t1
  obtain ⟨⟨o, a1, -, -, a4⟩, b1, -, b3, b4, -⟩ := h.2.2.2
  refine ⟨M1, e1, ⟨t1, by dsimp only; omega, o.length, (W ++ P).length, by rw [k1 33 (by decide) (by decide), a1], by rw [k1 34 (by decide) (by decide), b1], by omega, by omega⟩, o1 101 (by decide), zEo_w k1 o1⟩
theorem zEf_p {p : Nat × Nat} {M : zM} (h : zEf B n p M) (hb : ∃ a b, M 79 33 = nI a ∧ M 79 34 = nI b ∧ a + b ≤ 1450 ∧ b ≤ 900) (x y : Int32) : ∃ M1 M2, F_X12_puts 79 x M = zV M1 ∧ M1 79 24 = M 79 24 ∧ F_X12_puts 79 y M1 = zV M2 ∧ (zEf B n p M2 ∧ M2 101 = M 101 ∧ zEo M M2) := by
  obtain ⟨h1, h2, -⟩ := h
  obtain ⟨a, b, c1, c2, c3, c4⟩ := hb
  have o1 : zEy M (zup (zup M 99 a x) 79 33 (nI (a + 1))) := ⟨fun k hk => by rw [zup_row, upd_ne (by omega), zup_ne (by decide)], zoff_up (zoff_up zoff_rfl (by decide)) (by decide)⟩
  obtain ⟨M1, hM1⟩ : ∃ M1, zup (zup M 99 a x) 79 33 (nI (a + 1)) = M1 := ⟨_, rfl⟩
  rw [hM1] at o1
  have d1 : M1 79 33 = nI (a + 1) := by rw [← hM1, zup_row, upd_eq]
  have o2 : zEy M1 (zup (zup M1 99 (a + 1) y) 79 33 (nI (a + 2))) := ⟨fun k hk => by rw [zup_row, upd_ne (by omega), zup_ne (by decide)], zoff_up (zoff_up zoff_rfl (by decide)) (by decide)⟩
  refine ⟨M1, _, by rw [pts_m c1 (by omega), hM1], o1.1 24 (by omega), pts_m d1 (by omega) y, ⟨zEy_t (zEy_t h1 o1) o2, h2, a + 2, b, ?_, ?_, by omega, c4⟩, ?_, zEy_o (zEy_tr o1 o2)⟩
  · rw [zup_row, upd_eq]
  · rw [zup_row, upd_ne (by decide), zup_ne (by decide), ← hM1, zup_row, upd_ne (by decide), zup_ne (by decide), c2]
  · rw [zup_ne (by decide), zup_ne (by decide), ← hM1, zup_ne (by decide), zup_ne (by decide)]
/-- wrong, and put all the same -/
theorem wp_m {s : zLs} {W P : List Nat} {D : Nat} {M : zM} (h : zEg B n s W P D M) {w : Nat} (hw : 1 ≤ w) (hw5 : w ≤ 5) (x : Int32) (y : zM → Int32) : ∃ M1 M2 M3, F_X12_wrong 79 (nI w) M = zV M1 ∧ F_X12_puts 79 x M1 = zV M2 ∧ F_X12_puts 79 (y M2) M2 = zV M3 ∧ (zEf B n (w, s.1.2) M3 ∧ M3 101 = M 101 ∧ zEo M M3) := by
  obtain ⟨M1, e1, t1, k1, o1⟩ := wr_m h.1 hw hw5
  rw [zrfs_0 h.2.1] at t1
  obtain ⟨⟨o, a1, -, -, a4⟩, b1, -, b3, b4, -⟩ := h.2.2.2
  have hb : ∃ a b, M1 79 33 = nI a ∧ M1 79 34 = nI b ∧ a + b ≤ 1450 ∧ b ≤ 900 := ⟨o.length, (W ++ P).length, by rw [k1 33 (by decide) (by decide), a1], by rw [k1 34 (by decide) (by decide), b1], by omega, by omega⟩
  have hf : zEf B n (w, s.1.2) M1 := ⟨t1, by dsimp only; omega, by obtain ⟨a, b, c1, c2, c3, c4⟩ := hb; exact ⟨a, b, c1, c2, by omega, c4⟩⟩
  obtain ⟨M2, M3, e2, -, e3, -⟩ := zEf_p hf hb x 0
  obtain ⟨M2', M3', e2', -, e3', x3, q3, o3⟩ := zEf_p hf hb x (y M2)
  have : M2' = M2 := by
    rw [e2] at e2'
    injection e2' with e
    exact (Prod.mk.inj e).2.symm
  rw [this] at e3'
  exact ⟨M1, M2, M3', e1, e2, e3', x3, q3.trans (o1 101 (by decide)), zEo_tr (zEo_w k1 o1) o3⟩
/-- two numbers that make a step -/
theorem pt2_m {c : List (Nat × Nat)} {W : List Nat} {D bd a v : Nat} {M : zM} (h : zYs c W [] D bd M) (hb : bd ≤ 700) {x : Nat × Nat} (hx : zenc1 x = [a, v]) : ∃ M1 M2, F_X12_puts 79 (nI a) M = zV M1 ∧ zEy M M1 ∧ F_X12_puts 79 (nI v) M1 = zV M2 ∧ (zYs (c ++ [x]) W [] D (bd + 1) M2 ∧ M2 101 = M 101 ∧ zEy M M2) := by
  obtain ⟨⟨o, a1, a2, a3, a4⟩, b1, b2, b3, b4, b5⟩ := h
  have o1 : zEy M (zup (zup M 99 o.length (nI a)) 79 33 (nI (o.length + 1))) := ⟨fun k hk => by rw [zup_row, upd_ne (by omega), zup_ne (by decide)], zoff_up (zoff_up zoff_rfl (by decide)) (by decide)⟩
  obtain ⟨M1, hM1⟩ : ∃ M1, zup (zup M 99 o.length (nI a)) 79 33 (nI (o.length + 1)) = M1 := ⟨_, rfl⟩
  rw [hM1] at o1
  have d1 : M1 79 33 = nI (o.length + 1) := by rw [← hM1, zup_row, upd_eq]
  have d2 : zrow (M1 99) (o ++ [a]) := by
    rw [← hM1, zup_ne (by decide), zup_row]
    exact zrow_ap a2
  have o2 : zEy M1 (zup (zup M1 99 (o.length + 1) (nI v)) 79 33 (nI (o.length + 2))) := ⟨fun k hk => by rw [zup_row, upd_ne (by omega), zup_ne (by decide)], zoff_up (zoff_up zoff_rfl (by decide)) (by decide)⟩
  have k34 : ∀ k, k ≠ 33 → M1 79 k = M 79 k := fun k hk => by rw [← hM1, zup_row, upd_ne hk, zup_ne (by decide)]
  have hl : (o ++ [a]).length = o.length + 1 := by rw [List.length_append, List.length_singleton]
  refine ⟨M1, _, by rw [pts_m a1 (by omega), hM1], o1, pts_m d1 (by omega) _, ⟨⟨(o ++ [a]) ++ [v], ?_, ?_, ?_, ?_⟩, ?_, ?_, by omega, by omega, ?_⟩, ?_, zEy_tr o1 o2⟩
  · rw [zup_row, upd_eq, List.length_append, hl, List.length_singleton]
  · rw [zup_ne (by decide), zup_row, ← hl]
    exact zrow_ap d2
  · rw [List.reverse_nil, List.append_nil] at a3 ⊢
    rw [zenc_ap, ← a3, zenc_1, hx, List.append_assoc]
    rfl
  · rw [List.length_append, hl, List.length_singleton]
    omega
  · rw [zup_row, upd_ne (by decide), zup_ne (by decide), k34 34 (by decide), b1]
  · rw [zup_ne (by decide), zup_ne (by decide), ← hM1, zup_ne (by decide), zup_ne (by decide)]
    exact b2
  · rw [zup_row, upd_ne (by decide), zup_ne (by decide), k34 35 (by decide), b5]
  · rw [zup_ne (by decide), zup_ne (by decide), ← hM1, zup_ne (by decide), zup_ne (by decide)]
/-- a part that is no parenthesis -/
theorem plf_m (ht : zTxt B n) {E : zLs → zLs} {s : zLs} {W : List Nat} {D : Nat} {M : zM} (h : zEg B n s W [] D M) (h40 : tkk B n s.1.2 ≠ 40) : ∃ M', F_X12_part 79 M = zV M' ∧ (((zpart B n E s).1.1 = 0 → zEg B n (zpart B n E s) W [] D M' ∧ (zpart B n E s).1.2 = s.1.2 + 1) ∧ ((zpart B n E s).1.1 ≠ 0 → zEf B n (zpart B n E s).1 M') ∧ M' 101 = M 101 ∧ zEo M M') := by
  obtain ⟨h1, h2, h3, h4⟩ := id h
  have h0 := zEg_0 h
  have hl := tkl_le (B := B) ht s.1.2
  unfold F_X12_part zpart
  rw [gd_m h1, zbI_I, if_pos h2, zit_f (by decide), zjo_eq, if_neg (by omega), if_neg h40]
  -- a good end
  have good : ∀ (x : Nat × Nat) (M2 : zM), tkk B n s.1.2 ≠ 256 → zYs (s.2 ++ [x]) W [] D (s.1.2 + 1) M2 → M2 101 = M 101 → zEy M M2 → ∃ M', zbI (F_X12_isGood 79 M2) (fun r3 M14 => zjo (fun (M16 : zM) => zV M16) (fun (k5 : zM → zO) => zit (r3 = 0) (k5 M14) (zbV (F_X12_goes 79 M14) (fun M15 => k5 M15)))) = zV M' ∧ ((((zadp x (zstp s.1, s.2)).1.1 = 0 → zEg B n (zadp x (zstp s.1, s.2)) W [] D M' ∧ (zadp x (zstp s.1, s.2)).1.2 = s.1.2 + 1) ∧ ((zadp x (zstp s.1, s.2)).1.1 ≠ 0 → zEf B n (zadp x (zstp s.1, s.2)).1 M') ∧ M' 101 = M 101 ∧ zEo M M')) := fun x M2 hk y2 q2 o2 => by
    have t2 := zEy_t h0 o2
    obtain ⟨M3, e3, y3, q3, o3⟩ := gog_m ht t2 hk y2
    rw [gd_m t2, zbI_I, if_pos rfl, zjo_eq, zit_f (by decide), e3, zbV_V]
    have ez : zadp x (zstp s.1, s.2) = ((0, s.1.2 + 1), s.2 ++ [x]) := by
      rw [zadd_0 (by rw [zstp_0 h2]), zstp_0 h2]
    rw [ez]
    exact ⟨M3, rfl, fun _ => ⟨y3, rfl⟩, fun z => absurd rfl z, q3.trans q2, zEo_tr (zEy_o o2) o3⟩
  have bad : ∀ (r : zLs) (M3 : zM), r.1.1 ≠ 0 → zEf B n r.1 M3 → M3 101 = M 101 → zEo M M3 → ∃ M', zbI (F_X12_isGood 79 M3) (fun r3 M14 => zjo (fun (M16 : zM) => zV M16) (fun (k5 : zM → zO) => zit (r3 = 0) (k5 M14) (zbV (F_X12_goes 79 M14) (fun M15 => k5 M15)))) = zV M' ∧ ((r.1.1 = 0 → zEg B n r W [] D M' ∧ r.1.2 = s.1.2 + 1) ∧ (r.1.1 ≠ 0 → zEf B n r.1 M') ∧ M' 101 = M 101 ∧ zEo M M') := fun r M3 hr hf q3 o3 => by
    rw [gd_m hf.1, zbI_I, if_neg hr, zjo_eq, zit_t rfl]
    exact ⟨M3, rfl, fun z => absurd z hr, fun _ => hf, q3, o3⟩
  have w3 : ∀ w, 1 ≤ w → w ≤ 5 → (((zrfs w s.1, s.2) : zLs).1.1 ≠ 0) ∧ ((zrfs w s.1, s.2) : zLs).1 = (w, s.1.2) := fun w hw _ => by
    rw [zrfs_0 h2]
    exact ⟨by dsimp only; omega, rfl⟩
  by_cases c1 : tkk B n s.1.2 = 258
  · rw [zit_t ((s2_m h1).mpr c1), if_neg (by omega), zjo_eq, slg_m h1]
    by_cases c2 : tkl B n s.1.2 ≤ 4
    · have hv := tkv_lt c1
      have hz : (zsn B n 0 9999 s.1).1 = 0 := by
        unfold zsn
        rw [if_neg (by omega), if_neg (by omega), if_neg (by omega), h2]
      obtain ⟨M1, M2, e1, o1, e2, y2, q2, o2⟩ := pt2_m (a := 1) (v := tkv B n s.1.2) h4 h3 (x := (0, tkv B n s.1.2)) rfl
      rw [zit_t (show nI (tkl B n s.1.2) ≤ (4 : Int32) from nI_le (b := 4) c2 (by omega)), if_pos hz]
      try dsimp only
      rw [show F_X12_puts 79 1 M = zV M1 from e1, zbV_V, o1.1 24 (by omega), sv_m h1 c1, e2, zbV_V]
      exact good (0, tkv B n s.1.2) M2 (by omega) y2 q2 o2
    · have hz : zsn B n 0 9999 s.1 = zrfs 2 s.1 := by
        unfold zsn
        rw [if_neg (by omega), if_neg (by omega), if_pos (by omega), zrfs_0 h2]
      obtain ⟨M1, M2, M3, e1, e2, e3, x3, q3, o3⟩ := wp_m h (w := 2) (by omega) (by omega) 1 (fun M => M 79 24)
      rw [zit_f (show ¬ nI (tkl B n s.1.2) ≤ (4 : Int32) from (nI_ge (by omega) (by omega) : ¬ nI (tkl B n s.1.2) ≤ nI 4)), hz, if_neg (w3 2 (by omega) (by omega)).1]
      try dsimp only
      rw [show F_X12_wrong 79 2 M = zV M1 from e1, zbV_V, e2, zbV_V, e3, zbV_V]
      exact bad (zrfs 2 s.1, s.2) M3 (w3 2 (by omega) (by omega)).1 (by rw [(w3 2 (by omega) (by omega)).2]; exact x3) q3 o3
  · rw [zit_f (fun z => c1 ((s2_m h1).mp z))]
    by_cases c2 : tkk B n s.1.2 = 257
    · have hw17 := tkw_le (B := B) (n := n) s.1.2
      rw [zit_t ((s1_m h1).mpr c2), if_pos c2, kw_m ht h1, zbI_I, zjo_eq]
      try dsimp only
      by_cases c3 : tkw B n s.1.2 ≤ 6
      · obtain ⟨M1, M2, e1, o1, e2, y2, q2, o2⟩ := pt2_m (a := 2) (v := tkw B n s.1.2) h4 h3 (x := (1, tkw B n s.1.2)) rfl
        rw [if_pos c3, if_pos (by omega), zjo_eq, zit_f (show ¬ nI (tkw B n s.1.2) < (0 : Int32) from (nI_nlt (Nat.zero_le _) (by omega) : ¬ nI (tkw B n s.1.2) < nI 0)), zit_t (show nI (tkw B n s.1.2) ≤ (6 : Int32) from nI_le (b := 6) c3 (by omega))]
        try dsimp only
        rw [show F_X12_puts 79 2 M = zV M1 from e1, zbV_V, e2, zbV_V]
        exact good (1, tkw B n s.1.2) M2 (by omega) y2 q2 o2
      · rw [if_neg c3, zjo_eq]
        have go : ∀ v : Int32, ∃ M', zbV (F_X12_wrong 79 3 M) (fun M5 => zbV (F_X12_puts 79 2 M5) (fun M7 => zbV (F_X12_puts 79 v M7) (fun M8 => zbI (F_X12_isGood 79 M8) (fun r3 M14 => zjo (fun (M16 : zM) => zV M16) (fun (k5 : zM → zO) => zit (r3 = 0) (k5 M14) (zbV (F_X12_goes 79 M14) (fun M15 => k5 M15))))))) = zV M' ∧ ((((zrfs 3 s.1, s.2) : zLs).1.1 = 0 → zEg B n (zrfs 3 s.1, s.2) W [] D M' ∧ ((zrfs 3 s.1, s.2) : zLs).1.2 = s.1.2 + 1) ∧ (((zrfs 3 s.1, s.2) : zLs).1.1 ≠ 0 → zEf B n ((zrfs 3 s.1, s.2) : zLs).1 M') ∧ M' 101 = M 101 ∧ zEo M M') := fun v => by
          obtain ⟨M1, M2, M3, e1, e2, e3, x3, q3, o3⟩ := wp_m h (w := 3) (by omega) (by omega) 2 (fun _ => v)
          rw [show F_X12_wrong 79 3 M = zV M1 from e1, zbV_V, e2, zbV_V, e3, zbV_V]
          exact bad (zrfs 3 s.1, s.2) M3 (w3 3 (by omega) (by omega)).1 (by rw [(w3 3 (by omega) (by omega)).2]; exact x3) q3 o3
        by_cases c4 : tkw B n s.1.2 < 17
        · rw [if_pos c4, zit_f (show ¬ nI (tkw B n s.1.2) < (0 : Int32) from (nI_nlt (Nat.zero_le _) (by omega) : ¬ nI (tkw B n s.1.2) < nI 0)), zit_f (show ¬ nI (tkw B n s.1.2) ≤ (6 : Int32) from (nI_ge (by omega) (by omega) : ¬ nI (tkw B n s.1.2) ≤ nI 6))]
          exact go _
        · rw [if_neg c4, zit_t (by decide)]
          exact go _
    · have hz : zsn B n 0 9999 s.1 = zrfs 1 s.1 := by
        unfold zsn
        rw [if_neg (by omega), if_pos (by omega), zrfs_0 h2]
      obtain ⟨M1, e1, x1, q1, o1⟩ := wrg_m h (w := 1) (by omega) (by omega)
      rw [zit_f (fun z => c2 ((s1_m h1).mp z)), if_neg c2, hz, if_neg (w3 1 (by omega) (by omega)).1, show F_X12_wrong 79 1 M = zV M1 from e1, zbV_V]
      try dsimp only
      exact bad (zrfs 1 s.1, s.2) M1 (w3 1 (by omega) (by omega)).1 (by rw [(w3 1 (by omega) (by omega)).2]; exact x1) q1 o1
end ZXP
