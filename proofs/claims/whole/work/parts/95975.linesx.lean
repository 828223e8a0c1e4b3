/-! the class reads LINES -/
section ZXI
variable {B : Nat → Nat} {n : Nat}
theorem nmn_x (ht : zTxt B n) {p : Nat × Nat} {g : zDr} {M : zM} (h : zXss B n (p, g) M) (hp : p.1 = 0) (hg : zDk g) : ∃ M', F_X7_readName 39 M = zV M' ∧ (zXss B n (zname B n p g) M' ∧ zXo M M') := by
  obtain ⟨h1, h2, h3⟩ := id h
  have hd : zDx g M := h3 hp
  obtain ⟨⟨a, a1, a2, a3⟩, b1, c1, d1⟩ := id h2
  have hm8 := so_n hg.1
  have ea : a = g.1 0 0 := (nI_eq (by omega) (by omega)).mp (by rw [← a2]; exact hd.1)
  subst ea
  unfold F_X7_readName zname
  rw [gr_39_1, gr_39_0, hd.1]
  by_cases c8 : 8 ≤ g.1 0 0
  · obtain ⟨M1, e1, t1, o1⟩ := rf_x h1 (w := 2) (by omega) (by omega)
    rw [zit_f (show ¬ nI (g.1 0 0) < (8 : Int32) from (nI_nlt (by omega) (by omega) : ¬ nI (g.1 0 0) < nI 8)), if_pos c8, show F_X8_refuse 1 2 M = zV M1 from e1, zbV_V]
    exact ⟨M1, rfl, zXss_t h t1 o1 (fun _ => hp), zXo_t o1⟩
  · obtain ⟨m, hm⟩ : ∃ m, g.1 0 0 = m := ⟨_, rfl⟩
    rw [zit_t (show nI (g.1 0 0) < (8 : Int32) from nI_lt (b := 8) (by omega) (by omega)), if_neg c8]
    obtain ⟨M1, e1, t1, o1⟩ := st_x ht h1
    rw [e1, zbV_V]
    dsimp only
    have hd1 := zDx_cg hd o1.2
    obtain ⟨M2, e2, t2, r1, r2, r3, r4, r5, r6, r7⟩ := rwd_x ht t1 (S := g.1) (m := g.1 0 0) (by omega) hd1.1 (fun i hi => by rw [o1.2 24 (by decide)]; exact a3 i hi) (fun j => by rw [o1.2 23 (by decide)]; exact d1 j) (fun _ => ⟨rfl, hg.1, fun i hi => (hd1.2.2.2.2.2.1 i hi).1, hd1.2.2.2.2.2.2.1⟩)
    obtain ⟨q, hq⟩ : ∃ q, zstp (zwrd B n g.1 (zstp p)) = q := ⟨_, rfl⟩
    rw [hq] at t2 ⊢
    obtain ⟨M3, e3, t3, o3⟩ := tn_x ht t2 (lo := 0) (hi := 60) (by omega) (by omega)
    obtain ⟨M4, e4, t4, o4⟩ := tn_x ht t3 (lo := 0) (hi := 60) (by omega) (by omega)
    rw [e2, zbV_V, show F_X8_takeNumber 1 0 60 M2 = _ from e3, zbI_I, show F_X8_takeNumber 1 0 60 M3 = _ from e4, zbI_I, show F_X8_isWord 1 3 M4 = _ from iw_x ht t4 (k := 8) (by omega), zbI_I, zjo_eq]
    have hz := znm2_g (B := B) (n := n) (p := q)
    unfold znm2 at hz ⊢
    dsimp only at hz ⊢
    obtain ⟨p4, hp4⟩ : ∃ p4, zstp (zsn B n 0 60 q) = p4 := ⟨_, rfl⟩
    rw [hp4] at t3 t4 hz ⊢
    obtain ⟨p5, hp5⟩ : ∃ p5, zstp (zsn B n 0 60 p4) = p5 := ⟨_, rfl⟩
    rw [hp5] at t4 hz ⊢
    obtain ⟨d, hd'⟩ : ∃ d, (if zwd B n p5 = 8 then 1 else if zwd B n p5 = 9 then 2 else 0) = d := ⟨_, rfl⟩
    rw [hd'] at hz ⊢
    obtain ⟨x, hx⟩ : ∃ x, nI (if (zsn B n 0 60 q).1 = 0 then tkv B n q.2 else 0) = x := ⟨_, rfl⟩
    obtain ⟨y, hy⟩ : ∃ y, nI (if (zsn B n 0 60 p4).1 = 0 then tkv B n p4.2 else 0) = y := ⟨_, rfl⟩
    rw [hx, hy]
    have o24 := zTo_tr o3 o4
    have tail : ∀ (M7 : zM) (p6 : Nat × Nat), zTpx B n p6 M7 → zTo M2 M7 → p6 = (if d = 0 then p5 else zstp p5) → ∃ M', zck (zin (M7 21 0) 8) (zst (zup M7 (zgr 21 6) (zix (M7 21 0)) x) (fun M10 => zck (zin (M10 21 0) 8) (zst (zup M10 (zgr 21 7) (zix (M10 21 0)) y) (fun M11 => zck (zin (M11 21 0) 8) (zst (zup M11 (zgr 21 8) (zix (M11 21 0)) (nI d)) (fun M12 => zst (zup M12 21 0 ((M12 21 0) + 1)) (fun M13 => zV M13))))))) = zV M' ∧ (zXss B n (if d = 0 then p5 else zstp p5, zSnm g.1 (tkl B n (zstp p).2) (fun j => B (tkst B n (zstp p).2 + j) - 96) (tkv B n q.2) (tkv B n p4.2) d, g.2) M' ∧ zXo M M') := fun M7 p6 t7 o7 hp6 => by
      have e21 : M7 21 0 = nI (g.1 0 0) := by rw [o7.2 21 (by decide), r7 21 (by decide), hd1.1]
      have i8 : ∀ M' : zM, M' 21 0 = nI (g.1 0 0) → zin (M' 21 0) 8 = true ∧ zix (M' 21 0) = g.1 0 0 := fun M' hM => ⟨by rw [hM]; exact zin_k (by omega) (by omega), by rw [hM]; exact zix_k (by omega)⟩
      have e10 : zup M7 31 (g.1 0 0) x 21 0 = nI (g.1 0 0) := by rw [zup_ne (by decide), e21]
      have e11 : zup (zup M7 31 (g.1 0 0) x) 32 (g.1 0 0) y 21 0 = nI (g.1 0 0) := by rw [zup_ne (by decide), e10]
      have e12 : zup (zup (zup M7 31 (g.1 0 0) x) 32 (g.1 0 0) y) 33 (g.1 0 0) (nI d) 21 0 = nI (g.1 0 0) := by rw [zup_ne (by decide), e11]
      rw [(i8 M7 e21).1, zck_t, zst_eq, gr_21_6, (i8 M7 e21).2, (i8 _ e10).1, zck_t, zst_eq, gr_21_7, (i8 _ e10).2, (i8 _ e11).1, zck_t, zst_eq, gr_21_8, (i8 _ e11).2, zst_eq, e12, nI_1]
      obtain ⟨M8, hM8⟩ : ∃ M8, zup (zup (zup (zup M7 31 (g.1 0 0) x) 32 (g.1 0 0) y) 33 (g.1 0 0) (nI d)) 21 0 (nI (g.1 0 0 + 1)) = M8 := ⟨_, rfl⟩
      rw [hM8]
      have o8 : zoff [21, 31, 32, 33] M7 M8 := by
        rw [← hM8]
        exact zoff_up (zoff_up (zoff_up (zoff_up zoff_rfl (by decide)) (by decide)) (by decide)) (by decide)
      have f21 : ∀ k, k ≠ 0 → M8 21 k = M 21 k := fun k hk => by rw [← hM8, zup_row, upd_ne hk, zup_ne (by decide), zup_ne (by decide), zup_ne (by decide), o7.2 21 (by decide), r7 21 (by decide), o1.2 21 (by decide)]
      have f21' : M8 21 0 = nI (g.1 0 0 + 1) := by rw [← hM8, zup_row, upd_eq]
      have f24 : M8 24 = M2 24 := by rw [o8 24 (by decide), o7.2 24 (by decide)]
      have f23 : M8 23 = M2 23 := by rw [o8 23 (by decide), o7.2 23 (by decide)]
      have fk : ∀ c, c ∉ [1, 21, 23, 24, 31, 32, 33] → M8 c = M c := fun c hc => by
        rw [o8 c (fun z => hc (by revert z; simp; omega)), o7.2 c (fun z => hc (by revert z; simp; omega)), r7 c (fun z => hc (by revert z; simp; omega)), o1.2 c (fun z => hc (by revert z; simp; omega))]
      have frow : ∀ c, c ∈ [31, 32, 33] → ∀ i, i ≠ g.1 0 0 → M8 c i = M c i := fun c hc i hi => by
        have hh : M7 c = M c := by
          rw [o7.2 c (by revert hc; simp; omega), r7 c (by revert hc; simp; omega), o1.2 c (by revert hc; simp; omega)]
        rw [← hM8]
        simp only [List.mem_cons, List.mem_nil_iff, or_false] at hc
        rcases hc with rfl | rfl | rfl
        · rw [zup_ne (by decide), zup_ne (by decide), zup_ne (by decide), zup_row, upd_ne hi, hh]
        · rw [zup_ne (by decide), zup_ne (by decide), zup_row, upd_ne hi, zup_ne (by decide), hh]
        · rw [zup_ne (by decide), zup_row, upd_ne hi, zup_ne (by decide), zup_ne (by decide), hh]
      have f31 : M8 31 (g.1 0 0) = x ∧ M8 32 (g.1 0 0) = y ∧ M8 33 (g.1 0 0) = nI d := by
        rw [← hM8]
        exact ⟨by rw [zup_ne (by decide), zup_ne (by decide), zup_ne (by decide), zup_row, upd_eq], by rw [zup_ne (by decide), zup_ne (by decide), zup_row, upd_eq], by rw [zup_ne (by decide), zup_row, upd_eq]⟩
      have f24i : ∀ i, i < g.1 0 0 → M8 24 i = M 24 i := fun i hi => by rw [f24, r3 i (by omega), o1.2 24 (by decide)]
      refine ⟨M8, rfl, ⟨?_, ⟨⟨g.1 0 0 + 1, by omega, f21', fun i hi => ?_⟩, ?_, ?_, fun j => by rw [f23]; exact r5 j⟩, fun z => ?_⟩, ⟨fun k hk => ?_, fun c hc => ?_⟩⟩
      · rw [← hp6]
        exact zTpx_cg t7 (o8 1 (by decide)) (o8 2 (by decide))
      · by_cases e : i = g.1 0 0
        · rw [e, f24]
          exact r1
        · rw [f24i i (by omega)]
          exact a3 i (by omega)
      · rw [f21 1 (by decide)]
        exact b1
      · unfold zsf
        rw [fk 27 (by decide)]
        exact c1
      · obtain ⟨z1, z2, z3, z4, z5, z6⟩ := hz z
        have zq : (zwrd B n g.1 (zstp p)).1 = 0 := by
          rw [← hq] at z1
          exact zstp_g z1
        obtain ⟨w1, w2⟩ := r2 zq
        obtain ⟨-, v2, v3, -, -⟩ := zwrd_g zq
        rw [if_pos z2] at hx
        rw [if_pos z3] at hy
        obtain ⟨D1, D2, D3, D4, D5, D6, D7, D8, D9, D10⟩ := hd
        have eo : ∀ r k, r ≠ 0 → r ≠ 3 → r ≠ 4 → r ≠ 5 → r ≠ 6 → r ≠ 7 → zSnm g.1 (tkl B n (zstp p).2) (fun j => B (tkst B n (zstp p).2 + j) - 96) (tkv B n q.2) (tkv B n p4.2) d r k = g.1 r k := fun r k k0 k3 k4 k5 k6 k7 => zSnm_o k0 (by omega) (by omega)
        unfold zDx
        dsimp only
        rw [zSnm_0, eo 1 0 (by omega) (by omega) (by omega) (by omega) (by omega) (by omega), eo 2 0 (by omega) (by omega) (by omega) (by omega) (by omega) (by omega)]
        refine ⟨f21', by rw [f21 1 (by decide)]; exact D2, by rw [f21 2 (by decide)]; exact D3, by rw [f21 3 (by decide)]; exact D4, ?_, fun i hi => ?_, fun i hi j hj => ?_, fun i hi => ?_, fun k hk => ?_, fun f hf => ?_⟩
        · unfold zCrw at D5 ⊢
          rw [fk 27 (by decide), fk 29 (by decide)]
          exact D5
        · by_cases e : i = g.1 0 0
          · rw [e]
            obtain ⟨s5, s6, s7⟩ := zSnm_5 (S := g.1) (l := tkl B n (zstp p).2) (t := fun j => B (tkst B n (zstp p).2 + j) - 96) (x := tkv B n q.2) (y := tkv B n p4.2) (d := d)
            rw [zSnm_3, s5, s6, s7, f24, w1, f31.1, f31.2.1, f31.2.2, ← hx, ← hy]
            exact ⟨rfl, rfl, rfl, rfl⟩
          · rw [zSnm_o (by omega) (fun _ => e) (by omega), zSnm_o (by omega) (fun _ => e) (by omega), zSnm_o (by omega) (fun _ => e) (by omega), zSnm_o (by omega) (fun _ => e) (by omega), f24i i (by omega), frow 31 (by decide) i e, frow 32 (by decide) i e, frow 33 (by decide) i e]
            exact D6 i (by omega)
        · by_cases e : i = g.1 0 0
          · rw [e] at hj ⊢
            rw [zSnm_3] at hj
            rw [zSnm_4, f23]
            exact w2 j hj
          · rw [zSnm_o (by omega) (fun _ => e) (by omega)] at hj
            have h9 := so_i hg.1 i (by omega)
            rw [zSnm_o (by omega) (by omega) (fun _ => by omega), f23, r4 _ (by omega), o1.2 23 (by decide)]
            exact D7 i (by omega) j hj
        · rw [eo 12 i (by omega) (by omega) (by omega) (by omega) (by omega) (by omega), fk 34 (by decide)]
          exact D8 i hi
        · rw [eo 8 k (by omega) (by omega) (by omega) (by omega) (by omega) (by omega), fk 35 (by decide)]
          exact D9 k hk
        · rw [eo 9 f (by omega) (by omega) (by omega) (by omega) (by omega) (by omega), eo 10 f (by omega) (by omega) (by omega) (by omega) (by omega) (by omega), eo 11 f (by omega) (by omega) (by omega) (by omega) (by omega) (by omega), fk 36 (by decide), fk 37 (by decide), fk 38 (by decide)]
          exact D10 f hf
      · rw [o8 1 (by decide), o7.1 k hk, r6 k hk, o1.1 k hk]
      · exact fk c (fun z => hc (by revert z; simp; omega))
    by_cases w8 : zwd B n p5 = 8
    · rw [if_pos w8] at hd'
      obtain ⟨M5, e5, t5, o5⟩ := st_x ht t4
      rw [if_pos w8, zit_f (by decide)]
      try dsimp only
      rw [zjo_eq, zit_f (by decide), e5, zbV_V]
      have := tail M5 (zstp p5) t5 (zTo_tr o24 o5) (by rw [← hd', if_neg (by omega)])
      rw [← hd'] at this ⊢
      exact this
    · rw [if_neg w8] at hd'
      rw [if_neg w8, zit_t rfl, show F_X8_isWord 1 4 M4 = _ from iw_x ht t4 (k := 9) (by omega), zbI_I]
      by_cases w9 : zwd B n p5 = 9
      · rw [if_pos w9] at hd'
        obtain ⟨M5, e5, t5, o5⟩ := st_x ht t4
        rw [if_pos w9, zit_f (by decide)]
        try dsimp only
        rw [zjo_eq, zit_f (by decide), e5, zbV_V]
        have := tail M5 (zstp p5) t5 (zTo_tr o24 o5) (by rw [← hd', if_neg (by omega)])
        rw [← hd'] at this ⊢
        exact this
      · rw [if_neg w9] at hd'
        rw [if_neg w9, zit_t rfl]
        try dsimp only
        rw [zjo_eq, zit_t rfl]
        have := tail M4 p5 t4 o24 (by rw [← hd', if_pos rfl])
        rw [← hd'] at this ⊢
        exact this
/-- a wish -/
theorem zstd_f {k : Nat} {p : Nat × Nat} (h : p.1 ≠ 0) : zstd B n k p = p := by
  unfold zstd zsn
  rw [if_pos h, if_pos h]
theorem isl_x {p : Nat × Nat} {g : zDr} {M : zM} (h : zXss B n (p, g) M) (hg : p.1 = 0 → zSok g.1) : ∃ k, k ≤ 8 ∧ M 21 0 = nI k ∧ zstd B n k p = zstd B n (g.1 0 0) p := by
  by_cases hp : p.1 = 0
  · exact ⟨g.1 0 0, so_n (hg hp), (h.2.2 hp).1, rfl⟩
  · obtain ⟨⟨a, a1, a2, -⟩, -⟩ := h.2.1
    exact ⟨a, a1, a2, by rw [zstd_f hp, zstd_f hp]⟩
theorem zSfe_w {M M' : zM} (h : zSfe M) (o : zoff [1, 31, 32, 33, 34, 35, 36, 37, 38] M M') : zSfe M' := by
  unfold zSfe zsf at *
  rw [o 21 (by decide), o 23 (by decide), o 24 (by decide), o 27 (by decide)]
  exact h
theorem wsn_x (ht : zTxt B n) {p : Nat × Nat} {g : zDr} {i : Nat} (hi : i < 8) {M : zM} (h : zXss B n (p, g) M) (hg : p.1 = 0 → zDk g) : ∃ M', F_X7_readWishedName 39 (nI i) M = zV M' ∧ (zXss B n ((zwsn B n i p g.1).1, (zwsn B n i p g.1).2, g.2) M' ∧ zXo M M') := by
  obtain ⟨h1, h2, h3⟩ := id h
  obtain ⟨k, k8, k1, k2⟩ := isl_x h (fun z => (hg z).1)
  obtain ⟨M1, e1, t1, o1⟩ := sdt_x ht h1 (k := k) (by omega)
  rw [k2] at e1 t1
  unfold F_X7_readWishedName zwsn
  rw [gr_39_1, gr_39_0, k1, e1, zbI_I]
  by_cases c : (zstd B n (g.1 0 0) p).1 = 0
  · obtain ⟨c1, c2, c3, c4, c5⟩ := zstd_0 c
    have hd : zDx g M := h3 c1
    have h8 := so_n (hg c1).1
    obtain ⟨v, hv⟩ : ∃ v, tkv B n p.2 = v := ⟨_, rfl⟩
    rw [hv] at c4
    rw [c5] at t1
    have t1' : zTpx B n (0, p.2) M1 := by rw [← c1]; exact t1
    have hd1 := zDx_cg hd o1.2
    have h35 : M1 35 (8 * i + v) = nI (g.1 8 (8 * i + v)) := hd1.2.2.2.2.2.2.2.2.1 _ (by omega)
    have h34 : M1 34 i = nI (g.1 12 i) := hd1.2.2.2.2.2.2.2.1 i hi
    rw [if_pos c, zit_f (by decide), if_neg (by omega), vl_x ht t1' c2, hv, zlt_eq, ix8, show i * 8 + v = 8 * i + v from by omega, zin_k (k := 8 * i + v) (n := 64) (by omega) (by omega), zck_t, zjo_eq, gr_21_10, gr_21_9, zix_k (k := 8 * i + v) (by omega), h35]
    have body : ∀ M4 : zM, M4 34 i = nI (g.1 12 i) → zck (zin (nI i) 8) (zck (zin (nI i) 8) (zst (zup M4 34 (zix (nI i)) ((M4 34 (zix (nI i))) + 1)) (fun M5 => zck (zin (nI i) 8) (zck true (zst (zup M5 35 (8 * i + v) (M5 34 (zix (nI i)))) (fun M6 => zbV (F_X8_step 1 M6) (fun M7 => zV M7))))))) = zbV (F_X8_step 1 (zup (zup M4 34 i (nI (g.1 12 i + 1))) 35 (8 * i + v) (nI (g.1 12 i + 1)))) (fun M7 => zV M7) := fun M4 h4 => by
      rw [zin_k (k := i) (n := 8) hi (by omega), zck_t, zck_t, zix_k (k := i) (by omega), h4, nI_1, zst_eq, zck_t, zck_t, zst_eq, show zup M4 34 i (nI (g.1 12 i + 1)) 34 i = nI (g.1 12 i + 1) from by rw [zup_row, upd_eq]]
    have hle8 : g.1 8 (8 * i + v) ≤ 8 := by
      have u1 := (hg c1).2.2.2.1 i hi v (by omega)
      have u2 := (hg c1).2.1 i hi
      have u3 := zcu_le (fun v => !decide (g.1 8 (8 * i + v) = 0)) 8
      omega
    by_cases c8 : g.1 8 (8 * i + v) ≠ 0
    · obtain ⟨M2, e2, t2, o2⟩ := rf_x t1 (w := 4) (by omega) (by omega)
      rw [zrfs_0 c1] at t2
      rw [if_pos c8, zit_f (show ¬ nI (g.1 8 (8 * i + v)) = (0 : Int32) from fun z => c8 ((nI_eq (b := 0) (by omega) (by omega)).mp z)), show F_X8_refuse 1 4 M1 = zV M2 from e2, zbV_V]
      try dsimp only
      rw [body M2 (by rw [o2.2 34 (by decide), h34])]
      obtain ⟨M3, hM3⟩ : ∃ M3, zup (zup M2 34 i (nI (g.1 12 i + 1))) 35 (8 * i + v) (nI (g.1 12 i + 1)) = M3 := ⟨_, rfl⟩
      rw [hM3]
      have o3 : zoff [34, 35] M2 M3 := by rw [← hM3]; exact zoff_up (zoff_up zoff_rfl (by decide)) (by decide)
      obtain ⟨M4, e4, t4, o4⟩ := st_x ht (zTpx_cg t2 (o3 1 (by decide)) (o3 2 (by decide)))
      rw [zstp_f (by simp)] at t4
      rw [e4, zbV_V]
      have oo : zoff [1, 34, 35] M M4 := zoff_trans (zoff_mono o1.2 (by decide)) (zoff_trans (zoff_mono o2.2 (by decide)) (zoff_trans (zoff_mono o3 (by decide)) (zoff_mono o4.2 (by decide))))
      refine ⟨M4, rfl, ⟨t4, zSfe_w h2 (zoff_mono oo (by decide)), fun z => absurd z (by simp)⟩, ⟨fun k hk => by rw [o4.1 k hk, o3 1 (by decide), o2.1 k hk, o1.1 k hk], zoff_mono oo (by decide)⟩⟩
    · have c8' : g.1 8 (8 * i + v) = 0 := by omega
      rw [if_neg c8, zit_t (show nI (g.1 8 (8 * i + v)) = (0 : Int32) from by rw [c8']; rfl)]
      try dsimp only
      rw [body M1 h34]
      obtain ⟨M3, hM3⟩ : ∃ M3, zup (zup M1 34 i (nI (g.1 12 i + 1))) 35 (8 * i + v) (nI (g.1 12 i + 1)) = M3 := ⟨_, rfl⟩
      rw [hM3]
      have o3 : zoff [34, 35] M1 M3 := by rw [← hM3]; exact zoff_up (zoff_up zoff_rfl (by decide)) (by decide)
      obtain ⟨M4, e4, t4, o4⟩ := st_x ht (zTpx_cg t1 (o3 1 (by decide)) (o3 2 (by decide)))
      rw [e4, zbV_V]
      have oo : zoff [1, 34, 35] M M4 := zoff_trans (zoff_mono o1.2 (by decide)) (zoff_trans (zoff_mono o3 (by decide)) (zoff_mono o4.2 (by decide)))
      refine ⟨M4, rfl, ⟨t4, zSfe_w h2 (zoff_mono oo (by decide)), fun _ => ?_⟩, ⟨fun k hk => by rw [o4.1 k hk, o3 1 (by decide), o1.1 k hk], zoff_mono oo (by decide)⟩⟩
      obtain ⟨D1, D2, D3, D4, D5, D6, D7, D8, D9, D10⟩ := hd
      have eo : ∀ r, r ≠ 12 → r ≠ 8 → ∀ k, zSws g.1 i v r k = g.1 r k := fun r r1 r2 k => zSws_o (fun z => absurd z r1) (fun z => absurd z r2)
      unfold zDx zCrw
      unfold zCrw at D5
      dsimp only
      rw [oo 21 (by decide), oo 23 (by decide), oo 24 (by decide), oo 27 (by decide), oo 29 (by decide), oo 31 (by decide), oo 32 (by decide), oo 33 (by decide), oo 36 (by decide), oo 37 (by decide), oo 38 (by decide)]
      simp only [eo 0 (by omega) (by omega), eo 1 (by omega) (by omega), eo 2 (by omega) (by omega), eo 3 (by omega) (by omega), eo 4 (by omega) (by omega), eo 5 (by omega) (by omega), eo 6 (by omega) (by omega), eo 7 (by omega) (by omega), eo 9 (by omega) (by omega), eo 10 (by omega) (by omega), eo 11 (by omega) (by omega)]
      refine ⟨D1, D2, D3, D4, D5, D6, D7, fun j hj => ?_, fun k hk => ?_, D10⟩
      · rw [o4.2 34 (by decide), ← hM3, zup_ne (by decide), zup_row]
        by_cases e : j = i
        · rw [e, upd_eq, zSws_12.1]
        · rw [upd_ne e, zSws_o (fun _ => e) (by omega), o1.2 34 (by decide)]
          exact D8 j hj
      · rw [o4.2 35 (by decide), ← hM3, zup_row]
        by_cases e : k = 8 * i + v
        · rw [e, upd_eq, zSws_12.2]
        · rw [upd_ne e, zSws_o (by omega) (fun _ => e), zup_ne (by decide), o1.2 35 (by decide)]
          exact D9 k hk
  · rw [if_neg c, zit_t rfl, if_pos c]
    exact ⟨M1, rfl, zXss_t h t1 o1 (fun z => absurd z c), zXo_t o1⟩
theorem zwsn_k {i : Nat} (hi : i < 8) {p : Nat × Nat} {g : zDr} (hg : p.1 = 0 → zDk g ∧ i < g.1 0 0) (h : (zwsn B n i p g.1).1.1 = 0) : p.1 = 0 ∧ zDk ((zwsn B n i p g.1).2, g.2) ∧ (zwsn B n i p g.1).2 12 i = g.1 12 i + 1 ∧ (zwsn B n i p g.1).2 0 0 = g.1 0 0 ∧ (zwsn B n i p g.1).1 = zstp p := by
  unfold zwsn at h ⊢
  by_cases c : (zstd B n (g.1 0 0) p).1 ≠ 0
  · rw [if_pos c] at h
    exact absurd h c
  · rw [if_neg c] at h ⊢
    obtain ⟨c1, c2, c3, c4, c5⟩ := zstd_0 (by omega : (zstd B n (g.1 0 0) p).1 = 0)
    by_cases c8 : g.1 8 (8 * i + tkv B n p.2) ≠ 0
    · rw [if_pos c8] at h
      exact absurd h (by simp)
    · rw [if_neg c8]
      obtain ⟨k1, k2⟩ := hg c1
      exact ⟨c1, (zDk_ws k1 k2 c4 (by omega)).1, zSws_12.1, zSws_o (S := g.1) (i := i) (v := tkv B n p.2) (r := 0) (k := 0) (by omega) (by omega), rfl⟩
theorem wsl_x (ht : zTxt B n) {i : Nat} (hi : i < 8) (K : zM → zO) : ∀ (d : Nat) (p : Nat × Nat) (g : zDr) (f : Nat) (M : zM), d ≤ 8 → d < f → zXss B n (p, g) M → (p.1 = 0 → zDk g ∧ i < g.1 0 0) → ∃ M', F_X7_readWish_L76 39 (nI i) K f (nI (8 - d)) M = K M' ∧ (zXss B n ((zwsl B n i d p g.1).1, (zwsl B n i d p g.1).2, g.2) M' ∧ zXo M M') := by
  intro d
  induction d with
  | zero =>
    intro p g f M h8 hf h hg
    obtain ⟨f, rfl⟩ : ∃ g, f = g + 1 := ⟨f - 1, by omega⟩
    rw [F_X7_readWish_L76, zit_t (show (8 : Int32) ≤ nI (8 - 0) from by decide)]
    exact ⟨M, rfl, h, zXo_rfl⟩
  | succ d ih =>
    intro p g f M h8 hf h hg
    obtain ⟨f, rfl⟩ : ∃ g, f = g + 1 := ⟨f - 1, by omega⟩
    have hkl := zkn_lt (B := B) ht p
    have k258 : (M 1 3 = 258) = (zkn B n p = 258) := by
      rw [show M 1 3 = nI (zkn B n p) from h.1.2.2.2.2.1]
      exact i_eq (b := 258) (by omega) (by omega)
    rw [F_X7_readWish_L76, zit_f (show ¬ (8 : Int32) ≤ nI (8 - (d + 1)) from (nI_ge (by omega) (by omega) : ¬ nI 8 ≤ nI (8 - (d + 1)))), gr_39_0, zwsl]
    by_cases c : zkn B n p = 258
    · obtain ⟨M1, e1, x1, o1⟩ := wsn_x ht hi h (fun z => (hg z).1)
      rw [zit_t (k258.mpr c), if_pos c, e1, zbV_V, nI_1, show 8 - (d + 1) + 1 = 8 - d from by omega]
      obtain ⟨M2, e2, x2, o2⟩ := ih (zwsn B n i p g.1).1 ((zwsn B n i p g.1).2, g.2) f M1 (by omega) (by omega) x1 (fun z => by
        obtain ⟨z1, z2, z3, z4, z5⟩ := zwsn_k hi hg z
        refine ⟨z2, ?_⟩
        dsimp only
        rw [z4]
        exact (hg z1).2)
      exact ⟨M2, e2, x2, zXo_tr o1 o2⟩
    · rw [zit_f (fun z => c (k258.mp z)), if_neg c]
      exact ⟨M, rfl, h, zXo_rfl⟩
theorem wsh_x (ht : zTxt B n) {p : Nat × Nat} {g : zDr} {M : zM} (h : zXss B n (p, g) M) (hp : p.1 = 0) (hg : zDk g) : ∃ M', F_X7_readWish 39 M = zV M' ∧ (zXss B n (zwish B n p g) M' ∧ zXo M M') := by
  obtain ⟨h1, h2, h3⟩ := id h
  have hd : zDx g M := h3 hp
  have h8 := so_n hg.1
  obtain ⟨M1, e1, t1, o1⟩ := st_x ht h1
  have x1 : zXss B n (zstp p, g) M1 := zXss_t h t1 o1 (fun _ => hp)
  obtain ⟨M2, e2, t2, o2⟩ := sdt_x ht t1 (k := g.1 0 0) (by omega)
  unfold F_X7_readWish zwish
  dsimp only
  rw [gr_39_1, gr_39_0, e1, zbV_V, show M1 21 0 = nI (g.1 0 0) from by rw [o1.2 21 (by decide)]; exact hd.1, e2, zbI_I, zjo_eq]
  by_cases c : (zstd B n (g.1 0 0) (zstp p)).1 = 0
  · obtain ⟨c1, c2, c3, c4, c5⟩ := zstd_0 c
    rw [c5] at t2
    have x2 : zXss B n (zstp p, g) M2 := zXss_t x1 t2 o2 (fun z => z)
    have t2' : zTpx B n (0, (zstp p).2) M2 := by rw [← c1]; exact t2
    obtain ⟨i, hi⟩ : ∃ i, tkv B n (zstp p).2 = i := ⟨_, rfl⟩
    rw [hi] at c4
    have h34 : M2 34 i = nI (g.1 12 i) := by
      rw [o2.2 34 (by decide), o1.2 34 (by decide)]
      exact hd.2.2.2.2.2.2.2.1 i (by omega)
    have u2 := hg.2.1 i (by omega)
    have u3 := zcu_le (fun v => !decide (g.1 8 (8 * i + v) = 0)) 8
    rw [if_pos c, zit_f (by decide), if_neg (by omega), vl_x ht t2' c2, hi]
    try dsimp only
    rw [zit_f (nI_n1 (by omega)), zin_k (k := i) (n := 8) (by omega) (by omega), zck_t, zjo_eq, gr_21_9, zix_k (k := i) (by omega), h34]
    have body : ∀ (q : Nat × Nat) (M6 : zM), zXss B n (q, g) M6 → (q.1 = 0 → zDk g ∧ i < g.1 0 0) → ∃ M', zbV (F_X8_step 1 M6) (fun M7 => zbV (F_X7_readWishedName 39 (nI i) M7) (fun M8 => F_X7_readWish_L76 39 (nI i) (fun (M10 : zM) => zV M10) zN 0 M8)) = zV M' ∧ (zXss B n ((zwsl B n i 8 (zwsn B n i (zstp q) g.1).1 (zwsn B n i (zstp q) g.1).2).1, (zwsl B n i 8 (zwsn B n i (zstp q) g.1).1 (zwsn B n i (zstp q) g.1).2).2, g.2) M' ∧ zXo M6 M') := fun q M6 x6 hq => by
      obtain ⟨M7, e7, t7, o7⟩ := st_x ht x6.1
      have x7 : zXss B n (zstp q, g) M7 := zXss_t x6 t7 o7 (fun z => zstp_g z)
      obtain ⟨M8, e8, x8, o8⟩ := wsn_x ht (i := i) (by omega) x7 (fun z => (hq (zstp_g z)).1)
      obtain ⟨M9, e9, x9, o9⟩ := wsl_x ht (i := i) (by omega) (fun (M10 : zM) => zV M10) 8 (zwsn B n i (zstp q) g.1).1 ((zwsn B n i (zstp q) g.1).2, g.2) zN M8 (by omega) (zN_ge (by omega)) x8 (fun z => by
        obtain ⟨z1, z2, z3, z4, z5⟩ := zwsn_k (by omega) (fun z => hq (zstp_g z)) z
        refine ⟨z2, ?_⟩
        dsimp only
        rw [z4]
        exact (hq (zstp_g z1)).2)
      rw [e7, zbV_V, e8, zbV_V]
      exact ⟨M9, e9, x9, zXo_tr (zXo_t o7) (zXo_tr o8 o9)⟩
    by_cases c12 : 0 < g.1 12 i
    · obtain ⟨M3, e3, t3, o3⟩ := rf_x t2 (w := 5) (by omega) (by omega)
      rw [zrfs_0 c1] at t3
      rw [zit_f (show ¬ nI (g.1 12 i) ≤ (0 : Int32) from (nI_ge (by omega) (by omega) : ¬ nI (g.1 12 i) ≤ nI 0)), show F_X8_refuse 1 5 M2 = zV M3 from e3, zbV_V, if_pos c12]
      obtain ⟨M4, e4, x4, o4⟩ := body (5, (zstp p).2) M3 (zXss_t x2 t3 o3 (fun z => absurd z (by simp))) (fun z => absurd z (by simp))
      rw [zstp_f (by simp)] at x4
      have ez : zwsn B n i (5, (zstp p).2) g.1 = ((5, (zstp p).2), g.1) := by
        unfold zwsn
        rw [zstd_f (by simp), if_pos (by simp)]
      have ew : zwsl B n i 8 (5, (zstp p).2) g.1 = ((5, (zstp p).2), g.1) := by
        rw [show (8 : Nat) = 7 + 1 from rfl, zwsl, zkn_f (by simp), if_neg (by omega)]
      rw [ez] at x4
      dsimp only at x4
      rw [ew] at x4
      refine ⟨M4, e4, x4, zXo_tr (zXo_t o1) (zXo_tr (zXo_t o2) (zXo_tr (zXo_t o3) o4))⟩
    · have c12' : g.1 12 i = 0 := by omega
      rw [zit_t (show nI (g.1 12 i) ≤ (0 : Int32) from by rw [c12']; decide), if_neg c12]
      obtain ⟨M4, e4, x4, o4⟩ := body (zstp p) M2 x2 (fun _ => ⟨hg, c4⟩)
      exact ⟨M4, e4, x4, zXo_tr (zXo_t o1) (zXo_tr (zXo_t o2) o4)⟩
  · rw [if_neg c, zit_t rfl]
    try dsimp only
    rw [zit_t rfl, if_pos c]
    exact ⟨M2, rfl, zXss_t x1 t2 o2 (fun z => absurd z c), zXo_tr (zXo_t o1) (zXo_t o2)⟩
end ZXI
