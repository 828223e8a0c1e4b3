/-! the class reads LINES: fairs, speed, law, all -/
section ZXJ
variable {B : Nat → Nat} {n : Nat}
theorem zSfr_o {S : zSD} {y a b r k : Nat} (h1 : r ≠ 1) (h2 : (r = 9 ∨ r = 10 ∨ r = 11) → k ≠ S 1 0) : zSfr S y a b r k = S r k := by
  unfold zSfr
  rw [if_neg (by omega), if_neg (fun z => h2 (by omega) z.2), if_neg (fun z => h2 (by omega) z.2), if_neg (fun z => h2 (by omega) z.2)]
theorem zSfr_1 {S : zSD} {y a b : Nat} : zSfr S y a b 1 0 = S 1 0 + 1 ∧ zSfr S y a b 9 (S 1 0) = y ∧ zSfr S y a b 10 (S 1 0) = a ∧ zSfr S y a b 11 (S 1 0) = b := by
  unfold zSfr
  refine ⟨by rw [if_pos ⟨rfl, rfl⟩], by rw [if_neg (by omega), if_pos ⟨rfl, rfl⟩], by rw [if_neg (by omega), if_neg (by omega), if_pos ⟨rfl, rfl⟩], by rw [if_neg (by omega), if_neg (by omega), if_neg (by omega), if_pos ⟨rfl, rfl⟩]⟩
/-- what a good end of a fair says -/
theorem zfair_g {p : Nat × Nat} {g : zDr} (h12 : ¬ 12 ≤ g.1 1 0) (h : (zfair B n p g).1.1 = 0) : p.1 = 0 ∧ (zsn B n 0 200 (zstp p)).1 = 0 ∧ (zstd B n (g.1 0 0) (zstp (zsn B n 0 200 (zstp p)))).1 = 0 ∧ (zstd B n (g.1 0 0) (zstp (zstd B n (g.1 0 0) (zstp (zsn B n 0 200 (zstp p)))))).1 = 0 ∧ tkv B n (zstp (zsn B n 0 200 (zstp p))).2 ≠ tkv B n (zstp (zstd B n (g.1 0 0) (zstp (zsn B n 0 200 (zstp p))))).2 := by
  unfold zfair at h
  rw [if_neg h12] at h
  dsimp only at h
  have h6 := zstp_g h
  obtain ⟨p5, hp5⟩ : ∃ p5, zstd B n (g.1 0 0) (zstp (zstd B n (g.1 0 0) (zstp (zsn B n 0 200 (zstp p))))) = p5 := ⟨_, rfl⟩
  rw [hp5] at h6 ⊢
  by_cases c : p5.1 = 0 ∧ tkv B n (zstp (zsn B n 0 200 (zstp p))).2 = tkv B n (zstp (zstd B n (g.1 0 0) (zstp (zsn B n 0 200 (zstp p))))).2
  · rw [if_pos c] at h6
    exact absurd h6 (by simp)
  · rw [if_neg c] at h6
    have h5 := h6
    rw [← hp5] at h5
    obtain ⟨a1, -⟩ := zstd_0 h5
    have h3 := zstp_g a1
    obtain ⟨b1, -⟩ := zstd_0 h3
    have h1 := zsn_g b1
    exact ⟨zstp_g (zsn_0 h1).1, h1, h3, h6, fun z => c ⟨h6, z⟩⟩
theorem val_x (ht : zTxt B n) {p : Nat × Nat} {k : Nat} {M : zM} (h : zTpx B n (zstd B n k p) M) (K : Int32 → zM → zO) : zjo K (fun (k1 : Int32 → zM → zO) => zit ((if (zstd B n k p).1 = 0 then (1 : Int32) else 0) = 0) (k1 (-1) M) (k1 (M 1 6) M)) = K (if (zstd B n k p).1 = 0 then nI (tkv B n p.2) else -1) M := by
  rw [zjo_eq]
  by_cases c : (zstd B n k p).1 = 0
  · obtain ⟨c1, c2, c3, c4, c5⟩ := zstd_0 c
    rw [c5] at h
    have h' : zTpx B n (0, p.2) M := by rw [← c1]; exact h
    rw [if_pos c, if_pos c, zit_f (by decide), vl_x ht h' c2]
  · rw [if_neg c, if_neg c, zit_t rfl]
theorem frr_x (ht : zTxt B n) {p : Nat × Nat} {g : zDr} {M : zM} (h : zXss B n (p, g) M) (hp : p.1 = 0) (hg : zDk g) : ∃ M', F_X7_readFair 39 M = zV M' ∧ (zXss B n (zfair B n p g) M' ∧ zXo M M') := by
  obtain ⟨h1, h2, h3⟩ := id h
  have hd : zDx g M := h3 hp
  have h8 := so_n hg.1
  have hf12 := so_f hg.1
  have hfg := zfair_g (B := B) (n := n) (p := p) (g := g)
  unfold F_X7_readFair
  rw [gr_39_1, gr_39_0, hd.2.1]
  by_cases c12 : 12 ≤ g.1 1 0
  · obtain ⟨M1, e1, t1, o1⟩ := rf_x h1 (w := 2) (by omega) (by omega)
    unfold zfair
    rw [zit_f (show ¬ nI (g.1 1 0) < (12 : Int32) from (nI_nlt (by omega) (by omega) : ¬ nI (g.1 1 0) < nI 12)), if_pos c12, show F_X8_refuse 1 2 M = zV M1 from e1, zbV_V]
    exact ⟨M1, rfl, zXss_t h t1 o1 (fun _ => hp), zXo_t o1⟩
  · have hfg := hfg c12
    rw [zit_t (show nI (g.1 1 0) < (12 : Int32) from nI_lt (b := 12) (by omega) (by omega))]
    unfold zfair at hfg ⊢
    rw [if_neg c12] at hfg ⊢
    dsimp only at hfg ⊢
    obtain ⟨F, hF⟩ : ∃ F, g.1 1 0 = F := ⟨_, rfl⟩
    obtain ⟨M1, e1, t1, o1⟩ := st_x ht h1
    obtain ⟨p1, hp1⟩ : ∃ p1, zstp p = p1 := ⟨_, rfl⟩
    rw [hp1] at t1 hfg ⊢
    obtain ⟨M2, e2, t2, o2⟩ := tn_x ht t1 (lo := 0) (hi := 200) (by omega) (by omega)
    obtain ⟨p2, hp2⟩ : ∃ p2, zstp (zsn B n 0 200 p1) = p2 := ⟨_, rfl⟩
    rw [hp2] at t2 hfg ⊢
    have e21 : M1 21 = M 21 := o1.2 21 (by decide)
    rw [e1, zbV_V, show F_X8_takeNumber 1 0 200 M1 = _ from e2, zbI_I, e21, hd.2.1, zin_k (k := g.1 1 0) (n := 12) (by omega) (by omega), zck_t, zst_eq, gr_21_11, zix_k (k := g.1 1 0) (by omega)]
    obtain ⟨Y, hY⟩ : ∃ Y, nI (if (zsn B n 0 200 p1).1 = 0 then tkv B n p1.2 else 0) = Y := ⟨_, rfl⟩
    rw [hY]
    obtain ⟨M3, hM3⟩ : ∃ M3, zup M2 36 (g.1 1 0) Y = M3 := ⟨_, rfl⟩
    rw [hM3]
    have o3 : zoff [36] M2 M3 := by rw [← hM3]; exact zoff_up zoff_rfl (by decide)
    have t3 := zTpx_cg t2 (o3 1 (by decide)) (o3 2 (by decide))
    have f3 : M3 21 0 = nI (g.1 0 0) := by rw [o3 21 (by decide), o2.2 21 (by decide), e21, hd.1]
    obtain ⟨M4, e4, t4, o4⟩ := sdt_x ht t3 (k := g.1 0 0) (by omega)
    rw [f3, e4, zbI_I, val_x ht t4]
    obtain ⟨M5, e5, t5, o5⟩ := st_x ht t4
    have f5 : M5 21 0 = nI (g.1 0 0) := by rw [o5.2 21 (by decide), o4.2 21 (by decide), f3]
    obtain ⟨p3, hp3⟩ : ∃ p3, zstd B n (g.1 0 0) p2 = p3 := ⟨_, rfl⟩
    have hz3 := zstd_0 (B := B) (n := n) (k := g.1 0 0) (p := p2)
    rw [hp3] at t5 hfg hz3 ⊢
    obtain ⟨p4, hp4⟩ : ∃ p4, zstp p3 = p4 := ⟨_, rfl⟩
    rw [hp4] at t5 hfg ⊢
    obtain ⟨M6, e6, t6, o6⟩ := sdt_x ht t5 (k := g.1 0 0) (by omega)
    obtain ⟨w1, hw1⟩ : ∃ w1, (if p3.1 = 0 then nI (tkv B n p2.2) else -1) = w1 := ⟨_, rfl⟩
    rw [hw1]
    try dsimp only
    rw [e5, zbV_V, f5, e6, zbI_I, val_x ht t6]
    obtain ⟨p5, hp5⟩ : ∃ p5, zstd B n (g.1 0 0) p4 = p5 := ⟨_, rfl⟩
    have hz5 := zstd_0 (B := B) (n := n) (k := g.1 0 0) (p := p4)
    have hz52 := zstd_2 (B := B) (n := n) (k := g.1 0 0) p4
    rw [hp5] at t6 hfg hz5 hz52 ⊢
    obtain ⟨w2, hw2⟩ : ∃ w2, (if p5.1 = 0 then nI (tkv B n p4.2) else -1) = w2 := ⟨_, rfl⟩
    rw [hw2]
    try dsimp only
    rw [zjo_eq]
    have o16 : zoff [1, 36] M M6 := zoff_trans (zoff_mono o1.2 (by decide)) (zoff_trans (zoff_mono o2.2 (by decide)) (zoff_trans (zoff_mono o3 (by decide)) (zoff_trans (zoff_mono o4.2 (by decide)) (zoff_trans (zoff_mono o5.2 (by decide)) (zoff_mono o6.2 (by decide))))))
    have q16 : ∀ k, k < 3 → M6 1 k = M 1 k := fun k hk => by rw [o6.1 k hk, o5.1 k hk, o4.1 k hk, o3 1 (by decide), o2.1 k hk, o1.1 k hk]
    obtain ⟨p6, hp6⟩ : ∃ p6, (if p5.1 = 0 ∧ tkv B n p2.2 = tkv B n p4.2 then (4, p5.2) else p5) = p6 := ⟨_, rfl⟩
    rw [hp6] at hfg ⊢
    -- the end
    have tail : ∀ M7 : zM, zTpx B n p6 M7 → zTo M6 M7 → ∃ M', zbV (F_X8_step 1 M7) (fun M13 => zck (zin (M13 21 1) 12) (zst (zup M13 (zgr 21 12) (zix (M13 21 1)) w1) (fun M14 => zck (zin (M14 21 1) 12) (zst (zup M14 (zgr 21 13) (zix (M14 21 1)) w2) (fun M15 => zst (zup M15 21 1 ((M15 21 1) + 1)) (fun M16 => zV M16)))))) = zV M' ∧ (zXss B n (zstp p6, zSfr g.1 (tkv B n p1.2) (tkv B n p2.2) (tkv B n p4.2), g.2) M' ∧ zXo M M') := fun M7 t7 o7 => by
      obtain ⟨M8, e8, t8, o8⟩ := st_x ht t7
      have o18 : zoff [1, 36] M M8 := zoff_trans o16 (zoff_trans (zoff_mono o7.2 (by decide)) (zoff_mono o8.2 (by decide)))
      have f8 : M8 21 1 = nI (g.1 1 0) := by rw [o18 21 (by decide)]; exact hd.2.1
      have g8 : zup M8 37 (g.1 1 0) w1 21 1 = nI (g.1 1 0) := by rw [zup_ne (by decide), f8]
      have k8 : zup (zup M8 37 (g.1 1 0) w1) 38 (g.1 1 0) w2 21 1 = nI (g.1 1 0) := by rw [zup_ne (by decide), g8]
      rw [e8, zbV_V, f8, zin_k (k := g.1 1 0) (n := 12) (by omega) (by omega), zck_t, zst_eq, gr_21_12, zix_k (k := g.1 1 0) (by omega), g8, zin_k (k := g.1 1 0) (n := 12) (by omega) (by omega), zck_t, zst_eq, gr_21_13, zix_k (k := g.1 1 0) (by omega), zst_eq, k8, nI_1]
      obtain ⟨M9, hM9⟩ : ∃ M9, zup (zup (zup M8 37 (g.1 1 0) w1) 38 (g.1 1 0) w2) 21 1 (nI (g.1 1 0 + 1)) = M9 := ⟨_, rfl⟩
      rw [hM9]
      have o9 : zoff [21, 37, 38] M8 M9 := by rw [← hM9]; exact zoff_up (zoff_up (zoff_up zoff_rfl (by decide)) (by decide)) (by decide)
      have f21 : ∀ k, k ≠ 1 → M9 21 k = M 21 k := fun k hk => by rw [← hM9, zup_row, upd_ne hk, zup_ne (by decide), zup_ne (by decide), o18 21 (by decide)]
      have f21' : M9 21 1 = nI (g.1 1 0 + 1) := by rw [← hM9, zup_row, upd_eq]
      have fk : ∀ c, c ∉ [1, 21, 36, 37, 38] → M9 c = M c := fun c hc => by
        rw [o9 c (fun z => hc (by revert z; simp; omega)), o18 c (fun z => hc (by revert z; simp; omega))]
      refine ⟨M9, rfl, ⟨zTpx_cg t8 (o9 1 (by decide)) (o9 2 (by decide)), ⟨?_, ⟨g.1 1 0 + 1, by omega, f21'⟩, ?_, fun j => ?_⟩, fun z => ?_⟩, ⟨fun k hk => by rw [o9 1 (by decide), o8.1 k hk, o7.1 k hk, q16 k hk], fun c hc => fk c (fun z => hc (by revert z; simp; omega))⟩⟩
      · obtain ⟨a, a1, a2, a3⟩ := h2.1
        exact ⟨a, a1, by rw [f21 0 (by decide)]; exact a2, fun i hi => by rw [fk 24 (by decide)]; exact a3 i hi⟩
      · unfold zsf
        rw [fk 27 (by decide)]
        exact h2.2.2.1
      · rw [fk 23 (by decide)]
        exact h2.2.2.2 j
      · obtain ⟨z1, z2, z3, z4, z5⟩ := hfg z
        obtain ⟨D1, D2, D3, D4, D5, D6, D7, D8, D9, D10⟩ := hd
        obtain ⟨s1, s9, s10, s11⟩ := zSfr_1 (S := g.1) (y := tkv B n p1.2) (a := tkv B n p2.2) (b := tkv B n p4.2)
        have eo : ∀ r, r ≠ 1 → r ≠ 9 → r ≠ 10 → r ≠ 11 → ∀ k, zSfr g.1 (tkv B n p1.2) (tkv B n p2.2) (tkv B n p4.2) r k = g.1 r k := fun r r1 r2 r3 r4 k => zSfr_o r1 (by omega)
        rw [if_pos z2] at hY
        rw [if_pos z3] at hw1
        rw [if_pos z4] at hw2
        unfold zDx zCrw
        unfold zCrw at D5
        dsimp only
        rw [fk 23 (by decide), fk 24 (by decide), fk 27 (by decide), fk 29 (by decide), fk 31 (by decide), fk 32 (by decide), fk 33 (by decide), fk 34 (by decide), fk 35 (by decide), f21 0 (by decide), f21 2 (by decide), f21 3 (by decide), f21', s1]
        simp only [eo 0 (by omega) (by omega) (by omega) (by omega), eo 2 (by omega) (by omega) (by omega) (by omega), eo 3 (by omega) (by omega) (by omega) (by omega), eo 4 (by omega) (by omega) (by omega) (by omega), eo 5 (by omega) (by omega) (by omega) (by omega), eo 6 (by omega) (by omega) (by omega) (by omega), eo 7 (by omega) (by omega) (by omega) (by omega), eo 8 (by omega) (by omega) (by omega) (by omega), eo 12 (by omega) (by omega) (by omega) (by omega)]
        refine ⟨D1, trivial, D3, D4, D5, D6, D7, D8, D9, fun f hf => ?_⟩
        have r36 : M9 36 = M3 36 := by rw [o9 36 (by decide), o8.2 36 (by decide), o7.2 36 (by decide), o6.2 36 (by decide), o5.2 36 (by decide), o4.2 36 (by decide)]
        have r36' : M2 36 = M 36 := by rw [o2.2 36 (by decide), o1.2 36 (by decide)]
        by_cases e : f = g.1 1 0
        · rw [e, s9, s10, s11, r36, ← hM3, zup_row, upd_eq, ← hY, ← hM9, zup_ne (by decide), zup_ne (by decide), zup_row, upd_eq, zup_ne (by decide), zup_row, upd_eq, ← hw1, ← hw2]
          exact ⟨rfl, rfl, rfl⟩
        · rw [zSfr_o (by omega) (fun _ => e), zSfr_o (by omega) (fun _ => e), zSfr_o (by omega) (fun _ => e), r36, ← hM3, zup_row, upd_ne e, r36', ← hM9, zup_ne (by decide), zup_ne (by decide), zup_row, upd_ne e, zup_ne (by decide), zup_row, upd_ne e, zup_ne (by decide), o18 37 (by decide), o18 38 (by decide)]
          exact D10 f (by omega)
    by_cases c5 : p5.1 = 0
    · obtain ⟨a1, a2, a3, a4, a5⟩ := hz5 c5
      have c3 : p3.1 = 0 := by
        rw [← hp4] at a1
        exact zstp_g a1
      obtain ⟨b1, b2, b3, b4, b5⟩ := hz3 c3
      rw [if_pos c3] at hw1
      rw [if_pos c5] at hw2
      by_cases ce : tkv B n p2.2 = tkv B n p4.2
      · rw [if_pos ⟨c5, ce⟩] at hp6
        obtain ⟨M7, e7, t7, o7⟩ := rf_x t6 (w := 4) (by omega) (by omega)
        rw [zrfs_0 c5, hp6] at t7
        rw [zit_t (by rw [← hw1, ← hw2, ce]), show F_X8_refuse 1 4 M6 = zV M7 from e7, zbV_V]
        exact tail M7 t7 o7
      · rw [if_neg (fun z => ce z.2)] at hp6
        rw [zit_f (by rw [← hw1, ← hw2]; exact fun z => ce ((nI_eq (by omega) (by omega)).mp z))]
        exact tail M6 (by rw [← hp6]; exact t6) zTo_rfl
    · rw [if_neg (fun z => c5 z.1)] at hp6
      by_cases cw : w1 = w2
      · obtain ⟨M7, e7, t7, o7⟩ := rf_x t6 (w := 4) (by omega) (by omega)
        rw [zrfs_f c5, hp6] at t7
        rw [zit_t cw, show F_X8_refuse 1 4 M6 = zV M7 from e7, zbV_V]
        exact tail M7 t7 o7
      · rw [zit_f cw]
        exact tail M6 (by rw [← hp6]; exact t6) zTo_rfl
theorem spd_x (ht : zTxt B n) {p : Nat × Nat} {g : zDr} {M : zM} (h : zXss B n (p, g) M) (hp : p.1 = 0) (hg : zDk g) : ∃ M', F_X7_readSpeed 39 M = zV M' ∧ (zXss B n (zspd B n p g) M' ∧ zXo M M') := by
  obtain ⟨h1, h2, h3⟩ := id h
  have hd : zDx g M := h3 hp
  have h213 : M 21 3 = (if g.2.1 = true then 1 else 0) := hd.2.2.2.1
  unfold F_X7_readSpeed zspd
  rw [zjo_eq, gr_39_1, gr_39_0, h213]
  have body : ∀ (q : Nat × Nat) (M2 : zM), zTpx B n q M2 → zTo M M2 → ∃ M', zbV (F_X8_step 1 M2) (fun M3 => zbI (F_X8_takeNumber 1 1 9 M3) (fun r1 M4 => zst (zup M4 21 2 r1) (fun M5 => zck (zbo 1) (zst (zup M5 21 3 1) (fun M6 => zV M6))))) = zV M' ∧ (zTpx B n (zstp (zsn B n 1 9 (zstp q))) M' ∧ zSfe M' ∧ ((zsn B n 1 9 (zstp q)).1 = 0 → zDx (zSsp g.1 (tkv B n (zstp q).2), true, g.2.2) M') ∧ zXo M M') := fun q M2 t2 o2 => by
    obtain ⟨M3, e3, t3, o3⟩ := st_x ht t2
    obtain ⟨M4, e4, t4, o4⟩ := tn_x ht t3 (lo := 1) (hi := 9) (by omega) (by omega)
    rw [e3, zbV_V, show F_X8_takeNumber 1 1 9 M3 = _ from e4, zbI_I, zst_eq, zbo_1, zck_t, zst_eq]
    obtain ⟨Y, hY⟩ : ∃ Y, nI (if (zsn B n 1 9 (zstp q)).1 = 0 then tkv B n (zstp q).2 else 1) = Y := ⟨_, rfl⟩
    rw [hY]
    obtain ⟨M5, hM5⟩ : ∃ M5, zup (zup M4 21 2 Y) 21 3 1 = M5 := ⟨_, rfl⟩
    rw [hM5]
    have o14 := zTo_tr o2 (zTo_tr o3 o4)
    have o5 : zoff [21] M4 M5 := by rw [← hM5]; exact zoff_up (zoff_up zoff_rfl (by decide)) (by decide)
    have f21 : ∀ k, k ≠ 2 → k ≠ 3 → M5 21 k = M 21 k := fun k k2 k3 => by rw [← hM5, zup_row, upd_ne k3, zup_row, upd_ne k2, o14.2 21 (by decide)]
    have fk : ∀ c, c ∉ [1, 21] → M5 c = M c := fun c hc => by
      rw [o5 c (fun z => hc (by revert z; simp; omega)), o14.2 c (fun z => hc (by revert z; simp; omega))]
    refine ⟨M5, rfl, zTpx_cg t4 (o5 1 (by decide)) (o5 2 (by decide)), ?_, fun z => ?_, ⟨fun k hk => by rw [o5 1 (by decide), o14.1 k hk], fun c hc => fk c (fun z => hc (by revert z; simp; omega))⟩⟩
    · unfold zSfe zsf at h2 ⊢
      rw [f21 0 (by decide) (by decide), f21 1 (by decide) (by decide), fk 23 (by decide), fk 24 (by decide), fk 27 (by decide)]
      exact h2
    · rw [if_pos z] at hY
      obtain ⟨D1, D2, D3, D4, D5, D6, D7, D8, D9, D10⟩ := hd
      have eo : ∀ r, r ≠ 2 → ∀ k, zSsp g.1 (tkv B n (zstp q).2) r k = g.1 r k := fun r r1 k => by
        unfold zSsp
        rw [if_neg (by omega)]
      have e2 : zSsp g.1 (tkv B n (zstp q).2) 2 0 = tkv B n (zstp q).2 := by
        unfold zSsp
        rw [if_pos ⟨rfl, rfl⟩]
      unfold zDx zCrw
      unfold zCrw at D5
      dsimp only
      rw [fk 23 (by decide), fk 24 (by decide), fk 27 (by decide), fk 29 (by decide), fk 31 (by decide), fk 32 (by decide), fk 33 (by decide), fk 34 (by decide), fk 35 (by decide), fk 36 (by decide), fk 37 (by decide), fk 38 (by decide), f21 0 (by decide) (by decide), f21 1 (by decide) (by decide), e2]
      simp only [eo 0 (by omega), eo 1 (by omega), eo 3 (by omega), eo 4 (by omega), eo 5 (by omega), eo 6 (by omega), eo 7 (by omega), eo 8 (by omega), eo 9 (by omega), eo 10 (by omega), eo 11 (by omega), eo 12 (by omega)]
      refine ⟨D1, D2, ?_, ?_, D5, D6, D7, D8, D9, D10⟩
      · rw [← hM5, zup_row, upd_ne (by decide), zup_row, upd_eq, ← hY]
      · rw [← hM5, zup_row, upd_eq, if_pos trivial]
  cases hb : g.2.1 with
  | true =>
    obtain ⟨M1, e1, t1, o1⟩ := rf_x h1 (w := 5) (by omega) (by omega)
    have hf : (zrfs 5 p).1 ≠ 0 := by
      rw [zrfs_0 hp]
      simp
    rw [if_pos rfl, zit_f (by decide), show F_X8_refuse 1 5 M = zV M1 from e1, zbV_V, if_pos rfl]
    obtain ⟨M2, e2, b1, b2, b3, b4⟩ := body (zrfs 5 p) M1 t1 o1
    have ez : zstp (zsn B n 1 9 (zstp (zrfs 5 p))) = zrfs 5 p := by
      rw [zstp_f hf]
      have : zsn B n 1 9 (zrfs 5 p) = zrfs 5 p := by
        unfold zsn
        rw [if_pos hf]
      rw [this, zstp_f hf]
    rw [ez] at b1
    exact ⟨M2, e2, ⟨b1, b2, fun z => absurd z hf⟩, b4⟩
  | false =>
    rw [if_neg (by decide), zit_t rfl, if_neg (by decide)]
    obtain ⟨M2, e2, b1, b2, b3, b4⟩ := body p M h1 zTo_rfl
    exact ⟨M2, e2, ⟨b1, b2, fun z => b3 (zsn_g z)⟩, b4⟩
theorem lwr_x (ht : zTxt B n) {p : Nat × Nat} {g : zDr} {M : zM} (h : zXss B n (p, g) M) (hp : p.1 = 0) (hk : tkk B n p.2 ≠ 256) : ∃ M', F_X7_readLaw 39 M = zV M' ∧ (zXss B n (zlaw' B n p g) M' ∧ zXo M M') := by
  obtain ⟨h1, h2, h3⟩ := id h
  have hd : zDx g M := h3 hp
  have hlt := (tk_lt hk).1
  have hn := ht.1
  unfold F_X7_readLaw
  rw [zjo_eq, gr_39_1, gr_39_0, gr_21_5]
  have body : ∀ (s : zLs) (M3 : zM), zXl B n s M3 → zTo M M3 → ∃ M', zbV (Fr_X0_readExpr 9 27 1 0 M3) (fun M4 => zck (zbo 1) (zst (zup M4 27 4 1) (fun M5 => zV M5))) = zV M' ∧ (zTpx B n (zex B n 6 s).1 M' ∧ zSfe M' ∧ ((zex B n 6 s).1.1 = 0 → zDx (g.1, g.2.1, some (zex B n 6 s).2) M') ∧ zXo M M') := fun s M3 x3 o3 => by
    obtain ⟨M4, e4, x4, o4⟩ := re_x ht 6 9 (by omega) (by omega) s M3 x3
    rw [show Fr_X0_readExpr 9 27 1 0 M3 = zV M4 from e4, zbV_V, zbo_1, zck_t, zst_eq]
    obtain ⟨M5, hM5⟩ : ∃ M5, zup M4 27 4 1 = M5 := ⟨_, rfl⟩
    rw [hM5]
    have o5 : zoff [27] M4 M5 := by rw [← hM5]; exact zoff_up zoff_rfl (by decide)
    have fk : ∀ c, c ∉ [1, 27, 29] → M5 c = M c := fun c hc => by
      rw [o5 c (fun z => hc (by revert z; simp; omega)), o4.2.2 c hc, o3.2 c (fun z => hc (by revert z; simp; omega))]
    have f3 : M5 27 3 = M4 27 3 := by rw [← hM5, zup_row, upd_ne (by decide)]
    refine ⟨M5, rfl, zTpx_cg x4.1 (o5 1 (by decide)) (o5 2 (by decide)), ?_, fun z => ?_, ⟨fun k hk => by rw [o5 1 (by decide), o4.1 k hk, o3.1 k hk], fun c hc => fk c (fun z => hc (by revert z; simp; omega))⟩⟩
    · obtain ⟨a1, a2, a3, a4⟩ := h2
      refine ⟨by rw [fk 21 (by decide), fk 24 (by decide)]; exact a1, by rw [fk 21 (by decide)]; exact a2, ?_, by rw [fk 23 (by decide)]; exact a4⟩
      unfold zsf
      rw [f3]
      exact x4.2.1
    · obtain ⟨D1, D2, D3, D4, D5, D6, D7, D8, D9, D10⟩ := hd
      obtain ⟨y1, y2, y3⟩ := x4.2.2 z
      unfold zDx
      dsimp only
      rw [fk 21 (by decide), fk 23 (by decide), fk 24 (by decide), fk 31 (by decide), fk 32 (by decide), fk 33 (by decide), fk 34 (by decide), fk 35 (by decide), fk 36 (by decide), fk 37 (by decide), fk 38 (by decide)]
      refine ⟨D1, D2, D3, D4, ⟨by rw [← hM5, zup_row, upd_eq], ?_⟩, D6, D7, D8, D9, D10⟩
      unfold zCrw at y1 ⊢
      rw [f3, o5 29 (by decide)]
      exact y1
  unfold zlaw'
  cases hL : g.2.2 with
  | some c =>
    have D5 := hd.2.2.2.2.1
    rw [hL] at D5
    obtain ⟨M1, e1, t1, o1⟩ := rf_x h1 (w := 5) (by omega) (by omega)
    have hf : (zrfs 5 p).1 ≠ 0 := by
      rw [zrfs_0 hp]
      simp
    obtain ⟨M2, e2, t2, o2⟩ := st_x ht t1
    rw [zstp_f hf] at t2
    rw [D5.1, zit_f (by decide), show F_X8_refuse 1 5 M = zV M1 from e1, zbV_V]
    try dsimp only
    rw [e2, zbV_V]
    have x2 : zXl B n (zrfs 5 p, []) M2 := ⟨t2, zsf_cg h2.2.2.1 (by rw [o2.2 27 (by decide), o1.2 27 (by decide)]), fun z => absurd z hf⟩
    obtain ⟨M3, e3, b1, b2, b3, b4⟩ := body (zrfs 5 p, []) M2 x2 (zTo_tr o1 o2)
    rw [zex_f (show ((zrfs 5 p, []) : zLs).1.1 ≠ 0 from hf)] at b1
    exact ⟨M3, e3, ⟨b1, b2, fun z => absurd z hf⟩, b4⟩
  | none =>
    have D5 := hd.2.2.2.2.1
    rw [hL] at D5
    obtain ⟨M2, e2, t2, o2⟩ := st_x ht h1
    rw [D5.1, zit_t rfl]
    try dsimp only
    rw [e2, zbV_V]
    have x2 : zXl B n (zstp p, []) M2 := ⟨t2, zsf_cg h2.2.2.1 (o2.2 27 (by decide)), fun _ => ⟨⟨by rw [o2.2 27 (by decide)]; exact D5.2, trivial⟩, by rw [zstp_0 hp]; simp, by rw [zstp_0 hp]; dsimp only; omega⟩⟩
    obtain ⟨M3, e3, b1, b2, b3, b4⟩ := body (zstp p, []) M2 x2 o2
    exact ⟨M3, e3, ⟨b1, b2, b3⟩, b4⟩
/-- one line -/
theorem lin_x (ht : zTxt B n) {s : (Nat × Nat) × zDr} {M : zM} (h : zXss B n s M) (hp : s.1.1 = 0) (hk : tkk B n s.1.2 ≠ 256) (hg : zDk s.2) : ∃ M', zbV (F_X7_readLine 39 M) (fun M3 => F_X8_takeSign 1 59 M3) = zV M' ∧ (zXss B n (zline B n s) M' ∧ zXo M M') := by
  obtain ⟨p, g⟩ := s
  dsimp only at hp hk hg
  have hw : zwd B n p = tkw B n p.2 := zwd_0 hp
  have fin : ∀ (r : (Nat × Nat) × zDr) (M1 : zM), zXss B n r M1 → zXo M M1 → ∃ M', F_X8_takeSign 1 59 M1 = zV M' ∧ (zXss B n (ztsg B n 59 r.1, r.2) M' ∧ zXo M M') := fun r M1 x1 o1 => by
    obtain ⟨M2, e2, t2, o2⟩ := ts_x ht x1.1 (c := 59) (by omega)
    refine ⟨M2, e2, zXss_t (p := r.1) (g := r.2) x1 t2 o2 (fun z => ?_), zXo_tr o1 (zXo_t o2)⟩
    unfold ztsg at z
    by_cases c : zkn B n r.1 = 59
    · rw [if_pos c] at z
      exact zstp_g z
    · rw [if_neg c] at z
      by_cases c2 : r.1.1 = 0
      · exact c2
      · rw [zrfs_f c2] at z; exact absurd z c2
  have w : ∀ k, k < 17 → F_X8_isWord 1 (zkws k) M = zI (if tkw B n p.2 = k then 1 else 0) M := fun k hk => by rw [iw_x ht h.1 hk, hw]
  unfold F_X7_readLine zline
  dsimp only
  rw [gr_39_0, show F_X8_isWord 1 2 M = _ from w 7 (by omega), zbI_I, zjo_eq]
  by_cases c7 : tkw B n p.2 = 7
  · obtain ⟨M1, e1, x1, o1⟩ := nmn_x ht h hp hg
    rw [if_pos c7, if_pos c7, zit_f (by decide), e1, zbV_V, zbV_V]
    exact fin _ M1 x1 o1
  rw [if_neg c7, if_neg c7, zit_t rfl, show F_X8_isWord 1 5 M = _ from w 10 (by omega), zbI_I]
  by_cases c10 : tkw B n p.2 = 10
  · obtain ⟨M1, e1, x1, o1⟩ := wsh_x ht h hp hg
    rw [if_pos c10, if_pos c10, zit_f (by decide), e1, zbV_V, zbV_V]
    exact fin _ M1 x1 o1
  rw [if_neg c10, if_neg c10, zit_t rfl, show F_X8_isWord 1 6 M = _ from w 11 (by omega), zbI_I]
  by_cases c11 : tkw B n p.2 = 11
  · obtain ⟨M1, e1, x1, o1⟩ := frr_x ht h hp hg
    rw [if_pos c11, if_pos c11, zit_f (by decide), e1, zbV_V, zbV_V]
    exact fin _ M1 x1 o1
  rw [if_neg c11, if_neg c11, zit_t rfl, show F_X8_isWord 1 7 M = _ from w 12 (by omega), zbI_I]
  by_cases c12 : tkw B n p.2 = 12
  · obtain ⟨M1, e1, x1, o1⟩ := spd_x ht h hp hg
    rw [if_pos c12, if_pos c12, zit_f (by decide), e1, zbV_V, zbV_V]
    exact fin _ M1 x1 o1
  rw [if_neg c12, if_neg c12, zit_t rfl, show F_X8_isWord 1 8 M = _ from w 13 (by omega), zbI_I]
  by_cases c13 : tkw B n p.2 = 13
  · obtain ⟨M1, e1, x1, o1⟩ := lwr_x ht h hp hk
    rw [if_pos c13, if_pos c13, zit_f (by decide), e1, zbV_V, zbV_V]
    exact fin _ M1 x1 o1
  obtain ⟨M1, e1, t1, o1⟩ := rf_x h.1 (w := 1) (by omega) (by omega)
  rw [if_neg c13, if_neg c13, zit_t rfl, show F_X8_refuse 1 1 M = zV M1 from e1, zbV_V, zbV_V]
  exact fin (zrfs 1 p, g) M1 (zXss_t h t1 o1 (fun _ => hp)) (zXo_t o1)
end ZXJ
/-! what is told stays in order -/
section ZDL
variable {B : Nat → Nat} {n : Nat}
theorem zwsl_k {i : Nat} (hi : i < 8) : ∀ (d : Nat) (p : Nat × Nat) (g : zDr), (p.1 = 0 → zDk g ∧ i < g.1 0 0) → (zwsl B n i d p g.1).1.1 = 0 → p.1 = 0 ∧ zDk ((zwsl B n i d p g.1).2, g.2) ∧ p.2 ≤ (zwsl B n i d p g.1).1.2
  | 0, p, g, hg, h => ⟨h, (hg h).1, Nat.le_refl _⟩
  | d + 1, p, g, hg, h => by
    rw [zwsl] at h ⊢
    by_cases c : zkn B n p = 258
    · rw [if_pos c] at h ⊢
      have hg2 : (zwsn B n i p g.1).1.1 = 0 → zDk ((zwsn B n i p g.1).2, g.2) ∧ i < (zwsn B n i p g.1).2 0 0 := fun z => by
        obtain ⟨z1, z2, z3, z4, z5⟩ := zwsn_k hi hg z
        exact ⟨z2, by rw [z4]; exact (hg z1).2⟩
      obtain ⟨a1, a2, a3⟩ := zwsl_k hi d (zwsn B n i p g.1).1 ((zwsn B n i p g.1).2, g.2) hg2 h
      obtain ⟨z1, z2, z3, z4, z5⟩ := zwsn_k hi hg a1
      rw [z5, zstp_0 z1] at a3
      dsimp only at a3
      rw [← zstp_0 z1, ← z5] at a3
      exact ⟨z1, a2, by omega⟩
    · rw [if_neg c] at h ⊢
      exact ⟨h, (hg h).1, Nat.le_refl _⟩
theorem ztsg_g {c : Nat} (hc : c < 256) {p : Nat × Nat} (h : (ztsg B n c p).1 = 0) : p.1 = 0 ∧ tkk B n p.2 = c ∧ ztsg B n c p = zstp p := by
  unfold ztsg at h ⊢
  by_cases e : zkn B n p = c
  · rw [if_pos e] at h ⊢
    have hp := zstp_g h
    rw [zkn_0 hp] at e
    exact ⟨hp, e, rfl⟩
  · rw [if_neg e] at h
    by_cases hp : p.1 = 0
    · rw [zrfs_0 hp] at h; exact absurd h (by simp)
    · rw [zrfs_f hp] at h; exact absurd h hp
theorem znm2_2 {q : Nat × Nat} (h : (znm2 B n q).1.1 = 0) : q.2 ≤ (znm2 B n q).1.2 := by
  obtain ⟨z1, z2, z3, -, -, -⟩ := znm2_g h
  have b1 := zsn_0 z2
  have b2 := zsn_0 z3
  unfold znm2 at h ⊢
  dsimp only at h ⊢
  obtain ⟨p5, hp5⟩ : ∃ p5, zstp (zsn B n 0 60 (zstp (zsn B n 0 60 q))) = p5 := ⟨_, rfl⟩
  have e5 : p5.2 = q.2 + 2 := by rw [← hp5, b2.2.2.2.2.2, zstp_0 b2.1, b1.2.2.2.2.2, zstp_0 b1.1]
  rw [hp5] at h ⊢
  obtain ⟨d, hd⟩ : ∃ d, (if zwd B n p5 = 8 then 1 else if zwd B n p5 = 9 then 2 else 0) = d := ⟨_, rfl⟩
  rw [hd] at h ⊢
  by_cases cd : d = 0
  · rw [if_pos cd]; omega
  · rw [if_neg cd] at h ⊢
    rw [zstp_0 (zstp_g h)]
    dsimp only
    omega
theorem zDk_line (ht : zTxt B n) {s : (Nat × Nat) × zDr} (hp : s.1.1 = 0) (hg : zDk s.2) (h : (zline B n s).1.1 = 0) : zDk (zline B n s).2 ∧ s.1.2 < (zline B n s).1.2 := by
  obtain ⟨p, g⟩ := s
  dsimp only at hp hg
  unfold zline at h ⊢
  dsimp only at h ⊢
  obtain ⟨r, hr⟩ : ∃ r, (if tkw B n p.2 = 7 then zname B n p g else if tkw B n p.2 = 10 then zwish B n p g else if tkw B n p.2 = 11 then zfair B n p g else if tkw B n p.2 = 12 then zspd B n p g else if tkw B n p.2 = 13 then zlaw' B n p g else (zrfs 1 p, g)) = r := ⟨_, rfl⟩
  rw [hr] at h ⊢
  obtain ⟨h0, h59, he⟩ := ztsg_g (by omega) h
  rw [he, zstp_0 h0]
  dsimp only
  suffices hs : zDk r.2 ∧ p.2 ≤ r.1.2 from ⟨hs.1, by omega⟩
  by_cases c7 : tkw B n p.2 = 7
  · rw [if_pos c7] at hr
    unfold zname at hr
    by_cases c8 : 8 ≤ g.1 0 0
    · rw [if_pos c8] at hr
      rw [← hr, zrfs_0 hp] at h0
      exact absurd h0 (by simp)
    · rw [if_neg c8] at hr
      dsimp only at hr
      obtain ⟨q, hq⟩ : ∃ q, zstp (zwrd B n g.1 (zstp p)) = q := ⟨_, rfl⟩
      rw [hq] at hr
      obtain ⟨u, hu⟩ : ∃ u, znm2 B n q = u := ⟨_, rfl⟩
      rw [hu] at hr
      rw [← hr] at h0 ⊢
      dsimp only at h0 ⊢
      have h0' : (znm2 B n q).1.1 = 0 := by rw [hu]; exact h0
      obtain ⟨z1, z2, z3, z4, z5, z6⟩ := znm2_g h0'
      rw [hu] at z4 z5 z6
      have zq : (zwrd B n g.1 (zstp p)).1 = 0 := zstp_g (by rw [hq]; exact z1)
      obtain ⟨y1, y2, y3, y4, y5⟩ := zwrd_g zq
      have hw := tk_word y2
      have hlt := tk_lt (B := B) (n := n) (i := (zstp p).2) (by omega)
      refine ⟨zDk_nm hg (by omega) (by unfold tkl; omega) y3 (fun j hj => by have := hw j hj; omega) z4 z5 z6, ?_⟩
      have eq : q.2 = p.2 + 2 := by rw [← hq, y5, zstp_0 y1, zstp_0 hp]
      have := znm2_2 h0'
      rw [hu] at this
      omega
  rw [if_neg c7] at hr
  by_cases c10 : tkw B n p.2 = 10
  · rw [if_pos c10] at hr
    unfold zwish at hr
    dsimp only at hr
    by_cases c1 : (zstd B n (g.1 0 0) (zstp p)).1 ≠ 0
    · rw [if_pos c1] at hr
      rw [← hr] at h0
      exact absurd h0 c1
    · rw [if_neg c1] at hr
      obtain ⟨d1, d2, d3, d4, d5⟩ := zstd_0 (by omega : (zstd B n (g.1 0 0) (zstp p)).1 = 0)
      have h8 := so_n hg.1
      by_cases c2 : 0 < g.1 12 (tkv B n (zstp p).2)
      · rw [if_pos c2] at hr
        rw [← hr] at h0
        exact absurd h0 (by simp)
      · rw [if_neg c2] at hr
        rw [← hr] at h0 ⊢
        dsimp only at h0 ⊢
        have hg2 : (zwsn B n (tkv B n (zstp p).2) (zstp (zstp p)) g.1).1.1 = 0 → zDk ((zwsn B n (tkv B n (zstp p).2) (zstp (zstp p)) g.1).2, g.2) ∧ tkv B n (zstp p).2 < (zwsn B n (tkv B n (zstp p).2) (zstp (zstp p)) g.1).2 0 0 := fun z => by
          obtain ⟨z1, z2, z3, z4, z5⟩ := zwsn_k (by omega) (fun _ => ⟨hg, d4⟩) z
          exact ⟨z2, by rw [z4]; exact d4⟩
        obtain ⟨a1, a2, a3⟩ := zwsl_k (by omega) 8 (zwsn B n (tkv B n (zstp p).2) (zstp (zstp p)) g.1).1 ((zwsn B n (tkv B n (zstp p).2) (zstp (zstp p)) g.1).2, g.2) hg2 h0
        obtain ⟨z1, z2, z3, z4, z5⟩ := zwsn_k (by omega) (fun _ => ⟨hg, d4⟩) a1
        refine ⟨a2, ?_⟩
        have e1 : (zwsn B n (tkv B n (zstp p).2) (zstp (zstp p)) g.1).1.2 = p.2 + 3 := by
          rw [z5, zstp_0 z1, zstp_0 d1, zstp_0 hp]
        dsimp only at a3
        omega
  rw [if_neg c10] at hr
  by_cases c11 : tkw B n p.2 = 11
  · rw [if_pos c11] at hr
    by_cases c12 : 12 ≤ g.1 1 0
    · unfold zfair at hr
      rw [if_pos c12] at hr
      rw [← hr, zrfs_0 hp] at h0
      exact absurd h0 (by simp)
    · rw [← hr] at h0 ⊢
      obtain ⟨z1, z2, z3, z4, z5⟩ := zfair_g c12 h0
      have b1 := zsn_0 z2
      have b3 := zstd_0 z3
      have b5 := zstd_0 z4
      unfold zfair at h0 ⊢
      rw [if_neg c12] at h0 ⊢
      dsimp only at h0 ⊢
      rw [if_neg (fun z => z5 z.2)] at h0 ⊢
      refine ⟨zDk_fr hg (by omega) b1.2.2.2.2.1 b3.2.2.2.1 b5.2.2.2.1 z5, ?_⟩
      rw [zstp_0 z4]
      dsimp only
      rw [b5.2.2.2.2, zstp_0 z3]
      dsimp only
      rw [b3.2.2.2.2, zstp_0 z2]
      dsimp only
      rw [zsn_2, zstp_0 hp]
      dsimp only
      omega
  rw [if_neg c11] at hr
  by_cases c12 : tkw B n p.2 = 12
  · rw [if_pos c12] at hr
    unfold zspd at hr
    by_cases cb : g.2.1 = true
    · rw [if_pos cb] at hr
      rw [← hr, zrfs_0 hp] at h0
      exact absurd h0 (by simp)
    · rw [if_neg cb] at hr
      rw [← hr] at h0 ⊢
      have z1 := zsn_g h0
      have b1 := zsn_0 z1
      refine ⟨zDk_sp hg b1.2.2.2.1 b1.2.2.2.2.1, ?_⟩
      dsimp only
      rw [zstp_0 z1, zsn_2, zstp_0 hp]
      dsimp only
      omega
  rw [if_neg c12] at hr
  by_cases c13 : tkw B n p.2 = 13
  · rw [if_pos c13] at hr
    unfold zlaw' at hr
    cases hL : g.2.2 with
    | some c =>
      rw [hL] at hr
      dsimp only at hr
      rw [← hr, zrfs_0 hp] at h0
      exact absurd h0 (by simp)
    | none =>
      rw [hL] at hr
      dsimp only at hr
      rw [← hr] at h0 ⊢
      obtain ⟨a1, a2, a3, c, a4, a5, a6⟩ := zgw_ex ht 6 _ h0
      dsimp only at a2 a4 a5
      rw [List.nil_append] at a4
      have hn := ht.1
      refine ⟨zDk_lw hg ?_, ?_⟩
      · rw [a4]
        exact ⟨by omega, a6 0 (by omega)⟩
      · have e1 : (zstp p).2 = p.2 + 1 := by rw [zstp_0 hp]
        dsimp only
        omega
  rw [if_neg c13] at hr
  rw [← hr, zrfs_0 hp] at h0
  exact absurd h0 (by simp)
end ZDL
