/-! the reference reads fairs, speed, law, all -/
section ZMF
variable {B : Nat → Nat} {n : Nat}
theorem frr_m (ht : zTxt B n) {p : Nat × Nat} {g : zDr} {M : zM} (h : zMss B n (p, g) M) (hp : p.1 = 0) (hg : zDk g) : ∃ M', F_X12_readsFair 79 M = zV M' ∧ (zMss B n (zfair B n p g) M' ∧ zMx M M') := by
  obtain ⟨f0, i0⟩ := p
  dsimp only at hp
  subst hp
  obtain ⟨h1, h2⟩ := id h
  have hd : zDmm g M := h2 rfl
  have h8 := so_n hg.1
  have hf12 := so_f hg.1
  have h28 : M 79 28 = nI (g.1 1 0) := hd.1.2.1
  have hfg := zfair_g (B := B) (n := n) (p := (0, i0)) (g := g)
  unfold F_X12_readsFair
  rw [zjo_eq, h28]
  by_cases c12 : 12 ≤ g.1 1 0
  · have e12 : g.1 1 0 = 12 := by omega
    obtain ⟨M1, e1, t1, k1, o1⟩ := wr_m h1 (w := 2) (by omega) (by omega)
    have hf : (zrfs 2 ((0, i0), g).1).1 ≠ 0 := by
      rw [zrfs_0 rfl]
      simp
    unfold zfair
    rw [zit_t (show nI (g.1 1 0) = (12 : Int32) from by rw [e12]; rfl), show F_X12_wrong 79 2 M = zV M1 from e1, zbV_V]
    try dsimp only
    rw [gd_m t1, zbI_I, if_neg hf, zit_t rfl, if_pos c12]
    exact ⟨M1, rfl, ⟨t1, fun z => absurd z hf⟩, zMx_p (zMp_w k1 o1)⟩
  · have hfg := hfg c12
    rw [zit_f (show ¬ nI (g.1 1 0) = (12 : Int32) from fun z => by have := (nI_eq (b := 12) (by omega) (by omega)).mp z; omega)]
    try dsimp only
    unfold zfair at hfg ⊢
    rw [if_neg c12] at hfg ⊢
    have ep : zstp (0, i0) = (0, i0 + 1) := zstp_0 rfl
    rw [ep] at hfg ⊢
    dsimp only at hfg ⊢
    rw [gd_m h1, zbI_I, if_pos rfl, zit_f (by decide)]
    obtain ⟨M1, e1, t1, o1⟩ := goz_m ht h1
    have x1 := zMp_o o1
    have e28 : M1 79 28 = nI (g.1 1 0) := by rw [x1.1 28 (by omega) (by omega), h28]
    obtain ⟨F, hF⟩ : ∃ F, g.1 1 0 = F := ⟨_, rfl⟩
    obtain ⟨r2, M2, e2, v2, t2, o2⟩ := nu_m ht t1 (lo := 0) (hi := 200) (by omega) (by omega)
    rw [e1, zbV_V, e28, hF, ix3, zlt_eq, show F_X12_number 79 0 200 M1 = zI r2 M2 from e2, zbI_I, zin_k (k := 3 * F) (n := 36) (by omega) (by omega), zck_t, zst_eq, gr_79_43, zix_k (k := 3 * F) (by omega)]
    rw [show nI (3 * F) + 1 = nI (3 * F + 1) from nI_1 _, show nI (3 * F) + 2 = nI (3 * F + 2) from nI_add _ _, zin_k (k := 3 * F + 1) (n := 36) (by omega) (by omega), zin_k (k := 3 * F + 2) (n := 36) (by omega) (by omega), zix_k (k := 3 * F + 1) (by omega), zix_k (k := 3 * F + 2) (by omega)]
    obtain ⟨M3, hM3⟩ : ∃ M3, zup M2 98 (3 * F) r2 = M3 := ⟨_, rfl⟩
    rw [hM3]
    have o3 : zoff [98] M2 M3 := by rw [← hM3]; exact zoff_up zoff_rfl (by decide)
    have t3 := zTmx_o t2 (zoff_mono o3 (by decide))
    obtain ⟨p2, hp2⟩ : ∃ p2, zstp (zsn B n 0 200 (0, i0 + 1)) = p2 := ⟨_, rfl⟩
    rw [hp2] at t3 hfg ⊢
    have q3 : ∀ k, k < 16 ∨ k = 18 ∨ k = 19 ∨ 26 < k → k ≠ 1026 → M3 79 k = M 79 k := fun k hk hk2 => by rw [o3 79 (by decide), o2.1 k hk hk2, x1.1 k hk hk2]
    have e27 : M3 79 27 = nI (g.1 0 0) := by rw [q3 27 (by omega) (by omega)]; exact hd.1.1
    obtain ⟨r3, M4, e4, v4, t4, k4, o4⟩ := on_m ht t3 (k := g.1 0 0) (by omega) e27
    rw [e4, zbI_I, zck_t, zst_eq]
    obtain ⟨M5, hM5⟩ : ∃ M5, zup M4 98 (3 * F + 1) r3 = M5 := ⟨_, rfl⟩
    rw [hM5]
    have o5 : zoff [98] M4 M5 := by rw [← hM5]; exact zoff_up zoff_rfl (by decide)
    have t5 := zTmx_o t4 (zoff_mono o5 (by decide))
    have hz3 := zstd_0 (B := B) (n := n) (k := g.1 0 0) (p := p2)
    obtain ⟨p3, hp3⟩ : ∃ p3, zstd B n (g.1 0 0) p2 = p3 := ⟨_, rfl⟩
    rw [hp3] at t5 v4 hfg hz3 ⊢
    -- the second place
    have q5 : ∀ k, k < 16 ∨ k = 18 ∨ k = 19 ∨ 26 < k → k ≠ 1026 → M5 79 k = M 79 k := fun k hk hk2 => by rw [o5 79 (by decide), k4 k (by omega) (by omega), q3 k hk hk2]
    have sec : ∀ M6 : zM, zTmx B n (zstp p3) M6 → zMp M5 M6 → ∃ M', zbI (F_X12_oneHere 79 M6) (fun r5 M12 => zck true (zst (zup M12 98 (3 * F + 2) r5) (fun M13 => zbI (F_X12_isGood 79 M13) (fun r6 M14 => zjo (fun (M16 : zM) => zbI (F_X12_isGood 79 M16) (fun r7 M17 => zit (r7 = 0) (zV M17) (zbV (F_X12_goes 79 M17) (fun M18 => zst (zup M18 79 28 ((M18 79 28) + 1)) (fun M19 => zV M19))))) (fun (k3 : zM → zO) => zit (r6 = 0) (k3 M14) (zck true (zck true (zit ((M14 98 (3 * F + 2)) = (M14 98 (3 * F + 1))) (zbV (F_X12_wrong 79 4 M14) (fun M15 => k3 M15)) (k3 M14))))))))) = zV M' ∧ (zMss B n (zstp (if (zstd B n (g.1 0 0) (zstp p3)).1 = 0 ∧ tkv B n p2.2 = tkv B n (zstp p3).2 then (4, (zstd B n (g.1 0 0) (zstp p3)).2) else zstd B n (g.1 0 0) (zstp p3)), zSfr g.1 (tkv B n (i0 + 1)) (tkv B n p2.2) (tkv B n (zstp p3).2), g.2) M' ∧ zMx M M') := fun M6 t6 o6 => by
      have q6 : ∀ k, k < 16 ∨ k = 18 ∨ k = 19 ∨ 26 < k → k ≠ 1026 → M6 79 k = M 79 k := fun k hk hk2 => by rw [o6.1 k hk hk2, q5 k hk hk2]
      obtain ⟨r5, M7, e7, v7, t7, k7, o7⟩ := on_m ht t6 (k := g.1 0 0) (by omega) (by rw [q6 27 (by omega) (by omega)]; exact hd.1.1)
      rw [e7, zbI_I, zck_t, zst_eq]
      obtain ⟨M8, hM8⟩ : ∃ M8, zup M7 98 (3 * F + 2) r5 = M8 := ⟨_, rfl⟩
      rw [hM8]
      have o8 : zoff [98] M7 M8 := by rw [← hM8]; exact zoff_up zoff_rfl (by decide)
      have t8 := zTmx_o t7 (zoff_mono o8 (by decide))
      have hz5 := zstd_0 (B := B) (n := n) (k := g.1 0 0) (p := zstp p3)
      obtain ⟨p5, hp5⟩ : ∃ p5, zstd B n (g.1 0 0) (zstp p3) = p5 := ⟨_, rfl⟩
      rw [hp5] at t8 v7 hfg hz5 ⊢
      obtain ⟨p4, hp4⟩ : ∃ p4, zstp p3 = p4 := ⟨_, rfl⟩
      rw [hp4] at hfg v7 hz5 ⊢
      have q8 : ∀ k, k < 16 ∨ k = 18 ∨ k = 19 ∨ 26 < k → k ≠ 1026 → M8 79 k = M 79 k := fun k hk hk2 => by rw [o8 79 (by decide), k7 k (by omega) (by omega), q6 k hk hk2]
      have c8 : ∀ c, c ∉ [79, 98] → M8 c = M c := fun c hc => by
        simp only [List.mem_cons, List.mem_nil_iff, or_false, not_or] at hc
        rw [o8 c (by simp; omega), o7 c (by simp; omega), o6.2 c (by simp; omega), o5 c (by simp; omega), o4 c (by simp; omega), o3 c (by simp; omega), o2.2 c (by simp; omega), x1.2 c (by simp; omega)]
      have r98 : ∀ j, M8 98 j = (if j = 3 * F + 2 then r5 else if j = 3 * F + 1 then r3 else if j = 3 * F then r2 else M 98 j) := fun j => by
        have e67 : M7 98 = M5 98 := by rw [o7 98 (by decide), o6.2 98 (by decide)]
        have e34 : M4 98 = M3 98 := o4 98 (by decide)
        have e12 : M2 98 = M 98 := by rw [o2.2 98 (by decide), x1.2 98 (by decide)]
        rw [← hM8, zup_row]
        by_cases a1 : j = 3 * F + 2
        · rw [a1, upd_eq, if_pos rfl]
        · rw [upd_ne a1, if_neg a1, e67, ← hM5, zup_row]
          by_cases a2 : j = 3 * F + 1
          · rw [a2, upd_eq, if_pos rfl]
          · rw [upd_ne a2, if_neg a2, e34, ← hM3, zup_row]
            by_cases a3 : j = 3 * F
            · rw [a3, upd_eq, if_pos rfl]
            · rw [upd_ne a3, if_neg a3, e12]
      have x8 : zMx M M8 := ⟨fun k hk hk2 => q8 k (by omega) hk2, fun c hc => c8 c (by
        simp only [List.mem_cons, List.mem_nil_iff, or_false, not_or] at hc ⊢
        omega)⟩
      obtain ⟨p6, hp6⟩ : ∃ p6, (if p5.1 = 0 ∧ tkv B n p2.2 = tkv B n p4.2 then (4, p5.2) else p5) = p6 := ⟨_, rfl⟩
      rw [hp6] at hfg ⊢
      rw [gd_m t8, zbI_I, zjo_eq]
      have last : ∀ M9 : zM, zTmx B n p6 M9 → zMp M8 M9 → ∃ M', zbI (F_X12_isGood 79 M9) (fun r7 M17 => zit (r7 = 0) (zV M17) (zbV (F_X12_goes 79 M17) (fun M18 => zst (zup M18 79 28 ((M18 79 28) + 1)) (fun M19 => zV M19)))) = zV M' ∧ (zMss B n (zstp p6, zSfr g.1 (tkv B n (i0 + 1)) (tkv B n p2.2) (tkv B n p4.2), g.2) M' ∧ zMx M M') := fun M9 t9 o9 => by
        rw [gd_m t9, zbI_I]
        by_cases c6 : p6.1 = 0
        · have t9' : zTmx B n (0, p6.2) M9 := by rw [← c6]; exact t9
          obtain ⟨M10, e10, t10, o10⟩ := goz_m ht t9'
          have oo := zMp_tr o9 (zMp_o o10)
          have e28' : M10 79 28 = nI F := by rw [oo.1 28 (by omega) (by omega), q8 28 (by omega) (by omega), h28, hF]
          rw [if_pos c6, zit_f (by decide), e10, zbV_V, zst_eq, e28', nI_1]
          obtain ⟨M11, hM11⟩ : ∃ M11, zup M10 79 28 (nI (F + 1)) = M11 := ⟨_, rfl⟩
          rw [hM11]
          have o11 : ∀ c, c ≠ 79 → M11 c = M8 c := fun c hc => by rw [← hM11, zup_ne hc, oo.2 c (by simp; omega)]
          have k11 : ∀ k, k < 16 ∨ k = 18 ∨ k = 19 ∨ 26 < k → k ≠ 28 → k ≠ 1026 → M11 79 k = M 79 k := fun k hk h2 h3 => by rw [← hM11, zup_row, upd_ne h2, oo.1 k hk h3, q8 k hk h3]
          have k28 : M11 79 28 = nI (F + 1) := by rw [← hM11, zup_row, upd_eq]
          rw [zstp_0 c6]
          refine ⟨M11, rfl, ⟨?_, fun _ => ?_⟩, ⟨fun k hk hk2 => k11 k (by omega) (by omega) hk2, fun c hc => ?_⟩⟩
          · exact zTmx_cg t10 (fun k hk => by rw [← hM11, zup_row, upd_ne (by omega)]) (by rw [← hM11, zup_ne (by decide)])
          · obtain ⟨z1, z2, z3, z4, z5⟩ := hfg (by rw [zstp_0 c6])
            obtain ⟨⟨D1, D2, D3, D4, D5, D6, D7, D8, D9, D10, D11⟩, D12⟩ := hd
            obtain ⟨s1, s9, s10, s11⟩ := zSfr_1 (S := g.1) (y := tkv B n (i0 + 1)) (a := tkv B n p2.2) (b := tkv B n p4.2)
            have eo : ∀ r, r ≠ 1 → r ≠ 9 → r ≠ 10 → r ≠ 11 → ∀ k, zSfr g.1 (tkv B n (i0 + 1)) (tkv B n p2.2) (tkv B n p4.2) r k = g.1 r k := fun r r1 r2 r3 r4 k => zSfr_o r1 (by omega)
            unfold zDmm zDmn zTw
            dsimp only
            rw [s1, hF, k28, k11 27 (by omega) (by omega) (by omega), k11 29 (by omega) (by omega) (by omega), k11 30 (by omega) (by omega) (by omega), k11 31 (by omega) (by omega) (by omega), k11 32 (by omega) (by omega) (by omega), k11 33 (by omega) (by omega) (by omega), o11 91 (by decide), o11 92 (by decide), o11 93 (by decide), o11 94 (by decide), o11 95 (by decide), o11 96 (by decide), o11 97 (by decide), o11 98 (by decide), o11 99 (by decide), c8 91 (by decide), c8 92 (by decide), c8 93 (by decide), c8 94 (by decide), c8 95 (by decide), c8 96 (by decide), c8 97 (by decide), c8 99 (by decide)]
            simp only [eo 0 (by omega) (by omega) (by omega) (by omega), eo 2 (by omega) (by omega) (by omega) (by omega), eo 3 (by omega) (by omega) (by omega) (by omega), eo 4 (by omega) (by omega) (by omega) (by omega), eo 5 (by omega) (by omega) (by omega) (by omega), eo 6 (by omega) (by omega) (by omega) (by omega), eo 7 (by omega) (by omega) (by omega) (by omega), eo 8 (by omega) (by omega) (by omega) (by omega), eo 12 (by omega) (by omega) (by omega) (by omega)]
            refine ⟨⟨D1, trivial, D3, D4, D5, D6, D7, D8, D9, D10, fun f hf => ?_⟩, D12⟩
            rw [r98, r98, r98]
            by_cases e : f = F
            · rw [e] at hf ⊢
              rw [← hF, s9, s10, s11, hF]
              rw [if_neg (by omega), if_neg (by omega), if_pos rfl, if_neg (by omega), if_pos rfl, if_pos rfl, v2 z2, v4 z3, v7 z4]
              exact ⟨rfl, rfl, rfl⟩
            · rw [if_neg (by omega), if_neg (by omega), if_neg (by omega), if_neg (by omega), if_neg (by omega), if_neg (by omega), if_neg (by omega), if_neg (by omega), if_neg (by omega), zSfr_o (by omega) (fun _ => by omega), zSfr_o (by omega) (fun _ => by omega), zSfr_o (by omega) (fun _ => by omega)]
              exact D11 f (by omega)
          · simp only [List.mem_cons, List.mem_nil_iff, or_false, not_or] at hc
            rw [o11 c (by omega), c8 c (by simp; omega)]
        · rw [if_neg c6, zit_t rfl]
          rw [zstp_f c6]
          exact ⟨M9, rfl, ⟨t9, fun z => absurd z c6⟩, zMx_tr x8 (zMx_p o9)⟩
      by_cases c5 : p5.1 = 0
      · obtain ⟨a1, a2, a3, a4, a5⟩ := hz5 c5
        have c3 : p3.1 = 0 := zstp_g (by rw [hp4]; exact a1)
        obtain ⟨b1, b2, b3, b4, b5⟩ := hz3 c3
        have g1 : M8 98 (3 * F + 2) = nI (tkv B n p4.2) := by rw [r98, if_pos rfl, v7 c5]
        have g2 : M8 98 (3 * F + 1) = nI (tkv B n p2.2) := by rw [r98, if_neg (by omega), if_pos rfl, v4 c3]
        rw [if_pos c5, zit_f (by decide), zck_t, zck_t, g1, g2]
        by_cases ce : tkv B n p2.2 = tkv B n p4.2
        · obtain ⟨M9, e9, t9, k9, o9⟩ := wr_m t8 (w := 4) (by omega) (by omega)
          rw [zrfs_0 c5] at t9
          rw [if_pos ⟨c5, ce⟩] at hp6
          rw [hp6] at t9
          rw [zit_t (by rw [ce]), show F_X12_wrong 79 4 M8 = zV M9 from e9, zbV_V]
          exact last M9 t9 (zMp_w k9 o9)
        · rw [if_neg (fun z => ce z.2)] at hp6
          rw [hp6] at t8
          rw [zit_f (fun z => ce ((nI_eq (by omega) (by omega)).mp z.symm))]
          exact last M8 t8 zMp_rfl
      · rw [if_neg (fun z => c5 z.1)] at hp6
        rw [hp6] at t8
        rw [if_neg c5, zit_t rfl]
        exact last M8 t8 zMp_rfl
    rw [gd_m t5, zbI_I, zjo_eq]
    by_cases c3 : p3.1 = 0
    · have t5' : zTmx B n (0, p3.2) M5 := by rw [← c3]; exact t5
      obtain ⟨M6, e6, t6, o6⟩ := goz_m ht t5'
      rw [if_pos c3, zit_f (by decide), e6, zbV_V]
      exact sec M6 (by rw [zstp_0 c3]; exact t6) (zMp_o o6)
    · rw [if_neg c3, zit_t rfl]
      exact sec M5 (by rw [zstp_f c3]; exact t5) zMp_rfl
theorem nd_m (ht : zTxt B n) {r : (Nat × Nat) × zDr} {M : zM} (h : zMss B n r M) : ∃ M', zbI (F_X12_isSign 79 59 M) (fun r4 M17 => zbV (F_X12_need 79 r4 M17) (fun M18 => zV M18)) = zV M' ∧ (zMss B n (ztsg B n 59 r.1, r.2) M' ∧ zMx M M') := by
  obtain ⟨h1, h2⟩ := h
  rw [show F_X12_isSign 79 59 M = _ from isg_m ht h1 (c := 59) (by decide), zbI_I]
  unfold F_X12_need ztsg
  rw [gd_m h1, zbI_I]
  by_cases c : r.1.1 = 0
  · rw [if_pos c, zit_f (by decide), zjo_eq, zkn_0 c]
    by_cases c59 : tkk B n r.1.2 = 59
    · have h1' : zTmx B n (0, r.1.2) M := by rw [← c]; exact h1
      obtain ⟨M1, e1, t1, o1⟩ := goz_m ht h1'
      rw [if_pos c59, if_pos c59, zit_f (by decide), e1, zbV_V, zbV_V, zstp_0 c]
      exact ⟨M1, rfl, ⟨t1, fun _ => zDmm_p (h2 c) (zMp_o o1)⟩, zMx_p (zMp_o o1)⟩
    · obtain ⟨M1, e1, t1, k1, o1⟩ := wr_m h1 (w := 1) (by omega) (by omega)
      rw [if_neg c59, if_neg c59, zit_t rfl, show F_X12_wrong 79 1 M = zV M1 from e1, zbV_V, zbV_V]
      exact ⟨M1, rfl, ⟨t1, fun z => by rw [zrfs_0 c] at z; exact absurd z (by simp)⟩, zMx_p (zMp_w k1 o1)⟩
  · rw [if_neg c, zit_t rfl, zbV_V, zkn_f c, if_neg (by omega), zrfs_f c]
    exact ⟨M, rfl, ⟨h1, fun z => absurd z c⟩, zMx_rfl⟩
end ZMF
