/-! a new SEA: both alike -/
def zw0 : zWD := (fun i => i, fun _ => 0, 0)
def zqF (q : zSt) (w : Int32) : zSt := (tS q, tL q, tW q, tA q, tV q, tG q, [], w, (fun i => if i = 0 then tR q 0 + 1 else tR q i), tC q)
def zqN (q : zSt) (g : zDr) : zSt := (g.1, g.2.2, zw0, [], [], none, [], -1, tR q, tC q + 1)
theorem zw0_ok {S : zSD} (h : S 0 0 ≤ 8) : zWok S zw0 := ⟨fun i hi => hi, fun i _ j _ e => e, fun i hi => hi, fun i _ j _ => by show (0 : Int32) = -0; decide⟩
theorem zqN_ok {q : zSt} (ho : zok q) (hC : tC q < 600) {g : zDr} (hg : zDk g) : zok (zqN q g) := by
  refine ⟨hg.1, hg.2.2.2.2, ⟨zw0_ok (so_n hg.1), by show 0 ≤ 40; omega, fun b hb => absurd hb (by show b ∉ []; simp), ⟨by show 0 ≤ 8; omega, fun z hz => absurd hz (by show z ∉ []; simp)⟩⟩, fun z hz => (nomatch hz), by show 0 ≤ 700; omega, fun b hb => absurd hb (by show b ∉ []; simp), by show tC q + 1 ≤ 600; omega⟩
theorem zqF_ok {q : zSt} (ho : zok q) (w : Int32) : zok (zqF q w) := by
  obtain ⟨h1, h2, h3, h4, h5, h6, h7⟩ := ho
  exact ⟨h1, h2, h3, h4, by show 0 ≤ 700; omega, fun b hb => absurd hb (by show b ∉ []; simp), h7⟩
theorem mk_up {M : zM} {c s k : Nat} (h : zmade M c s k) (hk : k ≤ 600) : zmade M c s (k + 1) ∧ M c s ≠ nI (k + 1) := by
  rcases h with h | ⟨z, h1, h2⟩
  · refine ⟨Or.inl h, fun e => ?_⟩
    rw [h] at e
    exact nI_n1 (by omega) e.symm
  · refine ⟨Or.inr ⟨z, by omega, h2⟩, fun e => ?_⟩
    rw [h2] at e
    have := (nI_eq (by omega) (by omega)).mp e
    omega
/-- the class's half behind a refused text -/
theorem zQx_bad {q : zSt} {M M' : zM} {w : Int32} (h : zQx q M) (e : ∀ i, i < 79 → i ≠ 1 → i ≠ 23 → i ≠ 78 → i ∉ zXc → M' i = M i) (h23 : ∀ j, (M' 23 j).toInt8.toInt32 = M' 23 j) (h11 : M' 1 1 = 0) (h17 : M' 1 8 = w) (h78 : M' 78 0 = M 78 0 + 1) (h78' : ∀ i, i ≠ 0 → M' 78 i = M 78 i) : zQx (zqF q w) M' := by
  obtain ⟨a1, ⟨a2, a3, a4⟩, a5, a6, a7, a8, a9⟩ := h
  have e0 := e 0 (by decide) (by decide) (by decide) (by decide) (by decide)
  have e3 := e 3 (by decide) (by decide) (by decide) (by decide) (by decide)
  have e5 := e 5 (by decide) (by decide) (by decide) (by decide) (by decide)
  have e6 := e 6 (by decide) (by decide) (by decide) (by decide) (by decide)
  have e9 := e 9 (by decide) (by decide) (by decide) (by decide) (by decide)
  have e11 := e 11 (by decide) (by decide) (by decide) (by decide) (by decide)
  have e13 := e 13 (by decide) (by decide) (by decide) (by decide) (by decide)
  have e14 := e 14 (by decide) (by decide) (by decide) (by decide) (by decide)
  have e15 := e 15 (by decide) (by decide) (by decide) (by decide) (by decide)
  have e17 := e 17 (by decide) (by decide) (by decide) (by decide) (by decide)
  have e18 := e 18 (by decide) (by decide) (by decide) (by decide) (by decide)
  have e19 := e 19 (by decide) (by decide) (by decide) (by decide) (by decide)
  have e20 := e 20 (by decide) (by decide) (by decide) (by decide) (by decide)
  have e40 := e 40 (by decide) (by decide) (by decide) (by decide) (by decide)
  have e41 := e (40 + 1) (by decide) (by decide) (by decide) (by decide) (by decide)
  have e42 := e (40 + 2) (by decide) (by decide) (by decide) (by decide) (by decide)
  have e46 := e 46 (by decide) (by decide) (by decide) (by decide) (by decide)
  have e47 := e (46 + 1) (by decide) (by decide) (by decide) (by decide) (by decide)
  have e48 := e (46 + 2) (by decide) (by decide) (by decide) (by decide) (by decide)
  have e49 := e 49 (by decide) (by decide) (by decide) (by decide) (by decide)
  have e50 := e (49 + 1) (by decide) (by decide) (by decide) (by decide) (by decide)
  have e51 := e (49 + 2) (by decide) (by decide) (by decide) (by decide) (by decide)
  have e52 := e (49 + 3) (by decide) (by decide) (by decide) (by decide) (by decide)
  have e53 := e (49 + 4) (by decide) (by decide) (by decide) (by decide) (by decide)
  have e54 := e (49 + 5) (by decide) (by decide) (by decide) (by decide) (by decide)
  have e55 := e (49 + 6) (by decide) (by decide) (by decide) (by decide) (by decide)
  have e56 := e 56 (by decide) (by decide) (by decide) (by decide) (by decide)
  have e57 := e (56 + 1) (by decide) (by decide) (by decide) (by decide) (by decide)
  have e58 := e (56 + 2) (by decide) (by decide) (by decide) (by decide) (by decide)
  have e59 := e (56 + 3) (by decide) (by decide) (by decide) (by decide) (by decide)
  have e60 := e (56 + 4) (by decide) (by decide) (by decide) (by decide) (by decide)
  have e61 := e (56 + 5) (by decide) (by decide) (by decide) (by decide) (by decide)
  have e62 := e (56 + 6) (by decide) (by decide) (by decide) (by decide) (by decide)
  have e67 := e 67 (by decide) (by decide) (by decide) (by decide) (by decide)
  have e68 := e 68 (by decide) (by decide) (by decide) (by decide) (by decide)
  have e69 := e 69 (by decide) (by decide) (by decide) (by decide) (by decide)
  have e71 := e 71 (by decide) (by decide) (by decide) (by decide) (by decide)
  have e72 := e 72 (by decide) (by decide) (by decide) (by decide) (by decide)
  have e73 := e 73 (by decide) (by decide) (by decide) (by decide) (by decide)
  have e76 := e 76 (by decide) (by decide) (by decide) (by decide) (by decide)
  have e77 := e 77 (by decide) (by decide) (by decide) (by decide) (by decide)
  refine ⟨zqF_ok a1 w, ⟨?_, ?_, ?_⟩, ?_, ⟨h11, fun i hi => absurd hi (Nat.not_lt_zero _)⟩, h17, fun i hi => ?_, ?_⟩
  · obtain ⟨b1, b2, b3, b4, b5, b6, b7, b8⟩ := a2
    unfold zSx
    rw [e3, e5, e6, e13, e14, e15, e17, e18, e19, e20]
    exact ⟨b1, b2, b3, b4, b5, b6, b7, h23⟩
  · show zLx (tL q) M'
    unfold zLx at a3 ⊢
    rw [e9, e11]
    exact a3
  · show zHx (tS q) 40 49 M' (tW q) (tA q) (tV q)
    unfold zHx zWx at a4 ⊢
    rw [e40, e41, e42, e49, e50, e51, e52, e53, e54, e55]
    exact a4
  · show (match tG q with
      | none => M' 0 14 = 0
      | some z => M' 0 14 = 1 ∧ zHx (tS q) 46 56 M' z.1 z.2.1 z.2.2)
    unfold zHx zWx at a5 ⊢
    rw [e0, e46, e47, e48, e56, e57, e58, e59, e60, e61, e62]
    exact a5
  · show M' 78 i = (if i = 0 then tR q 0 + 1 else tR q i)
    by_cases c : i = 0
    · rw [if_pos c, c, h78, a8 0 (by omega)]
    · rw [if_neg c, h78' i c, a8 i hi]
  · unfold zmade at a9 ⊢
    rw [e0, e67, e68, e69, e71, e72, e73, e76, e77]
    exact a9
theorem op_sea (q : zSt) (ho : zok q) (hC : tC q < 600) (a : Int32) : zOp 1 (F_X11_sea 0 a) (F_X12_sea 79 a) zIAE zNSE q := by
  have hY : ∀ M, F_X12_sea 79 a M = F_X12_sea 79 a (zup M 79 0 0) := fun M => by unfold F_X12_sea; rw [zup_idem]
  have hl := ho.2.2.2.2.1
  have hb := ho.2.2.2.2.2.1
  rcases zca (m := (tT q).length) (by omega) a with ⟨n, hn, rfl⟩ | ha
  · obtain ⟨B, hB⟩ : ∃ B : Nat → Nat, (fun p => if p < n then (tT q).getD p 0 else 0) = B := ⟨_, rfl⟩
    have hBp : ∀ p, p < n → B p = (tT q).getD p 0 := fun p hp => by
      rw [← hB]
      exact if_pos hp
    have ht : zTxt B n := by
      refine ⟨by omega, fun p => ?_, fun p hp => ?_⟩
      · by_cases c : p < n
        · rw [hBp p c]
          exact hb _ (getD_in 0 (tT q) p (by omega))
        · rw [← hB]
          show (if p < n then (tT q).getD p 0 else 0) < 256
          rw [if_neg c]
          omega
      · rw [← hB]
        exact if_neg (by omega)
    obtain ⟨s, hs⟩ : ∃ s, zlns B n 700 ((0, 0), zdr0) = s := ⟨_, rfl⟩
    have hk : s.1.1 = 0 → zDk s.2 := by
      rw [← hs]
      exact zlns_k ht 700 _ (fun _ => zDk_0)
    have na : ¬ nI n < (0 : Int32) := (nI_nlt (Nat.zero_le _) (by omega) : ¬ nI n < nI 0)
    -- the class's text
    have hx : ∀ M, zQx q M → ∃ M1, F_X11_sea 0 (nI n) M = zst (zup M1 1 1 0) (fun M2 => zit (nI s.1.1 = 0) (zbV (F_X6_copy 3 21 M2) (fun M3 => zbV (F_X10_begin 40 M3) (fun M4 => zbV (F_X3_clear 49 M4) (fun M5 => zck (zbo 0) (zst (zup M5 0 14 0) (fun M6 => zst (zup M6 0 15 ((M6 0 15) + 1)) (fun M7 => zI 0 M7))))))) (zck (zin 0 3) (zck (zin 0 3) (zst (zup M2 78 (zix 0) ((M2 78 (zix 0)) + 1)) (fun M8 => zI (nI s.1.1) M8))))) ∧ (zXss B n s M1 ∧ (∀ k, k < 2 → M1 1 k = M 1 k) ∧ zoff [1, 21, 23, 24, 27, 29, 31, 32, 33, 34, 35, 36, 37, 38] M M1) := fun M h => by
      obtain ⟨c1, c2⟩ := h.2.2.2.1
      obtain ⟨M1, e1, x1, k1, o1⟩ := rdr_x ht (M := M) (fun k hk => by rw [c2 k (by omega), hBp k hk]) (qx_S h).2.2.2.2.2.2.2
      rw [hs] at e1 x1
      refine ⟨M1, ?_, x1, k1, o1⟩
      unfold F_X11_sea
      rw [zjo_eq, zit_f na, gr_0_0, c1, zit_t (nI_le hn (by omega)), gr_0_3, e1, zbI_I, gr_0_1, gr_0_2, gr_0_4, gr_0_7, gr_0_13]
    have hy : ∀ M, zQm q M → M 79 0 = 0 → ∃ M1, F_X12_sea 79 (nI n) M = zbI (F_X12_isGood 79 M1) (fun r3 M23 => zit (r3 = 0) (zck (zin 0 3) (zck (zin 0 3) (zst (zup M23 (zgr 79 18) (zix 0) ((M23 (zgr 79 18) (zix 0)) + 1)) (fun M43 => zI (M43 79 16) M43)))) (zst (zup M23 79 1 (M23 79 27)) (fun M24 => zst (zup M24 79 2 (M24 79 28)) (fun M25 => zst (zup M25 79 3 (M25 79 29)) (fun M26 => zst (zup M26 79 4 (M26 79 30)) (fun M27 => zbV (F_X12_copies 79 (zgr 79 36) (zgr 79 5) M27) (fun M28 => zbV (F_X12_copies 79 (zgr 79 37) (zgr 79 6) M28) (fun M29 => zbV (F_X12_copies 79 (zgr 79 38) (zgr 79 7) M29) (fun M30 => zbV (F_X12_copies 79 (zgr 79 39) (zgr 79 8) M30) (fun M31 => zbV (F_X12_copies 79 (zgr 79 40) (zgr 79 9) M31) (fun M32 => zbV (F_X12_copies 79 (zgr 79 41) (zgr 79 10) M32) (fun M33 => zbV (F_X12_copies 79 (zgr 79 42) (zgr 79 11) M33) (fun M34 => zbV (F_X12_copies 79 (zgr 79 43) (zgr 79 12) M34) (fun M35 => zbV (F_X12_copies 79 (zgr 79 44) (zgr 79 13) M35) (fun M36 => F_X12_sea_L302 79 (fun (M39 : zM) => zst (zup M39 79 50 0) (fun M40 => zst (zup M40 79 64 0) (fun M41 => zck (zbo 0) (zst (zup M41 79 73 0) (fun M42 => zI 0 M42))))) zN 0 M36))))))))))))))) ∧ (zMss B n s M1 ∧ (∀ k, k < 15 ∨ k = 18 ∨ 36 ≤ k → k ≠ 1026 → M1 79 k = M 79 k) ∧ M1 79 15 = 0 ∧ zoff [79, 91, 92, 93, 94, 95, 96, 97, 98, 99, 100, 101] M M1) := fun M h h0 => by
      obtain ⟨c1, c2⟩ := h.2.2.2.1
      unfold F_X12_sea
      rw [zst_eq, zup_same h0, zjo_eq, zjo_eq, zit_f na, c1, zit_f (nI_nlt hn (by omega))]
      try dsimp only
      rw [pm_right1 h0 (by decide), zbI_I, zit_f (by decide), zst_eq, zst_eq, zst_eq, zst_eq, zst_eq, zst_eq, zst_eq, zst_eq, zst_eq, zst_eq, zst_eq, zst_eq]
      obtain ⟨N, hN⟩ : ∃ N, zup (zup (zup (zup (zup (zup (zup (zup (zup (zup (zup (zup M 79 15 0) 79 17 (-1)) 79 16 0) 79 19 (nI n)) 79 20 0) 79 27 0) 79 28 0) 79 29 3) 79 30 (-1)) 79 31 0) 79 32 0) 79 33 0 = N := ⟨_, rfl⟩
      rw [hN]
      have row : ∀ k, N 79 k = (if k = 33 then 0 else if k = 32 then 0 else if k = 31 then 0 else if k = 30 then -1 else if k = 29 then 3 else if k = 28 then 0 else if k = 27 then 0 else if k = 20 then 0 else if k = 19 then nI n else if k = 16 then 0 else if k = 17 then -1 else if k = 15 then 0 else M 79 k) := fun k => by
        rw [← hN]
        simp only [zup_row]
        rfl
      have oN : zoff [79] M N := by
        rw [← hN]
        exact zoff_up (zoff_up (zoff_up (zoff_up (zoff_up (zoff_up (zoff_up (zoff_up (zoff_up (zoff_up (zoff_up (zoff_up zoff_rfl (by decide)) (by decide)) (by decide)) (by decide)) (by decide)) (by decide)) (by decide)) (by decide)) (by decide)) (by decide)) (by decide)) (by decide)
      obtain ⟨M1, e1, x1, o1⟩ := rdr_m ht (M := N) (fun k hk => by rw [oN 89 (by decide), c2 k (by omega), hBp k hk]) (by rw [row]; rfl) (by rw [row]; rfl) (by rw [row]; rfl) (by rw [row]; rfl) (by rw [row]; rfl) (by rw [row]; rfl) (by rw [row]; rfl) (by rw [row]; rfl) (by rw [row]; rfl) (by rw [row]; rfl) (by rw [row]; rfl) (by rw [row]; rfl) (fun (M22 : zM) => zbI (F_X12_isGood 79 M22) (fun r3 M23 => zit (r3 = 0) (zck (zin 0 3) (zck (zin 0 3) (zst (zup M23 (zgr 79 18) (zix 0) ((M23 (zgr 79 18) (zix 0)) + 1)) (fun M43 => zI (M43 79 16) M43)))) (zst (zup M23 79 1 (M23 79 27)) (fun M24 => zst (zup M24 79 2 (M24 79 28)) (fun M25 => zst (zup M25 79 3 (M25 79 29)) (fun M26 => zst (zup M26 79 4 (M26 79 30)) (fun M27 => zbV (F_X12_copies 79 (zgr 79 36) (zgr 79 5) M27) (fun M28 => zbV (F_X12_copies 79 (zgr 79 37) (zgr 79 6) M28) (fun M29 => zbV (F_X12_copies 79 (zgr 79 38) (zgr 79 7) M29) (fun M30 => zbV (F_X12_copies 79 (zgr 79 39) (zgr 79 8) M30) (fun M31 => zbV (F_X12_copies 79 (zgr 79 40) (zgr 79 9) M31) (fun M32 => zbV (F_X12_copies 79 (zgr 79 41) (zgr 79 10) M32) (fun M33 => zbV (F_X12_copies 79 (zgr 79 42) (zgr 79 11) M33) (fun M34 => zbV (F_X12_copies 79 (zgr 79 43) (zgr 79 12) M34) (fun M35 => zbV (F_X12_copies 79 (zgr 79 44) (zgr 79 13) M35) (fun M36 => F_X12_sea_L302 79 (fun (M39 : zM) => zst (zup M39 79 50 0) (fun M40 => zst (zup M40 79 64 0) (fun M41 => zck (zbo 0) (zst (zup M41 79 73 0) (fun M42 => zI 0 M42))))) zN 0 M36))))))))))))))))
      rw [hs] at x1
      rw [e1]
      refine ⟨M1, rfl, x1, fun k hk hk2 => ?_, ?_, zoff_trans (zoff_mono oN (by decide)) o1.2⟩
      · rw [o1.1 k (by omega) hk2, row]
        rw [if_neg (by omega), if_neg (by omega), if_neg (by omega), if_neg (by omega), if_neg (by omega), if_neg (by omega), if_neg (by omega), if_neg (by omega), if_neg (by omega), if_neg (by omega), if_neg (by omega), if_neg (by omega)]
      · rw [o1.1 15 (by omega) (by omega), row]
        rfl
    have hs5 : s.1.1 ≤ 5 ∨ True := Or.inr trivial
    by_cases c : s.1.1 = 0
    · have hg := hk c
      refine zop_self hY ⟨zqN q s.2, 0, Nat.le_refl _, fun M h => ?_, fun M h h0 => ?_⟩
      · obtain ⟨M1, e1, x1, k1, o1⟩ := hx M h
        have hd : zDx s.2 M1 := x1.2.2 c
        rw [e1, zst_eq, zit_t (by rw [c]; rfl)]
        obtain ⟨M2, hM2⟩ : ∃ M2, zup M1 1 1 0 = M2 := ⟨_, rfl⟩
        rw [hM2]
        have o2 : zoff [1] M1 M2 := by rw [← hM2]; exact zoff_up zoff_rfl (by decide)
        have d2 := zDx_cg hd o2
        obtain ⟨D1, D2, D3, D4, D5, D6, D7, D8, D9, D10⟩ := d2
        have h8 := so_n hg.1
        have hf12 := so_f hg.1
        obtain ⟨z, z1, z2⟩ := x1.2.1.2.2.1
        have h274 : zbo (M2 27 4) = true := by
          cases hL : s.2.2.2 with
          | none =>
            rw [hL] at D5
            rw [D5.1]
            decide
          | some c =>
            rw [hL] at D5
            rw [D5.1]
            decide
        obtain ⟨M3, e3, f1, f2, f3, f4, f5, f6, f7, f8, f9, f10, f11, o3⟩ := cps_x (M := M2) (z := z) z1 (by rw [o2 27 (by decide), z2]) h274 (fun j => by rw [o2 23 (by decide)]; exact x1.2.1.2.2.2 j)
        obtain ⟨M4, e4, b1, b2, b3, o4⟩ := bgn_x (M := M3)
        rw [e3, zbV_V, e4, zbV_V]
        unfold F_X3_clear
        rw [zst_eq, zst_eq, zbV_V, zbo_0, zck_t, zst_eq, zst_eq]
        obtain ⟨M5, hM5⟩ : ∃ M5, zup (zup M4 49 0 0) 49 1 0 = M5 := ⟨_, rfl⟩
        rw [hM5]
        have o5 : zoff [49] M4 M5 := by rw [← hM5]; exact zoff_up (zoff_up zoff_rfl (by decide)) (by decide)
        have r5 : M5 49 0 = 0 ∧ M5 49 1 = 0 := by
          rw [← hM5]
          exact ⟨by rw [zup_row, upd_ne (by decide), zup_row, upd_eq], by rw [zup_row, upd_eq]⟩
        obtain ⟨a1, a2, a3, a4, a5, a6, k, kk, g15, g67, g69, g73⟩ := id h
        have b0 : M5 0 = M 0 := by rw [o5 0 (by decide), o4 0 (by decide), o3 0 (by decide), o2 0 (by decide), o1 0 (by decide)]
        have e015 : zup M5 0 14 0 0 15 = nI k := by rw [zup_row, upd_ne (by decide), b0, g15]
        rw [e015, nI_1]
        obtain ⟨M6, hM6⟩ : ∃ M6, zup (zup M5 0 14 0) 0 15 (nI (k + 1)) = M6 := ⟨_, rfl⟩
        rw [hM6]
        have o6 : zoff [0] M5 M6 := by rw [← hM6]; exact zoff_up (zoff_up zoff_rfl (by decide)) (by decide)
        have m14 : M6 0 14 = 0 ∧ M6 0 15 = nI (k + 1) := by
          rw [← hM6]
          exact ⟨by rw [zup_row, upd_ne (by decide), zup_row, upd_eq], by rw [zup_row, upd_eq]⟩
        -- from the last to the third
        have q63 : ∀ i, i ∉ [0, 40, 41, 42, 49] → M6 i = M3 i := fun i hi => by
          simp only [List.mem_cons, List.mem_nil_iff, or_false, not_or] at hi
          rw [o6 i (by simp; omega), o5 i (by simp; omega), o4 i (by simp; omega)]
        have q61 : ∀ i, i ∉ [0, 1, 3, 5, 6, 9, 11, 13, 14, 15, 16, 17, 18, 19, 20, 21, 23, 24, 27, 29, 31, 32, 33, 34, 35, 36, 37, 38, 40, 41, 42, 49] → M6 i = M i := fun i hi => by
          simp only [List.mem_cons, List.mem_nil_iff, or_false, not_or] at hi
          rw [q63 i (by simp; omega), o3 i (by simp; omega), o2 i (by simp; omega), o1 i (by simp; omega)]
        refine ⟨M6, rfl, ⟨zqN_ok ho hC hg, ⟨?_, ?_, ?_⟩, m14.1, ⟨?_, fun i hi => absurd hi (Nat.not_lt_zero _)⟩, ?_, fun i hi => ?_, k + 1, by show k + 1 ≤ tC q + 1; omega, m14.2, ?_, ?_, ?_⟩, fun i hi => ?_⟩
        · show zSx s.2.1 M6
          unfold zSx
          rw [q63 3 (by decide), q63 5 (by decide), q63 6 (by decide), q63 13 (by decide), q63 14 (by decide), q63 15 (by decide), q63 17 (by decide), q63 18 (by decide), q63 19 (by decide), q63 20 (by decide), q63 23 (by decide)]
          refine ⟨by rw [f1, D1], by rw [f2, D2], by rw [f3, D3], fun i hi => ?_, fun i hi j hj => ?_, fun i hi v hv => ?_, fun f hf => ?_, fun j => ?_⟩
          · obtain ⟨y1, y2, y3⟩ := f9 i (by omega)
            rw [f5 i (by omega), y1, y2, y3]
            exact D6 i hi
          · have h9 := so_i hg.1 i hi
            rw [f4 _ (by omega)]
            exact D7 i hi j hj
          · rw [f10 _ (by omega)]
            exact D9 _ (by omega)
          · obtain ⟨y1, y2, y3⟩ := f11 f (by omega)
            rw [y1, y2, y3]
            exact D10 f hf
          · rw [o3 23 (by decide), o2 23 (by decide)]
            exact x1.2.1.2.2.2 j
        · show zLx s.2.2.2 M6
          unfold zLx
          rw [q63 9 (by decide), q63 11 (by decide)]
          cases hL : s.2.2.2 with
          | none =>
            rw [hL] at D5
            dsimp only
            rw [f8, D5.1]
          | some cs =>
            rw [hL] at D5
            dsimp only
            obtain ⟨y1, y2, y3⟩ := D5
            have hzl : z = cs.length := by
              have hlk := hg.2.2.2.2
              rw [hL] at hlk
              have h7 : cs.length ≤ 700 := hlk.1
              exact (nI_eq (by omega) (by omega)).mp (by rw [← z2, ← o2 27 (by decide)]; exact y2)
            refine ⟨by rw [f8, y1], by rw [f7, hzl], ?_⟩
            have cg : ∀ (l : List (Nat × Nat)) (i : Nat), i + l.length ≤ z → zxt (M2 29) i l → zxt (M3 11) i l := by
              intro l
              induction l with
              | nil => intro i _ _; trivial
              | cons x l ih =>
                intro i hi hx
                simp only [List.length_cons] at hi
                exact ⟨by rw [f6 i (by omega)]; exact hx.1, ih (i + 1) (by omega) hx.2⟩
            exact cg cs 0 (by omega) y3
        · show zHx s.2.1 40 49 M6 zw0 [] []
          refine ⟨⟨fun i hi => ?_, fun k hk => ?_, ?_⟩, ?_, trivial, ?_, fun i hi => absurd hi (Nat.not_lt_zero _)⟩
          · rw [o6 (40 + 1) (by decide), o5 (40 + 1) (by decide)]
            exact b1 i hi
          · rw [o6 (40 + 2) (by decide), o5 (40 + 2) (by decide)]
            exact b2 k hk
          · rw [o6 40 (by decide), o5 40 (by decide)]
            exact b3
          · rw [o6 49 (by decide), r5.1]
            rfl
          · rw [o6 49 (by decide), r5.2]
            rfl
        · rw [q63 1 (by decide), o3 1 (by decide), ← hM2, zup_row, upd_eq]
          rfl
        · rw [q63 1 (by decide), o3 1 (by decide), ← hM2, zup_row, upd_ne (by decide), x1.1.2.2.2.1, if_pos c]
          rfl
        · rw [q61 78 (by decide)]
          exact a6 i hi
        · have := mk_up g67.1 (by omega)
          unfold zmade at this ⊢
          rw [q61 67 (by decide)]
          exact ⟨this.1, fun z => absurd z this.2⟩
        · have := mk_up g69.1 (by omega)
          unfold zmade at this ⊢
          rw [q61 69 (by decide)]
          exact ⟨this.1, fun z => absurd z this.2⟩
        · have := mk_up g73.1 (by omega)
          unfold zmade at this ⊢
          rw [q61 73 (by decide)]
          exact ⟨this.1, fun z => absurd z this.2⟩
        · exact q61 i (by simp; omega)
      · obtain ⟨M1, e1, x1, k1, k15, o1⟩ := hy M h h0
        have hd : zDmm s.2 M1 := x1.2 c
        rw [e1, gd_m x1.1, zbI_I, if_pos c, zit_f (by decide)]
        obtain ⟨M2, e2, f1, f2, f3, f4, f50, f64, f73, f5, f6, f7, f8, f9, f10, fk, o2⟩ := cpm_m (M := M1)
        rw [e2]
        obtain ⟨⟨D1, D2, D3, D4, D5, D6, D7, D8, D9, D10, D11⟩, D12⟩ := hd
        have h8 := so_n hg.1
        have hf12 := so_f hg.1
        obtain ⟨a1, a2, a3, a4, a5, a6, k, kk, g60, g109⟩ := id h
        have q2 : ∀ i, i ∉ [79, 80, 81, 82, 83, 84, 85, 86, 87, 88, 91, 92, 93, 94, 95, 96, 97, 98, 99, 100, 101, 102] → M2 i = M i := fun i hi => by
          simp only [List.mem_cons, List.mem_nil_iff, or_false, not_or] at hi
          rw [o2 i (by simp; omega), o1 i (by simp; omega)]
        refine ⟨M2, rfl, by rw [fk 0 (by decide), k1 0 (by omega) (by omega), h0], ⟨zqN_ok ho hC hg, ⟨?_, ?_, ?_⟩, f73, ⟨?_, fun i hi => absurd hi (Nat.not_lt_zero _)⟩, ?_, fun i hi => ?_, k, by show k ≤ tC q + 1; omega, ?_, ?_⟩, fun i hi => q2 i (by simp; omega)⟩
        · show zSm s.2.1 M2
          unfold zSm
          refine ⟨by rw [f1, D1], by rw [f2, D2], by rw [f3, D3], fun i hi => ?_, fun i hi j hj => ?_, fun i hi => ?_, fun f hf => ?_⟩
          · obtain ⟨y1, y2, y3, y4, y5⟩ := f6 i (by omega)
            rw [y1, y2, y3, y4]
            exact D6 i hi
          · have h9 := so_i hg.1 i hi
            rw [f5 _ (by omega)]
            exact D7 i hi j hj
          · have u1 := hg.2.1 i (by omega)
            have u2 := zcu_le (fun v => !decide (s.2.1 8 (8 * i + v) = 0)) 8
            refine ⟨s.2.1 12 i, by omega, by rw [(f6 i (by omega)).2.2.2.2]; exact D8 i (by omega), fun k hk => ?_, fun v hv hne => ?_⟩
            · obtain ⟨v, v1, v2, v3⟩ := D9 i (by omega) k hk
              refine ⟨v, (hg.2.2.1 i (by omega) v v1 (by omega)).2, ?_, v3⟩
              rw [f7 _ (by omega)]
              exact v2
            · have u3 := hg.2.2.2.1 i (by omega) v (by omega)
              refine ⟨u3, ?_⟩
              rw [f7 _ (by omega)]
              exact D10 i (by omega) v (by omega) hne
          · rw [f8 _ (by omega), f8 _ (by omega), f8 _ (by omega)]
            exact D11 f hf
        · show zLm s.2.2.2 M2
          unfold zLm
          cases hL : s.2.2.2 with
          | none =>
            rw [hL] at D4
            dsimp only
            rw [f4, D4.1]
          | some cs =>
            rw [hL] at D4
            dsimp only
            obtain ⟨y1, y2, y3⟩ := D4
            refine ⟨0, by rw [f4, y1], by rw [zcl_enc]; omega, ?_⟩
            have := zat_enc (row := M2 88) cs [] (fun j hj => by
              rw [List.nil_append, List.length_append, List.length_singleton] at hj
              rw [f9 j (by omega), List.nil_append]
              exact y2 j (by rw [List.length_append, List.length_singleton]; exact hj))
            exact this
        · show zHm (M2 102) (M2 104) (M2 116) (M2 79 50) (M2 79 64) zw0 [] []
          refine ⟨⟨fun i hi => ?_, fun k hk => ?_, ?_⟩, by rw [f50]; rfl, trivial, by rw [f64]; rfl, fun i hi => absurd hi (Nat.not_lt_zero _)⟩
          · rw [f10 _ (by omega), show 0 + i = i from by omega, if_pos hi]
            rfl
          · rw [f10 _ (by omega), if_neg (by omega)]
            rfl
          · rw [f10 _ (by omega), if_neg (by omega)]
            rfl
        · rw [fk 15 (by decide), k15]
          rfl
        · rw [fk 17 (by decide), x1.1.2.2.2.1, if_pos c]
          rfl
        · rw [q2 90 (by decide)]
          exact a6 i hi
        · rw [fk 60 (by decide), k1 60 (by omega) (by omega), g60]
        · rw [q2 109 (by decide)]
          exact g109
    · refine zop_self hY ⟨zqF q (nI (tkst B n s.1.2)), nI s.1.1, by show tC q ≤ tC q + 1; omega, fun M h => ?_, fun M h h0 => ?_⟩
      · obtain ⟨M1, e1, x1, k1, o1⟩ := hx M h
        have h5 := x1.1.2.2.1
        have hne : ¬ nI s.1.1 = (0 : Int32) := fun z => c ((nI_eq (b := 0) (by omega) (by omega)).mp z)
        rw [e1, zst_eq, zit_f hne, show zin 0 3 = true from by decide, zck_t, zck_t, zst_eq, show zix 0 = 0 from by decide]
        refine ⟨_, rfl, zQx_bad h (fun i hi h1 h23 h78 hX => ?_) (fun j => ?_) ?_ ?_ ?_ (fun i hi => ?_), fun i hi => ?_⟩
        · rw [zup_ne h78, zup_ne h1]
          refine o1 i (fun z => ?_)
          simp only [List.mem_cons, List.mem_nil_iff, or_false] at z
          apply hX
          unfold zXc
          simp only [List.mem_cons, List.mem_nil_iff, or_false]
          omega
        · rw [zup_ne (by decide), zup_ne (by decide)]
          exact x1.2.1.2.2.2 j
        · rw [zup_ne (by decide), zup_row, upd_eq]
        · rw [zup_ne (by decide), zup_row, upd_ne (by decide), x1.1.2.2.2.1, if_neg c]
        · rw [zup_row, upd_eq, zup_ne (by decide), o1 78 (by decide)]
        · rw [zup_row, upd_ne hi, zup_ne (by decide), o1 78 (by decide)]
        · rw [zup_ne (by omega), zup_ne (by omega)]
          exact o1 i (by simp; omega)
      · obtain ⟨M1, e1, x1, k1, k15, o1⟩ := hy M h h0
        rw [e1, gd_m x1.1, zbI_I, if_neg c, zit_t rfl, show zin 0 3 = true from by decide, zck_t, zck_t, zst_eq, gr_79_18, show zix 0 = 0 from by decide]
        have f16 : zup M1 90 0 (M1 90 0 + 1) 79 16 = nI s.1.1 := by rw [zup_ne (by decide), x1.1.2.1]
        rw [f16]
        obtain ⟨M2, hM2⟩ : ∃ M2, zup M1 90 0 (M1 90 0 + 1) = M2 := ⟨_, rfl⟩
        rw [hM2]
        have o2 : zoff [90] M1 M2 := by rw [← hM2]; exact zoff_up zoff_rfl (by decide)
        obtain ⟨a1, ⟨a2, a3, a4⟩, a5, a6, a7, a8, a9⟩ := h
        have q2 : ∀ i, i ∉ [79, 90, 91, 92, 93, 94, 95, 96, 97, 98, 99, 100, 101] → M2 i = M i := fun i hi => by
          simp only [List.mem_cons, List.mem_nil_iff, or_false, not_or] at hi
          rw [o2 i (by simp; omega), o1 i (by simp; omega)]
        have kq : ∀ k, k < 15 ∨ k = 18 ∨ 36 ≤ k → k ≠ 1026 → M2 79 k = M 79 k := fun k hk hk2 => by rw [o2 79 (by decide), k1 k hk hk2]
        refine ⟨M2, rfl, by rw [kq 0 (by omega) (by omega), h0], ⟨zqF_ok a1 _, ⟨?_, ?_, ?_⟩, ?_, ⟨?_, fun i hi => absurd hi (Nat.not_lt_zero _)⟩, ?_, fun i hi => ?_, ?_⟩, fun i hi => q2 i (by simp; omega)⟩
        · show zSm (tS q) M2
          unfold zSm at a2 ⊢
          rw [kq 1 (by omega) (by omega), kq 2 (by omega) (by omega), kq 3 (by omega) (by omega), q2 80 (by decide), q2 81 (by decide), q2 82 (by decide), q2 83 (by decide), q2 84 (by decide), q2 85 (by decide), q2 86 (by decide), q2 87 (by decide)]
          exact a2
        · show zLm (tL q) M2
          unfold zLm at a3 ⊢
          rw [kq 4 (by omega) (by omega), q2 88 (by decide)]
          exact a3
        · show zHm (M2 102) (M2 104) (M2 116) (M2 79 50) (M2 79 64) (tW q) (tA q) (tV q)
          rw [kq 50 (by omega) (by omega), kq 64 (by omega) (by omega), q2 102 (by decide), q2 104 (by decide), q2 116 (by decide)]
          exact a4
        · show (match tG q with
            | none => M2 79 73 = 0
            | some z => M2 79 73 = 1 ∧ zHm (M2 121) (M2 122) (M2 123) (M2 79 74) (M2 79 75) z.1 z.2.1 z.2.2)
          rw [kq 73 (by omega) (by omega), kq 74 (by omega) (by omega), kq 75 (by omega) (by omega), q2 121 (by decide), q2 122 (by decide), q2 123 (by decide)]
          exact a5
        · rw [o2 79 (by decide), k15]
          rfl
        · rw [o2 79 (by decide), x1.1.2.2.2.1, if_neg c]
          rfl
        · show M2 90 i = (if i = 0 then tR q 0 + 1 else tR q i)
          rw [← hM2, zup_row]
          by_cases ci : i = 0
          · rw [if_pos ci, ci, upd_eq, o1 90 (by decide), a8 0 (by omega)]
          · rw [if_neg ci, upd_ne ci, o1 90 (by decide), a8 i hi]
        · rw [kq 60 (by omega) (by omega), q2 109 (by decide)]
          exact a9
  · refine zop_rf hY 1 (Or.inl rfl) (by omega) (fun M h => ?_) (fun M h h0 => ⟨0, ?_⟩)
    · have c1 := h.2.2.2.1.1
      unfold F_X11_sea
      rw [zjo_eq]
      by_cases c : a < 0
      · rw [zit_t c]
        rfl
      · rw [zit_f c, gr_0_0, c1, zit_f (fun z => ?_)]
        · rfl
        · exact Int32.lt_irrefl (Int32.lt_of_lt_of_le (ha.resolve_left c) z)
    · have c1 := h.2.2.2.1.1
      unfold F_X12_sea
      rw [zst_eq, zup_same h0, zjo_eq, zjo_eq]
      by_cases c : a < 0
      · rw [zit_t c]
        try dsimp only
        rw [pm_right0 h0 (by decide), zbI_I, zit_t rfl]
        rfl
      · rw [zit_f c, c1, zit_t (ha.resolve_left c)]
        try dsimp only
        rw [pm_right0 h0 (by decide), zbI_I, zit_t rfl]
        rfl
