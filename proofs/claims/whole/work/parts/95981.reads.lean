/-! a line by the reference; all lines by both -/
section ZRD
variable {B : Nat → Nat} {n : Nat}
theorem ztsg_f {c : Nat} (hc : c < 256) {p : Nat × Nat} (h : p.1 ≠ 0) : ztsg B n c p = p := by
  unfold ztsg
  rw [zkn_f h, if_neg (by omega), zrfs_f h]
theorem lin_m (ht : zTxt B n) {s : (Nat × Nat) × zDr} {M : zM} (h : zMss B n s M) (hp : s.1.1 = 0) (hk : tkk B n s.1.2 ≠ 256) (hg : zDk s.2) : ∃ M', F_X12_line 79 M = zV M' ∧ (zMss B n (zline B n s) M' ∧ zMx M M') := by
  obtain ⟨⟨f0, i⟩, g⟩ := s
  dsimp only at hp hk hg
  subst hp
  obtain ⟨h1, h2⟩ := id h
  have hd : zDmm g M := h2 rfl
  have hlt := (tk_lt hk).1
  have hn := ht.1
  have h17 := tkw_le (B := B) (n := n) i
  have kw : ∀ c, c < 17 → ((if tkw B n i < 17 then nI (tkw B n i) else -1) = nI c) = (tkw B n i = c) := fun c hc => kwI h17 hc
  have fin : ∀ (r : (Nat × Nat) × zDr) (M1 : zM), zMss B n r M1 → zMx M M1 → ∃ M', zbI (F_X12_isSign 79 59 M1) (fun r4 M17 => zbV (F_X12_need 79 r4 M17) (fun M18 => zV M18)) = zV M' ∧ (zMss B n (ztsg B n 59 r.1, r.2) M' ∧ zMx M M') := fun r M1 x1 o1 => by
    obtain ⟨M2, e2, x2, o2⟩ := nd_m ht x1
    exact ⟨M2, e2, x2, zMx_tr o1 o2⟩
  unfold F_X12_line zline
  dsimp only
  rw [kw_m ht h1, zbI_I, zjo_eq]
  dsimp only
  by_cases c7 : tkw B n i = 7
  · obtain ⟨M1, e1, x1, o1⟩ := nmn_m ht h rfl hg
    rw [zit_t (show (if tkw B n i < 17 then nI (tkw B n i) else -1) = (7 : Int32) from (kw 7 (by omega)).mpr c7), if_pos c7, e1, zbV_V]
    exact fin _ M1 x1 o1
  rw [zit_f (show ¬ (if tkw B n i < 17 then nI (tkw B n i) else -1) = (7 : Int32) from fun z => c7 ((kw 7 (by omega)).mp z)), if_neg c7]
  by_cases c10 : tkw B n i = 10
  · obtain ⟨M1, e1, x1, o1⟩ := wsh_m ht h rfl hg
    rw [zit_t (show (if tkw B n i < 17 then nI (tkw B n i) else -1) = (10 : Int32) from (kw 10 (by omega)).mpr c10), if_pos c10, e1, zbV_V]
    exact fin _ M1 x1 o1
  rw [zit_f (show ¬ (if tkw B n i < 17 then nI (tkw B n i) else -1) = (10 : Int32) from fun z => c10 ((kw 10 (by omega)).mp z)), if_neg c10]
  by_cases c11 : tkw B n i = 11
  · obtain ⟨M1, e1, x1, o1⟩ := frr_m ht h rfl hg
    rw [zit_t (show (if tkw B n i < 17 then nI (tkw B n i) else -1) = (11 : Int32) from (kw 11 (by omega)).mpr c11), if_pos c11, e1, zbV_V]
    exact fin _ M1 x1 o1
  rw [zit_f (show ¬ (if tkw B n i < 17 then nI (tkw B n i) else -1) = (11 : Int32) from fun z => c11 ((kw 11 (by omega)).mp z)), if_neg c11, zjo_eq]
  obtain ⟨tb1, tb2, tb3, tb4⟩ := zt31_t g.2.1 g.2.2.isSome
  have h31 : M 79 31 = nI (zt31 g.2.1 g.2.2.isSome) := hd.1.2.2.2.2.1
  have ep : zstp (0, i) = (0, i + 1) := zstp_0 rfl
  -- told already
  have twice : ∀ X : zM → zO, ∃ M', zbV (F_X12_wrong 79 5 M) (fun M4 => zbI (F_X12_isGood 79 M4) (fun r2 M6 => zit (r2 = 0) (zV M6) (X M6))) = zV M' ∧ (zMss B n (ztsg B n 59 (zrfs 5 (0, i)), g) M' ∧ zMx M M') := fun X => by
    obtain ⟨M1, e1, t1, k1, o1⟩ := wr_m h1 (w := 5) (by omega) (by omega)
    have hf : (zrfs 5 (0, i)).1 ≠ 0 := by
      rw [zrfs_0 rfl]
      simp
    rw [show F_X12_wrong 79 5 M = zV M1 from e1, zbV_V, gd_m t1, zbI_I, if_neg hf, zit_t rfl, ztsg_f (by omega) hf]
    exact ⟨M1, rfl, ⟨t1, fun z => absurd z hf⟩, zMx_p (zMp_w k1 o1)⟩
  by_cases c12 : tkw B n i = 12
  · rw [zit_t (show (if tkw B n i < 17 then nI (tkw B n i) else -1) = (12 : Int32) from (kw 12 (by omega)).mpr c12), if_pos c12]
    try dsimp only
    rw [c12, if_pos (by omega), zjo_eq, h31]
    unfold zspd
    by_cases cb : g.2.1 = true
    · rw [zit_t (tb1.mpr cb), if_pos cb]
      exact twice _
    · rw [zit_f (fun z => cb (tb1.mp z)), if_neg cb]
      try dsimp only
      rw [gd_m h1, zbI_I, if_pos rfl, zit_f (by decide), zst_eq, h31, tb3, ep]
      obtain ⟨M1, hM1⟩ : ∃ M1, zup M 79 31 (nI (zt31 true g.2.2.isSome)) = M1 := ⟨_, rfl⟩
      rw [hM1]
      have k1 : ∀ k, k ≠ 31 → M1 79 k = M 79 k := fun k hk => by rw [← hM1, zup_row, upd_ne hk]
      have o1 : ∀ c, c ≠ 79 → M1 c = M c := fun c hc => by rw [← hM1, zup_ne hc]
      have t1 : zTmx B n (0, i) M1 := zTmx_cg h1 (fun k hk => k1 k (by omega)) (o1 89 (by decide))
      obtain ⟨M2, e2, t2, o2⟩ := goz_m ht t1
      obtain ⟨r3, M3, e3, v3, t3, o3⟩ := nu_m ht t2 (lo := 1) (hi := 9) (by omega) (by omega)
      have oo := zMp_tr (zMp_o o2) o3
      rw [e2, zbV_V, zit_t (by decide), show F_X12_number 79 1 9 M2 = zI r3 M3 from e3, zbI_I, zst_eq]
      obtain ⟨M4, hM4⟩ : ∃ M4, zup M3 79 29 r3 = M4 := ⟨_, rfl⟩
      rw [hM4]
      have k4 : ∀ k, k < 16 ∨ k = 18 ∨ k = 19 ∨ 26 < k → k ≠ 29 → k ≠ 31 → k ≠ 1026 → M4 79 k = M 79 k := fun k hk h29 h31 h1026 => by rw [← hM4, zup_row, upd_ne h29, oo.1 k hk h1026, k1 k h31]
      have o4 : ∀ c, c ≠ 79 → M4 c = M c := fun c hc => by rw [← hM4, zup_ne hc, oo.2 c (by simp; omega), o1 c hc]
      have k31 : M4 79 31 = nI (zt31 true g.2.2.isSome) := by rw [← hM4, zup_row, upd_ne (by decide), oo.1 31 (by omega) (by omega), ← hM1, zup_row, upd_eq]
      have k29 : M4 79 29 = r3 := by rw [← hM4, zup_row, upd_eq]
      refine fin (zstp (zsn B n 1 9 (0, i + 1)), zSsp g.1 (tkv B n (i + 1)), true, g.2.2) M4 ⟨?_, fun z => ?_⟩ ⟨fun k hk h1026 => k4 k (by omega) (by omega) (by omega) h1026, fun c hc => ?_⟩
      · exact zTmx_cg t3 (fun k hk => by rw [← hM4, zup_row, upd_ne (by omega)]) (by rw [← hM4, zup_ne (by decide)])
      · have z1 := zsn_g z
        obtain ⟨⟨D1, D2, D3, D4, D5, D6, D7, D8, D9, D10, D11⟩, D12⟩ := hd
        have eo : ∀ r, r ≠ 2 → ∀ k, zSsp g.1 (tkv B n (i + 1)) r k = g.1 r k := fun r r1 k => by
          unfold zSsp
          rw [if_neg (by omega)]
        have e2' : zSsp g.1 (tkv B n (i + 1)) 2 0 = tkv B n (i + 1) := by
          unfold zSsp
          rw [if_pos ⟨rfl, rfl⟩]
        unfold zDmm zDmn zTw
        dsimp only
        rw [e2', k31, k29, k4 27 (by omega) (by omega) (by omega) (by omega), k4 28 (by omega) (by omega) (by omega) (by omega), k4 30 (by omega) (by omega) (by omega) (by omega), k4 32 (by omega) (by omega) (by omega) (by omega), k4 33 (by omega) (by omega) (by omega) (by omega), o4 91 (by decide), o4 92 (by decide), o4 93 (by decide), o4 94 (by decide), o4 95 (by decide), o4 96 (by decide), o4 97 (by decide), o4 98 (by decide), o4 99 (by decide)]
        simp only [eo 0 (by omega), eo 1 (by omega), eo 3 (by omega), eo 4 (by omega), eo 5 (by omega), eo 6 (by omega), eo 7 (by omega), eo 8 (by omega), eo 9 (by omega), eo 10 (by omega), eo 11 (by omega), eo 12 (by omega)]
        exact ⟨⟨D1, D2, v3 z1, D4, trivial, D6, D7, D8, D9, D10, D11⟩, D12⟩
      · simp only [List.mem_cons, List.mem_nil_iff, or_false, not_or] at hc
        exact o4 c (by omega)
  rw [zit_f (show ¬ (if tkw B n i < 17 then nI (tkw B n i) else -1) = (12 : Int32) from fun z => c12 ((kw 12 (by omega)).mp z)), if_neg c12]
  by_cases c13 : tkw B n i = 13
  · rw [zit_t (show (if tkw B n i < 17 then nI (tkw B n i) else -1) = (13 : Int32) from (kw 13 (by omega)).mpr c13), if_pos c13]
    try dsimp only
    rw [c13, if_pos (by omega), zjo_eq, h31]
    unfold zlaw'
    cases hL : g.2.2 with
    | some c =>
      rw [hL] at tb2
      rw [zit_t (tb2.mpr rfl)]
      exact twice _
    | none =>
      rw [hL] at tb2 tb4
      have D4 := hd.1.2.2.2.1
      rw [hL] at D4
      rw [hL] at h31
      rw [zit_f (fun z => by have := tb2.mp z; cases this)]
      try dsimp only
      rw [gd_m h1, zbI_I, if_pos rfl, zit_f (by decide), zst_eq, h31, tb4, ep]
      obtain ⟨M1, hM1⟩ : ∃ M1, zup M 79 31 (nI (zt31 g.2.1 true)) = M1 := ⟨_, rfl⟩
      rw [hM1]
      have k1 : ∀ k, k ≠ 31 → M1 79 k = M 79 k := fun k hk => by rw [← hM1, zup_row, upd_ne hk]
      have o1 : ∀ c, c ≠ 79 → M1 c = M c := fun c hc => by rw [← hM1, zup_ne hc]
      have t1 : zTmx B n (0, i) M1 := zTmx_cg h1 (fun k hk => k1 k (by omega)) (o1 89 (by decide))
      obtain ⟨M2, e2, t2, o2⟩ := goz_m ht t1
      have p2 := zMp_o o2
      have e33 : M2 79 33 = nI 0 := by rw [p2.1 33 (by omega) (by omega), k1 33 (by decide)]; exact D4.2
      rw [e2, zbV_V, zit_f (by decide), zst_eq, e33]
      obtain ⟨M3, hM3⟩ : ∃ M3, zup M2 79 30 (nI 0) = M3 := ⟨_, rfl⟩
      rw [hM3]
      have k3 : ∀ k, k ≠ 30 → M3 79 k = M2 79 k := fun k hk => by rw [← hM3, zup_row, upd_ne hk]
      have t3 : zTmx B n (0, i + 1) M3 := zTmx_cg t2 (fun k hk => k3 k (by omega)) (by rw [← hM3, zup_ne (by decide)])
      obtain ⟨M4, e4, t4, r4, o4⟩ := ex_m ht (i := i + 1) (by omega) (by omega) t3 (by rw [k3 33 (by decide), e33])
      rw [e4, zbV_V]
      have c4 : ∀ c, c ∉ [79, 99, 100, 101] → M4 c = M c := fun c hc => by
        rw [o4.2 c hc, ← hM3]
        simp only [List.mem_cons, List.mem_nil_iff, or_false, not_or] at hc
        rw [zup_ne (by omega), p2.2 c (by simp; omega), o1 c (by omega)]
      have q4 : ∀ k, k < 16 ∨ k = 18 ∨ k = 19 ∨ (27 ≤ k ∧ k ≤ 32) ∨ 36 ≤ k → k ≠ 30 → k ≠ 31 → k ≠ 1026 → M4 79 k = M 79 k := fun k hk h30 h31 h1026 => by rw [o4.1 k hk h1026, k3 k h30, p2.1 k (by omega) h1026, k1 k h31]
      refine fin ((zex B n 6 ((0, i + 1), [])).1, g.1, g.2.1, some (zex B n 6 ((0, i + 1), [])).2) M4 ⟨t4, fun z => ?_⟩ ⟨fun k hk h1026 => q4 k (by omega) (by omega) (by omega) h1026, fun c hc => c4 c (by
        simp only [List.mem_cons, List.mem_nil_iff, or_false, not_or] at hc ⊢
        omega)⟩
      obtain ⟨⟨D1, D2, D3, -, D5, D6, D7, D8, D9, D10, D11⟩, D12⟩ := hd
      obtain ⟨y1, y2⟩ := r4 z
      unfold zDmm zDmn zTw
      dsimp only
      rw [q4 27 (by omega) (by omega) (by omega) (by omega), q4 28 (by omega) (by omega) (by omega) (by omega), q4 29 (by omega) (by omega) (by omega) (by omega), q4 32 (by omega) (by omega) (by omega) (by omega), c4 91 (by decide), c4 92 (by decide), c4 93 (by decide), c4 94 (by decide), c4 95 (by decide), c4 96 (by decide), c4 97 (by decide), c4 98 (by decide)]
      refine ⟨⟨D1, D2, D3, ⟨?_, y1, y2⟩, ?_, D6, D7, D8, D9, D10, D11⟩, D12⟩
      · rw [o4.1 30 (by omega) (by omega), ← hM3, zup_row, upd_eq]
      · rw [o4.1 31 (by omega) (by omega), k3 31 (by decide), p2.1 31 (by omega) (by omega), ← hM1, zup_row, upd_eq]
        rfl
  rw [zit_f (show ¬ (if tkw B n i < 17 then nI (tkw B n i) else -1) = (13 : Int32) from fun z => c13 ((kw 13 (by omega)).mp z)), if_neg c13]
  obtain ⟨M1, e1, t1, k1, o1⟩ := wr_m h1 (w := 1) (by omega) (by omega)
  have hf : (zrfs 1 (0, i)).1 ≠ 0 := by
    rw [zrfs_0 rfl]
    simp
  rw [show F_X12_wrong 79 1 M = zV M1 from e1, zbV_V]
  exact fin (zrfs 1 (0, i), g) M1 ⟨t1, fun z => absurd z hf⟩ (zMx_p (zMp_w k1 o1))
/-- all lines -/
theorem rda_x (ht : zTxt B n) (K : zM → zO) : ∀ (d : Nat) (s : (Nat × Nat) × zDr) (f : Nat) (M : zM), d ≤ 700 → d < f → zXss B n s M → (s.1.1 = 0 → zDk s.2) → ∃ M', F_X7_read_L17 39 K f (nI (700 - d)) M = K M' ∧ (zXss B n (zlns B n d s) M' ∧ zXo M M') := by
  intro d
  induction d with
  | zero =>
    intro s f M h7 hf h hg
    obtain ⟨f, rfl⟩ : ∃ g, f = g + 1 := ⟨f - 1, by omega⟩
    rw [F_X7_read_L17, zit_t (show (700 : Int32) ≤ nI (700 - 0) from by decide)]
    exact ⟨M, rfl, h, zXo_rfl⟩
  | succ d ih =>
    intro s f M h7 hf h hg
    obtain ⟨f, rfl⟩ : ∃ g, f = g + 1 := ⟨f - 1, by omega⟩
    have hkl := zkn_lt (B := B) ht s.1
    have k6 : (M 1 7 = 0) = (s.1.1 = 0) := zTp_0 h.1
    have k256 : (M 1 3 = 256) = (zkn B n s.1 = 256) := by
      rw [h.1.2.2.2.2.1]
      exact i_eq (b := 256) (by omega) (by omega)
    rw [F_X7_read_L17, zit_f (show ¬ (700 : Int32) ≤ nI (700 - (d + 1)) from (nI_ge (by omega) (by omega) : ¬ nI 700 ≤ nI (700 - (d + 1)))), gr_39_0, zlns]
    by_cases c0 : s.1.1 = 0
    · rw [zit_t (k6.mpr c0)]
      rw [zkn_0 c0] at k256
      by_cases ce : tkk B n s.1.2 = 256
      · rw [zit_t (k256.mpr ce), if_neg (fun z => z.2 ce)]
        exact ⟨M, rfl, h, zXo_rfl⟩
      · rw [zit_f (fun z => ce (k256.mp z)), if_pos ⟨c0, ce⟩]
        obtain ⟨M1, e1, x1, o1⟩ := lin_x ht h c0 ce (hg c0)
        have e1' : zbV (F_X7_readLine 39 M) (fun M3 => zbV (F_X8_takeSign 1 59 M3) (fun M4 => F_X7_read_L17 39 K f (nI (700 - (d + 1)) + 1) M4)) = F_X7_read_L17 39 K f (nI (700 - (d + 1)) + 1) M1 := by
          have aux : ∀ (X : zO) (Y : zM → zO) (Z : zM → zO), zbV X (fun M3 => zbV (Y M3) Z) = zbV (zbV X Y) Z := fun X Y Z => by
            cases X with
            | none => rfl
            | some x =>
              obtain ⟨r, M'⟩ := x
              cases r with
              | inl v =>
                cases v with
                | none => rfl
                | some v => rfl
              | inr e => rfl
          rw [aux, e1, zbV_V]
        rw [e1', nI_1, show 700 - (d + 1) + 1 = 700 - d from by omega]
        obtain ⟨M2, e2, x2, o2⟩ := ih (zline B n s) f M1 (by omega) (by omega) x1 (fun z => (zDk_line ht c0 (hg c0) z).1)
        exact ⟨M2, e2, x2, zXo_tr o1 o2⟩
    · rw [zit_f (fun z => c0 (k6.mp z)), if_neg (fun z => c0 z.1)]
      exact ⟨M, rfl, h, zXo_rfl⟩
theorem rda_m (ht : zTxt B n) (K : zM → zO) : ∀ (d : Nat) (s : (Nat × Nat) × zDr) (f : Nat) (M : zM), d < f → zMss B n s M → (s.1.1 = 0 → zDk s.2 ∧ 700 ≤ d + s.1.2) → ∃ M', F_X12_sea_L117 79 K f M = K M' ∧ (zMss B n (zlns B n d s) M' ∧ zMx M M') := by
  have hn := ht.1
  have stop : ∀ (s : (Nat × Nat) × zDr) (f : Nat) (M : zM), zMss B n s M → ¬ (s.1.1 = 0 ∧ tkk B n s.1.2 ≠ 256) → F_X12_sea_L117 79 K (f + 1) M = K M := fun s f M h hc => by
    rw [F_X12_sea_L117, gd_m h.1, zbI_I]
    by_cases c0 : s.1.1 = 0
    · have ce : tkk B n s.1.2 = 256 := by
        by_cases ce : tkk B n s.1.2 = 256
        · exact ce
        · exact absurd ⟨c0, ce⟩ hc
      rw [if_pos c0, zit_f (by decide), zit_t ((s0_m h.1).mpr ce)]
    · rw [if_neg c0, zit_t rfl]
  intro d
  induction d with
  | zero =>
    intro s f M hf h hg
    obtain ⟨f, rfl⟩ : ∃ g, f = g + 1 := ⟨f - 1, by omega⟩
    rw [stop s f M h (fun z => by
      have := (tk_lt z.2).1
      have := (hg z.1).2
      omega)]
    exact ⟨M, rfl, h, zMx_rfl⟩
  | succ d ih =>
    intro s f M hf h hg
    obtain ⟨f, rfl⟩ : ∃ g, f = g + 1 := ⟨f - 1, by omega⟩
    rw [zlns]
    by_cases c : s.1.1 = 0 ∧ tkk B n s.1.2 ≠ 256
    · obtain ⟨c0, ce⟩ := c
      obtain ⟨M1, e1, x1, o1⟩ := lin_m ht h c0 ce (hg c0).1
      rw [if_pos ⟨c0, ce⟩, F_X12_sea_L117, gd_m h.1, zbI_I, if_pos c0, zit_f (by decide), zit_f (fun z => ce ((s0_m h.1).mp z)), e1, zbV_V]
      obtain ⟨M2, e2, x2, o2⟩ := ih (zline B n s) f M1 (by omega) x1 (fun z => by
        obtain ⟨a1, a2⟩ := zDk_line ht c0 (hg c0).1 z
        have := (hg c0).2
        exact ⟨a1, by omega⟩)
      exact ⟨M2, e2, x2, zMx_tr o1 o2⟩
    · rw [if_neg c, stop s f M h c]
      exact ⟨M, rfl, h, zMx_rfl⟩
theorem zlns_k (ht : zTxt B n) : ∀ (d : Nat) (s : (Nat × Nat) × zDr), (s.1.1 = 0 → zDk s.2) → (zlns B n d s).1.1 = 0 → zDk (zlns B n d s).2
  | 0, s, hg, h => hg h
  | d + 1, s, hg, h => by
    rw [zlns] at h ⊢
    by_cases c : s.1.1 = 0 ∧ tkk B n s.1.2 ≠ 256
    · rw [if_pos c] at h ⊢
      exact zlns_k ht d _ (fun z => (zDk_line ht c.1 (hg c.1) z).1) h
    · rw [if_neg c] at h ⊢
      exact hg h
end ZRD
