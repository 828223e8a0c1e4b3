/-! the reference reads wishes -/
section ZMW
variable {B : Nat → Nat} {n : Nat}
theorem zax_e {P : Nat → Bool} : ∀ m, zax P m = true → ∃ l, l < m ∧ P l = true
  | 0, h => (nomatch h)
  | m + 1, h => by
    rw [zax_s] at h
    cases hp : P m with
    | true => exact ⟨m, by omega, hp⟩
    | false =>
      rw [hp, Bool.or_false] at h
      obtain ⟨l, h1, h2⟩ := zax_e m h
      exact ⟨l, by omega, h2⟩
theorem zax_i {P : Nat → Bool} {l : Nat} (hp : P l = true) (m : Nat) (h : l < m) : zax P m = true := by
  have : zax P (l + 1) = true := by rw [zax_s, hp, Bool.or_true]
  exact zax_up m (by omega) this
theorem wdf_m {q : Nat × Nat} {M : zM} (h : zTmx B n q M) (hq : q.1 ≠ 0) {i : Nat} (hi : i < 8) (r : Int32) (K : zM → zO) : F_X12_readsWish_L85 79 (nI i) r K zN 0 M = K M := by
  obtain ⟨f, hf⟩ : ∃ f, zN = f + 1 := ⟨999999, rfl⟩
  rw [hf, F_X12_readsWish_L85, zin_k (k := i) (n := 8) hi (by omega), zck_t]
  by_cases c : M (zgr 79 42) (zix (nI i)) ≤ 0
  · rw [zit_t c]
  · rw [zit_f c, gd_m h, zbI_I, if_neg hq, zit_t rfl]
theorem wdp_m {j : Nat} {M : zM} (h : zTmx B n (0, j) M) {g : zDr} (hd : zDmn g M) (hg : zDk g) {i v : Nat} (hi : i < 8) (hv : v < 8) (K : zM → zO) : ∃ M', F_X12_readsWish_L85 79 (nI i) (nI v) K zN 0 M = K M' ∧ (zTmx B n (if g.1 8 (8 * i + v) ≠ 0 then (4, j) else (0, j)) M' ∧ zMp M M') := by
  obtain ⟨-, k1, k2, k3, -⟩ := hg
  have h12 := k1 i hi
  have hle := zcu_le (fun v => !decide (g.1 8 (8 * i + v) = 0)) 8
  have hd97 : M 97 i = nI (g.1 12 i) := hd.2.2.2.2.2.2.2.1 i hi
  have hd9 := hd.2.2.2.2.2.2.2.2.1 i hi
  have hd10 := hd.2.2.2.2.2.2.2.2.2.1 i hi v hv
  have hiff : zax (fun l => decide (M 96 (8 * i + l) = nI v)) (g.1 12 i) = true ↔ g.1 8 (8 * i + v) ≠ 0 := by
    constructor
    · intro z
      obtain ⟨l, l1, l2⟩ := zax_e _ z
      obtain ⟨w, w1, w2, w3⟩ := hd9 l l1
      have l2 := of_decide_eq_true l2
      rw [w2] at l2
      have : w = v := (nI_eq (by omega) (by omega)).mp l2
      rw [← this, w3]
      omega
    · intro z
      have u := k3 i hi v hv
      exact zax_i (l := g.1 8 (8 * i + v) - 1) (decide_eq_true (hd10 z)) _ (by omega)
  have key : ∃ M', F_X12_readsWish_L85 79 (nI i) (nI v) K zN 0 M = K M' ∧ (zTmx B n (if zax (fun l => decide (M 96 (8 * i + l) = nI v)) (g.1 12 i) = true then (4, j) else (0, j)) M' ∧ zMp M M') := by
    refine zfor (i := 0) (f := zN) (a := M) (g.1 12 i) (fun f k (M1 : zM) => F_X12_readsWish_L85 79 (nI i) (nI v) K f (nI k) M1) (fun k M1 => zTmx B n (if zax (fun l => decide (M 96 (8 * i + l) = nI v)) k = true then (4, j) else (0, j)) M1 ∧ zMp M M1) (fun o => ∃ M', o = K M' ∧ (zTmx B n (if zax (fun l => decide (M 96 (8 * i + l) = nI v)) (g.1 12 i) = true then (4, j) else (0, j)) M' ∧ zMp M M')) ?_ ?_ (by omega) (zN_ge (by omega)) ⟨h, zMp_rfl⟩
    · rintro f k M1 hk ⟨i1, i2⟩
      show (∃ M', F_X12_readsWish_L85 79 (nI i) (nI v) K (f + 1) (nI k) M1 = K M' ∧ _) ∨ _
      rw [F_X12_readsWish_L85, zin_k (k := i) (n := 8) hi (by omega), zck_t, gr_79_42, gr_79_41, zix_k (k := i) (by omega), i2.2 97 (by decide), hd97, zit_f (nI_ge hk (by omega))]
      cases hz : zax (fun l => decide (M 96 (8 * i + l) = nI v)) k with
      | true =>
        rw [hz, if_pos rfl] at i1
        refine Or.inl ?_
        rw [gd_m i1, zbI_I, if_neg (by simp), zit_t rfl, if_pos (zax_up _ (by omega) hz)]
        exact ⟨M1, rfl, i1, i2⟩
      | false =>
        rw [hz, if_neg (by decide)] at i1
        refine Or.inr ?_
        rw [gd_m i1, zbI_I, if_pos rfl, zit_f (by decide), show (8 : Int32) = nI 8 from rfl, pk_mul, nI_add, zin_k (k := 8 * i + k) (n := 64) (by omega) (by omega), zck_t, zjo_eq, zix_k (k := 8 * i + k) (by omega), i2.2 96 (by decide), nI_1]
        show ∃ M2, _ = F_X12_readsWish_L85 79 (nI i) (nI v) K f (nI (k + 1)) M2 ∧ (zTmx B n (if zax (fun l => decide (M 96 (8 * i + l) = nI v)) (k + 1) = true then (4, j) else (0, j)) M2 ∧ zMp M M2)
        rw [zax_s, hz, Bool.false_or]
        by_cases hs : M 96 (8 * i + k) = nI v
        · obtain ⟨M2, e2, t2, k2, o2⟩ := wr_m i1 (w := 4) (by omega) (by omega)
          rw [zrfs_0 rfl] at t2
          rw [zit_t hs, show F_X12_wrong 79 4 M1 = zV M2 from e2, zbV_V, if_pos (decide_eq_true hs)]
          exact ⟨M2, rfl, t2, zMp_tr i2 (zMp_w k2 o2)⟩
        · rw [zit_f hs, if_neg (by rw [decide_eq_true_eq]; exact hs)]
          exact ⟨M1, rfl, i1, i2⟩
    · rintro f M1 ⟨i1, i2⟩
      show ∃ M', F_X12_readsWish_L85 79 (nI i) (nI v) K (f + 1) (nI (g.1 12 i)) M1 = K M' ∧ _
      rw [F_X12_readsWish_L85, zin_k (k := i) (n := 8) hi (by omega), zck_t, gr_79_42, zix_k (k := i) (by omega), i2.2 97 (by decide), hd97, zit_t (nI_le (Nat.le_refl _) (by omega))]
      exact ⟨M1, rfl, i1, i2⟩
  obtain ⟨M', e, t, o⟩ := key
  refine ⟨M', e, ?_, o⟩
  by_cases c : g.1 8 (8 * i + v) ≠ 0
  · rw [if_pos (hiff.mpr c)] at t
    rw [if_pos c]
    exact t
  · rw [if_neg (fun z => c (hiff.mp z))] at t
    rw [if_neg c]
    exact t
/-- one name that is wished for -/
theorem rd1_m (ht : zTxt B n) {p : Nat × Nat} (hp : p.1 = 0) {g : zDr} {M : zM} (h : zTmx B n p M) (hd : zDmn g M) (hg : zDk g) {i : Nat} (hi : i < g.1 0 0) (K : zM → zO) (hK : ∀ M, K M = zV M) (f : Nat) : ((zwsn B n i p g.1).1.1 ≠ 0 → ∃ M', F_X12_readsWish_L66 79 (nI i) K (f + 1) 1 M = zV M' ∧ (zTmx B n (zwsn B n i p g.1).1 M' ∧ zMx M M')) ∧ ((zwsn B n i p g.1).1.1 = 0 → ∃ M', F_X12_readsWish_L66 79 (nI i) K (f + 1) 1 M = F_X12_readsWish_L66 79 (nI i) K f (if tkk B n (zwsn B n i p g.1).1.2 = 258 then 1 else 0) M' ∧ (zTmx B n (zwsn B n i p g.1).1 M' ∧ zDmn ((zwsn B n i p g.1).2, g.2) M' ∧ M' 79 32 = M 79 32 ∧ zMx M M')) := by
  have h8 := so_n hg.1
  obtain ⟨r5, M1, e1, v1, t1, k1, o1⟩ := on_m ht h (k := g.1 0 0) (by omega) hd.1
  have p1 := zMp_w k1 o1
  rw [F_X12_readsWish_L66, zit_f (by decide), gd_m h, zbI_I, if_pos hp, zit_f (by decide), e1, zbI_I]
  unfold zwsn
  by_cases c : (zstd B n (g.1 0 0) p).1 ≠ 0
  · rw [if_pos c, wdf_m t1 c (by omega), gd_m t1, zbI_I, if_neg c, zit_t rfl]
    exact ⟨fun _ => ⟨M1, rfl, t1, zMx_p p1⟩, fun z => absurd z c⟩
  · have c0 : (zstd B n (g.1 0 0) p).1 = 0 := by omega
    obtain ⟨c1, c2, c3, c4, c5⟩ := zstd_0 c0
    obtain ⟨v, hv⟩ : ∃ v, tkv B n p.2 = v := ⟨_, rfl⟩
    rw [hv] at c4 v1
    rw [if_neg c, hv, v1 c0]
    rw [c5] at t1
    have t1' : zTmx B n (0, p.2) M1 := by rw [← hp]; exact t1
    have d1 := zDmn_p hd p1
    have h12 := hg.2.1 i (by omega)
    have hle := zcu_le (fun v => !decide (g.1 8 (8 * i + v) = 0)) 8
    obtain ⟨M2, e2, t2, o2⟩ := wdp_m t1' d1 hg (i := i) (v := v) (by omega) (by omega) (fun (M15 : zM) => zbI (F_X12_isGood 79 M15) (fun r7 M16 => zit (r7 = 0) (zV M16) (zck (zin (nI i) 8) (zck (zin ((8 * nI i) + (M16 (zgr 79 42) (zix (nI i)))) 64) (zst (zup M16 (zgr 79 41) (zix ((8 * nI i) + (M16 (zgr 79 42) (zix (nI i))))) (nI v)) (fun M17 => zck (zin (nI i) 8) (zck (zin (nI i) 8) (zst (zup M17 (zgr 79 42) (zix (nI i)) ((M17 (zgr 79 42) (zix (nI i))) + 1)) (fun M18 => zbV (F_X12_goes 79 M18) (fun M19 => zjo (fun (w1 : Int32) (M20 : zM) => F_X12_readsWish_L66 79 (nI i) K f w1 M20) (fun (k3 : Int32 → zM → zO) => zit ((M19 79 21) = 2) (k3 1 M19) (k3 0 M19))))))))))))
    have p2 := zMp_tr p1 o2
    rw [e2]
    by_cases c8 : g.1 8 (8 * i + v) ≠ 0
    · rw [if_pos c8] at t2 ⊢
      rw [gd_m t2, zbI_I, if_neg (by simp), zit_t rfl]
      exact ⟨fun _ => ⟨M2, rfl, t2, zMx_p p2⟩, fun z => absurd z (by simp)⟩
    · rw [if_neg c8] at t2 ⊢
      have c8' : g.1 8 (8 * i + v) = 0 := by omega
      have hlt8 := (zDk_ws hg hi c4 c8').2
      have d2 := zDmn_p d1 o2
      have hd97 : M2 97 i = nI (g.1 12 i) := d2.2.2.2.2.2.2.2.1 i (by omega)
      rw [gd_m t2, zbI_I, if_pos rfl, zit_f (by decide), zin_k (k := i) (n := 8) (by omega) (by omega), zck_t, gr_79_42, gr_79_41, zix_k (k := i) (by omega), hd97, show (8 : Int32) = nI 8 from rfl, pk_mul, nI_add, zin_k (k := 8 * i + g.1 12 i) (n := 64) (by omega) (by omega), zck_t, zst_eq, zix_k (k := 8 * i + g.1 12 i) (by omega), zck_t, zck_t, show zup M2 96 (8 * i + g.1 12 i) (nI v) 97 i = nI (g.1 12 i) from by rw [zup_ne (by decide), hd97], nI_1, zst_eq]
      obtain ⟨M3, hM3⟩ : ∃ M3, zup (zup M2 96 (8 * i + g.1 12 i) (nI v)) 97 i (nI (g.1 12 i + 1)) = M3 := ⟨_, rfl⟩
      rw [hM3]
      have o3 : zoff [96, 97] M2 M3 := by rw [← hM3]; exact zoff_up (zoff_up zoff_rfl (by decide)) (by decide)
      have t3 := zTmx_o t2 (zoff_mono o3 (by decide))
      obtain ⟨M4, e4, t4, o4⟩ := goz_m ht t3
      have ez : zstp p = (0, p.2 + 1) := zstp_0 hp
      rw [e4, zbV_V, zjo_eq, ez]
      refine ⟨fun z => absurd rfl z, fun _ => ⟨M4, ?_, t4, ?_, ?_, ?_⟩⟩
      · by_cases ck : tkk B n (p.2 + 1) = 258
        · rw [zit_t ((s2_m t4).mpr ck), if_pos ck]
        · rw [zit_f (fun z => ck ((s2_m t4).mp z)), if_neg ck]
      · refine zDmn_p (M := M3) ?_ (zMp_o o4)
        obtain ⟨D1, D2, D3, D4, D5, D6, D7, D8, D9, D10, D11⟩ := d2
        have eo : ∀ r, r ≠ 12 → r ≠ 8 → ∀ k, zSws g.1 i v r k = g.1 r k := fun r r1 r2 k => zSws_o (fun z => absurd z r1) (fun z => absurd z r2)
        have w12 : ∀ j, j < 8 → g.1 12 j ≤ 8 := fun j hj => by
          have u1 := hg.2.1 j hj
          have u2 := zcu_le (fun v => !decide (g.1 8 (8 * j + v) = 0)) 8
          omega
        unfold zDmn
        dsimp only
        rw [o3 79 (by decide), o3 91 (by decide), o3 92 (by decide), o3 93 (by decide), o3 94 (by decide), o3 95 (by decide), o3 98 (by decide), o3 99 (by decide)]
        simp only [eo 0 (by omega) (by omega), eo 1 (by omega) (by omega), eo 2 (by omega) (by omega), eo 3 (by omega) (by omega), eo 4 (by omega) (by omega), eo 5 (by omega) (by omega), eo 6 (by omega) (by omega), eo 7 (by omega) (by omega), eo 9 (by omega) (by omega), eo 10 (by omega) (by omega), eo 11 (by omega) (by omega)]
        refine ⟨D1, D2, D3, D4, D5, D6, D7, fun j hj => ?_, fun j hj k hk => ?_, fun j hj w hw hne => ?_, D11⟩
        · rw [← hM3, zup_row]
          by_cases e : j = i
          · rw [e, upd_eq, zSws_12.1]
          · rw [upd_ne e, zup_ne (by decide), zSws_o (fun _ => e) (by omega)]
            exact D8 j hj
        · rw [← hM3, zup_ne (by decide), zup_row]
          by_cases e : j = i
          · subst e
            rw [zSws_12.1] at hk
            by_cases ek : k = g.1 12 j
            · exact ⟨v, by omega, by rw [ek, upd_eq], by rw [zSws_12.2, ek]⟩
            · obtain ⟨w, w1, w2, w3⟩ := D9 j hj k (by omega)
              refine ⟨w, w1, by rw [upd_ne (by omega)]; exact w2, ?_⟩
              rw [zSws_o (by omega) (fun _ z => ?_)]
              · exact w3
              · have : w = v := by omega
                rw [this] at w3
                omega
          · rw [zSws_o (fun _ => e) (by omega)] at hk
            obtain ⟨w, w1, w2, w3⟩ := D9 j hj k hk
            have := w12 j hj
            exact ⟨w, w1, by rw [upd_ne (by omega)]; exact w2, by rw [zSws_o (by omega) (fun _ => by omega)]; exact w3⟩
        · rw [← hM3, zup_ne (by decide), zup_row]
          by_cases e : j = i ∧ w = v
          · obtain ⟨rfl, rfl⟩ := e
            rw [zSws_12.2, show 8 * j + (g.1 12 j + 1 - 1) = 8 * j + g.1 12 j from by omega, upd_eq]
          · rw [zSws_o (by omega) (fun _ => by omega)] at hne ⊢
            have u1 := hg.2.2.2.1 j hj w hw
            have u2 := w12 j hj
            rw [upd_ne (by
              by_cases ej : j = i
              · rw [ej] at u1 hne ⊢
                omega
              · omega)]
            exact D10 j hj w hw hne
      · rw [o4.1 32 (by omega) (by omega), o3 79 (by decide), p2.1 32 (by omega) (by omega)]
      · exact zMx_tr (zMx_p p2) (zMx_tr (zMx_o (zoff_mono o3 (by decide))) (zMx_p (zMp_o o4)))
theorem rdl_m (ht : zTxt B n) {i : Nat} (K : zM → zO) (hK : ∀ M, K M = zV M) : ∀ (d : Nat) (p : Nat × Nat) (g : zDr) (f : Nat) (M : zM), d + 1 < f → p.1 = 0 → zTmx B n p M → zDmn g M → zDk g → i < g.1 0 0 → 9 ≤ g.1 12 i + d → ∃ M', F_X12_readsWish_L66 79 (nI i) K f (if tkk B n p.2 = 258 then 1 else 0) M = zV M' ∧ (zTmx B n (zwsl B n i d p g.1).1 M' ∧ ((zwsl B n i d p g.1).1.1 = 0 → zDmn ((zwsl B n i d p g.1).2, g.2) M' ∧ M' 79 32 = M 79 32 ∧ g.1 12 i ≤ (zwsl B n i d p g.1).2 12 i ∧ ∀ j, j ≠ i → (zwsl B n i d p g.1).2 12 j = g.1 12 j) ∧ zMx M M') := by
  intro d
  induction d with
  | zero =>
    intro p g f M hf hp h hd hg hi h9
    have h8 := so_n hg.1
    have u1 := hg.2.1 i (by omega)
    have u2 := zcu_le (fun v => !decide (g.1 8 (8 * i + v) = 0)) 8
    omega
  | succ d ih =>
    intro p g f M hf hp h hd hg hi h9
    have h8 := so_n hg.1
    obtain ⟨f, rfl⟩ : ∃ g, f = g + 1 := ⟨f - 1, by omega⟩
    rw [zwsl, zkn_0 hp]
    by_cases c : tkk B n p.2 = 258
    · rw [if_pos c, if_pos c]
      obtain ⟨r1, r2⟩ := rd1_m ht hp h hd hg hi K hK f
      by_cases cr : (zwsn B n i p g.1).1.1 = 0
      · obtain ⟨M1, e1, t1, d1, q1, o1⟩ := r2 cr
        obtain ⟨z1, z2, z3, z4, z5⟩ := zwsn_k (B := B) (n := n) (p := p) (g := g) (i := i) (by omega) (fun _ => ⟨hg, hi⟩) cr
        obtain ⟨M2, e2, t2, d2, o2⟩ := ih (zwsn B n i p g.1).1 ((zwsn B n i p g.1).2, g.2) f M1 (by omega) cr t1 d1 z2 (by dsimp only; rw [z4]; exact hi) (by dsimp only; omega)
        rw [e1]
        refine ⟨M2, e2, t2, fun z => ?_, zMx_tr o1 o2⟩
        obtain ⟨y1, y2, y3, y4⟩ := d2 z
        dsimp only at y3 y4
        refine ⟨y1, y2.trans q1, by omega, fun j hj => ?_⟩
        rw [y4 j hj]
        unfold zwsn
        split
        · rfl
        · split
          · rfl
          · exact zSws_o (fun _ => hj) (by omega)
      · obtain ⟨M1, e1, t1, o1⟩ := r1 cr
        have ez : zwsl B n i d (zwsn B n i p g.1).1 (zwsn B n i p g.1).2 = ((zwsn B n i p g.1).1, (zwsn B n i p g.1).2) := by
          cases d with
          | zero => rfl
          | succ d => rw [zwsl, zkn_f cr, if_neg (by omega)]
        rw [e1, ez]
        exact ⟨M1, rfl, t1, fun z => absurd z cr, o1⟩
    · rw [if_neg c, if_neg c, F_X12_readsWish_L66, zit_t rfl, hK]
      exact ⟨M, rfl, h, fun _ => ⟨hd, rfl, Nat.le_refl _, fun _ _ => rfl⟩, zMx_rfl⟩
theorem bput : ∀ T, T < 256 → ∀ i, i < 8 → nI T ||| ((1 : Int32) <<< (nI i &&& 31)) = nI (zpb T i) ∧ zpb T i < 256 ∧ ∀ j, j < 8 → zbi (zpb T i) j = (decide (j = i) || zbi T j) := by decide +kernel
theorem wsh_m (ht : zTxt B n) {p : Nat × Nat} {g : zDr} {M : zM} (h : zMss B n (p, g) M) (hp : p.1 = 0) (hg : zDk g) : ∃ M', F_X12_readsWish 79 M = zV M' ∧ (zMss B n (zwish B n p g) M' ∧ zMx M M') := by
  obtain ⟨f0, i0⟩ := p
  dsimp only at hp
  subst hp
  obtain ⟨h1, h2⟩ := id h
  have hd : zDmm g M := h2 rfl
  have h8 := so_n hg.1
  obtain ⟨M1, e1, t1, o1⟩ := goz_m ht h1
  have d1 := zDmm_p hd (zMp_o o1)
  obtain ⟨r1, M2, e2, v2, t2, k2, o2⟩ := on_m ht t1 (k := g.1 0 0) (by omega) d1.1.1
  have p2 := zMp_w k2 o2
  have d2 := zDmm_p d1 p2
  have x2 := zMx_p (zMp_tr (zMp_o o1) p2)
  unfold F_X12_readsWish zwish
  have ep : zstp (0, i0) = (0, i0 + 1) := zstp_0 rfl
  rw [ep]
  dsimp only
  rw [e1, zbV_V, e2, zbI_I, gd_m t2, zbI_I, zjo_eq]
  by_cases c : (zstd B n (g.1 0 0) (0, i0 + 1)).1 ≠ 0
  · rw [if_neg c, if_pos c, zit_t rfl]
    try dsimp only
    rw [gd_m t2, zbI_I, if_neg c, zit_t rfl]
    exact ⟨M2, rfl, ⟨t2, fun z => absurd z c⟩, x2⟩
  · have c0 : (zstd B n (g.1 0 0) (0, i0 + 1)).1 = 0 := by omega
    obtain ⟨c1, c2, c3, c4, c5⟩ := zstd_0 c0
    obtain ⟨i, hi⟩ : ∃ i, tkv B n (i0 + 1) = i := ⟨_, rfl⟩
    dsimp only at c4 v2
    rw [hi] at c4 v2
    rw [c5] at t2
    obtain ⟨T, T1, T2, T3⟩ := d2.2
    rw [if_pos c0, if_neg c, zit_f (by decide), v2 c0, hi, T2]
    by_cases c12 : 0 < g.1 12 i
    · obtain ⟨M3, e3, t3, k3, o3⟩ := wr_m t2 (w := 5) (by omega) (by omega)
      rw [zrfs_0 rfl] at t3
      rw [zit_t (show (nI T >>> (nI i &&& 31)) &&& 1 = 1 from by rw [bi_1 T1 (by omega), T3 i (by omega)]; exact decide_eq_true c12), show F_X12_wrong 79 5 M2 = zV M3 from e3, zbV_V, if_pos c12]
      try dsimp only
      rw [gd_m t3, zbI_I, if_neg (by simp), zit_t rfl]
      exact ⟨M3, rfl, ⟨t3, fun z => absurd z (by simp)⟩, zMx_tr x2 (zMx_p (zMp_w k3 o3))⟩
    · have c12' : g.1 12 i = 0 := by omega
      rw [zit_f (show ¬ (nI T >>> (nI i &&& 31)) &&& 1 = 1 from by rw [bi_1 T1 (by omega), T3 i (by omega), decide_eq_true_eq]; exact c12), if_neg c12]
      try dsimp only
      obtain ⟨u1, u2, u3⟩ := bput T T1 i (by omega)
      rw [gd_m t2, zbI_I, if_pos rfl, zit_f (by decide), zst_eq, T2, u1, zin_k (k := i) (n := 8) (by omega) (by omega), zck_t, zst_eq, gr_79_42, zix_k (k := i) (by omega)]
      obtain ⟨M3, hM3⟩ : ∃ M3, zup (zup M2 79 32 (nI (zpb T i))) 97 i 0 = M3 := ⟨_, rfl⟩
      rw [hM3]
      have k3 : ∀ k, k ≠ 32 → M3 79 k = M2 79 k := fun k hk => by rw [← hM3, zup_ne (by decide), zup_row, upd_ne hk]
      have o3 : zoff [79, 97] M2 M3 := by rw [← hM3]; exact zoff_up (zoff_up zoff_rfl (by decide)) (by decide)
      have e97 : M3 97 = M2 97 := by
        rw [← hM3, zup_row, zup_ne (by decide)]
        funext j
        by_cases e : j = i
        · rw [e, upd_eq, d2.1.2.2.2.2.2.2.2.1 i (by omega), c12']
          rfl
        · rw [upd_ne e]
      have t3 : zTmx B n (0, i0 + 1) M3 := zTmx_cg t2 (fun k hk => k3 k (by omega)) (o3 89 (by decide))
      have d3 : zDmn g M3 := by
        have := d2.1
        unfold zDmn at this ⊢
        rw [k3 27 (by decide), k3 28 (by decide), k3 29 (by decide), k3 30 (by decide), k3 31 (by decide), k3 33 (by decide), e97, o3 91 (by decide), o3 92 (by decide), o3 93 (by decide), o3 94 (by decide), o3 95 (by decide), o3 96 (by decide), o3 98 (by decide), o3 99 (by decide)]
        exact this
      have x3 : zMx M2 M3 := ⟨fun k hk _ => k3 k (by omega), zoff_mono o3 (by decide)⟩
      obtain ⟨M4, e4, t4, o4⟩ := goz_m ht t3
      have d4 := zDmn_p d3 (zMp_o o4)
      have q4 : M4 79 32 = nI (zpb T i) := by rw [o4.1 32 (by omega) (by omega), ← hM3, zup_ne (by decide), zup_row, upd_eq]
      have x4 := zMx_tr x2 (zMx_tr x3 (zMx_p (zMp_o o4)))
      have ep2 : zstp (0, i0 + 1) = (0, i0 + 1 + 1) := zstp_0 rfl
      rw [e4, zbV_V, ep2]
      obtain ⟨f, hf⟩ : ∃ f, zN = f + 1 := ⟨999999, rfl⟩
      have hf' : 9 < f := by
        have : zN = 1000000 := rfl
        omega
      obtain ⟨w1, w2⟩ := rd1_m ht (p := (0, i0 + 1 + 1)) rfl t4 d4 hg c4 (fun (M21 : zM) => zV M21) (fun _ => rfl) f
      rw [hf]
      by_cases cr : (zwsn B n i (0, i0 + 1 + 1) g.1).1.1 = 0
      · obtain ⟨M5, e5, t5, d5, q5, o5⟩ := w2 cr
        obtain ⟨z1, z2, z3, z4, z5⟩ := zwsn_k (B := B) (n := n) (p := (0, i0 + 1 + 1)) (g := g) (i := i) (by omega) (fun _ => ⟨hg, c4⟩) cr
        obtain ⟨M6, e6, t6, d6, o6⟩ := rdl_m ht (i := i) (fun (M21 : zM) => zV M21) (fun _ => rfl) 8 (zwsn B n i (0, i0 + 1 + 1) g.1).1 ((zwsn B n i (0, i0 + 1 + 1) g.1).2, g.2) f M5 (by omega) cr t5 d5 z2 (by dsimp only; rw [z4]; exact c4) (by dsimp only; omega)
        rw [e5, e6]
        refine ⟨M6, rfl, ⟨t6, fun z => ?_⟩, zMx_tr x4 (zMx_tr o5 o6)⟩
        obtain ⟨y1, y2, y3, y4⟩ := d6 z
        dsimp only at y3 y4
        refine ⟨y1, zpb T i, u2, by rw [y2, q5, q4], fun j hj => ?_⟩
        rw [u3 j hj, T3 j hj]
        dsimp only
        by_cases e : j = i
        · rw [e, decide_eq_true (rfl : i = i), decide_eq_true (show 0 < (zwsl B n i 8 (zwsn B n i (0, i0 + 1 + 1) g.1).1 (zwsn B n i (0, i0 + 1 + 1) g.1).2).2 12 i from by omega)]
          rfl
        · have hx : (zwsn B n i (0, i0 + 1 + 1) g.1).2 12 j = g.1 12 j := by
            unfold zwsn
            split
            · rfl
            · split
              · rfl
              · exact zSws_o (fun _ => e) (by omega)
          rw [decide_eq_false e, Bool.false_or]
          exact decide_eq_decide.mpr (by rw [y4 j e, hx])
      · obtain ⟨M5, e5, t5, o5⟩ := w1 cr
        have ez : zwsl B n i 8 (zwsn B n i (0, i0 + 1 + 1) g.1).1 (zwsn B n i (0, i0 + 1 + 1) g.1).2 = ((zwsn B n i (0, i0 + 1 + 1) g.1).1, (zwsn B n i (0, i0 + 1 + 1) g.1).2) := by
          rw [show (8 : Nat) = 7 + 1 from rfl, zwsl, zkn_f cr, if_neg (by omega)]
        rw [e5, ez]
        exact ⟨M5, rfl, ⟨t5, fun z => absurd z cr⟩, zMx_tr x4 o5⟩
end ZMW
