/-! round -/
theorem zup_zup {M : zM} {a k : Nat} {u v : Int32} : zup (zup M a k u) a k v = zup M a k v := by
  funext i j
  unfold zup
  by_cases e : i = a ∧ j = k
  · rw [if_pos e, if_pos e]
  · rw [if_neg e, if_neg e, if_neg e]
section ZRO
variable {S : zSD} {w : zWD}
/-- the class's sea and world behind its own scratch -/
theorem okx {M M' : zM} (hS : zSx S M) (hW : zWx 40 w M) (o : zoff [63, 64, 65, 66] M M') : zSx S M' ∧ zWx 40 w M' := by
  refine ⟨zSx_off hS (fun i hi => o i (fun hz => by
    simp only [List.mem_cons, List.mem_nil_iff, or_false] at hi hz
    omega)), ?_⟩
  unfold zWx
  rw [o 40 (by decide), o (40 + 1) (by decide), o (40 + 2) (by decide)]
  exact hW
theorem am_x1 {M : zM} (hS : zSx S M) (ho : zSok S) (hW : zWx 40 w M) (hk : zWok S w) {L i : Nat} (hL : L < 256) (hi : i < S 0 0) (K : zM → zO) : F_X1_aim_L22 63 (nI L) (nI i) K zN 0 (zup M 65 i (nI i)) = K (zup M 65 i (nI (zai S w L i))) := by
  have h8 := so_n ho
  refine zfor (i := 0) (f := zN) (a := ()) (S 0 0) (fun f k (_ : Unit) => F_X1_aim_L22 63 (nI L) (nI i) K f (nI k) (zup M 65 i (nI (zam S w L i k)))) (fun _ _ => True) (fun o => o = _) ?_ ?_ (by omega) (zN_ge (by omega)) trivial
  · rintro f k _ hkk -
    refine Or.inr ⟨(), ?_, trivial⟩
    obtain ⟨M1, hM1⟩ : ∃ M1, zup M 65 i (nI (zam S w L i k)) = M1 := ⟨_, rfl⟩
    have o1 : zoff [63, 64, 65, 66] M M1 := by rw [← hM1]; exact zoff_up zoff_rfl (by decide)
    obtain ⟨hS1, hW1⟩ := okx hS hW o1
    have hlt := zam_lt (S := S) (w := w) (L := L) hi k (by omega)
    have e65 : M1 65 i = nI (zam S w L i k) := by rw [← hM1, zup_row, upd_eq]
    have hw : ∀ j, j < 8 → M1 41 j = nI (w.1 j) := hW1.1
    have hup : zup M1 65 i (nI k) = zup M 65 i (nI k) := by rw [← hM1, zup_zup]
    show F_X1_aim_L22 63 (nI L) (nI i) K (f + 1) (nI k) (zup M 65 i (nI (zam S w L i k))) = F_X1_aim_L22 63 (nI L) (nI i) K f (nI (k + 1)) (zup M 65 i (nI (zam S w L i (k + 1))))
    rw [zam_s, hM1, F_X1_aim_L22, gr_63_0, sx_n hS1, zit_f (nI_ge hkk (by omega)), zjo_eq, nI_1]
    cases hb : zbi L k with
    | false =>
      rw [zit_f (by rw [bi_1 hL (by omega), hb]; decide), if_neg (fun z => absurd z.1 (by decide))]
      show zjo _ _ = _
      rw [zjo_eq, zit_t (by decide), hM1]
    | true =>
      rw [zit_t (by rw [bi_1 hL (by omega), hb])]
      show zjo _ _ = _
      rw [zjo_eq, zit_f (by decide), gr_63_4, gr_63_1, gr_40_1, zix_k (k := i) (by omega), e65, zin_k (k := k) (n := 8) (by omega) (by omega), zin_k (k := i) (n := 8) (by omega) (by omega), zin_k (k := zam S w L i k) (n := 8) (by omega) (by omega), zck_t, zck_t, zck_t, zix_k (k := k) (by omega), zix_k (k := zam S w L i k) (by omega), hw k (by omega), hw _ (by omega), lk_x hS1 ho hW1 hk hi (wo_n hk k hkk) (wo_n hk _ hlt), zbI_I]
      cases hz : zlk S w i (w.1 k) (w.1 (zam S w L i k)) with
      | false => rw [if_neg (by decide), zit_t (by decide), if_neg (fun z => absurd z.2 (by decide)), hM1]
      | true => rw [if_pos rfl, zit_f (by decide), if_pos ⟨rfl, rfl⟩, zck_t, zst_eq, hup]
  · rintro f _ -
    have o1 : zoff [63, 64, 65, 66] M (zup M 65 i (nI (zam S w L i (S 0 0)))) := zoff_up zoff_rfl (by decide)
    obtain ⟨hS1, hW1⟩ := okx hS hW o1
    show F_X1_aim_L22 63 (nI L) (nI i) K (f + 1) _ _ = _
    rw [F_X1_aim_L22, gr_63_0, sx_n hS1, zit_t (nI_le (Nat.le_refl _) (by omega))]
    rfl
theorem am_x {M : zM} (hS : zSx S M) (ho : zSok S) (hW : zWx 40 w M) (hk : zWok S w) {L : Nat} (hL : L < 256) : ∃ M', F_X1_aim 63 (nI L) M = zV M' ∧ ((∀ j, j < S 0 0 → M' 65 j = nI (zai S w L j)) ∧ zoff [65] M M') := by
  have h8 := so_n ho
  unfold F_X1_aim
  refine zfor (i := 0) (f := zN) (a := M) (S 0 0) (fun f i (M1 : zM) => F_X1_aim_L2 63 (nI L) (fun (M7 : zM) => zV M7) f (nI i) M1) (fun i M1 => (∀ j, j < i → M1 65 j = nI (zai S w L j)) ∧ zoff [65] M M1) (fun o => ∃ M', o = zV M' ∧ ((∀ j, j < S 0 0 → M' 65 j = nI (zai S w L j)) ∧ zoff [65] M M')) ?_ ?_ (by omega) (zN_ge (by omega)) ⟨fun j hj => absurd hj (Nat.not_lt_zero _), zoff_rfl⟩
  · rintro f i M1 hi ⟨h1, o1⟩
    refine Or.inr ⟨zup M1 65 i (nI (zai S w L i)), ?_, fun j hj => ?_, zoff_up o1 (by decide)⟩
    · obtain ⟨hS1, hW1⟩ := okx hS hW (zoff_mono o1 (by decide))
      show F_X1_aim_L2 63 (nI L) _ (f + 1) _ M1 = F_X1_aim_L2 63 (nI L) _ f _ _
      rw [F_X1_aim_L2, gr_63_0, sx_n hS1, zit_f (nI_ge hi (by omega)), zin_k (k := i) (n := 8) (by omega) (by omega), zck_t, zst_eq, gr_63_4, zix_k (k := i) (by omega), am_x1 hS1 ho hW1 hk hL hi, nI_1]
    · rw [zup_row]
      by_cases e : j = i
      · rw [e, upd_eq]
      · rw [upd_ne e, h1 j (by omega)]
  · rintro f M1 ⟨h1, o1⟩
    obtain ⟨hS1, hW1⟩ := okx hS hW (zoff_mono o1 (by decide))
    show ∃ M', F_X1_aim_L2 63 (nI L) _ (f + 1) _ M1 = _ ∧ _
    rw [F_X1_aim_L2, gr_63_0, sx_n hS1, zit_t (nI_le (Nat.le_refl _) (by omega))]
    exact ⟨M1, rfl, h1, o1⟩
theorem rl_x {M : zM} (ho : zSok S) {L i : Nat} (hi : i < S 0 0) (ha : ∀ j, j < S 0 0 → M 65 j = nI (zai S w L j)) : F_X1_roundLength 63 (nI i) M = zI (nI (zrl S w L i)) M := by
  have h8 := so_n ho
  have hlt : ∀ k, zorb (zai S w L) i k < S 0 0 := zorb_lt (fun j hj => zai_lt hj) hi
  unfold F_X1_roundLength
  refine zwhl (fun f m => F_X1_roundLength_L4 63 (nI i) (fun (M1 : zM) => zI 0 M1) f (nI (zorb (zai S w L) i (m - 1))) (nI m) M) (fun d m => m + d = 9 ∧ 1 ≤ m ∧ ∀ k, 1 ≤ k → k < m → zorb (zai S w L) i k ≠ i) (fun o => o = zI (nI (zrl S w L i)) M) ?_ 8 zN 1 (zN_ge (by omega)) ⟨rfl, Nat.le_refl _, fun k h1 h2 => by omega⟩
  rintro f d m ⟨hd, hm, hl⟩
  show F_X1_roundLength_L4 63 (nI i) _ (f + 1) _ _ M = _ ∨ _
  rw [F_X1_roundLength_L4]
  have hp := hlt (m - 1)
  by_cases h9 : d = 0
  · refine Or.inl ?_
    rw [zit_t (show (8 : Int32) < nI m from nI_lt (a := 8) (by omega) (by omega)), zrl_no (fun k h1 h2 => hl k h1 (by omega))]
    rfl
  · have es : zai S w L (zorb (zai S w L) i (m - 1)) = zorb (zai S w L) i m := by
      obtain ⟨m', rfl⟩ : ∃ m', m = m' + 1 := ⟨m - 1, by omega⟩
      rfl
    have hq := hlt m
    rw [zit_f (show ¬ (8 : Int32) < nI m from nI_nlt (a := 8) (b := m) (by omega) (by omega)), zin_k (k := zorb (zai S w L) i (m - 1)) (n := 8) (by omega) (by omega), zck_t, gr_63_4, zix_k (k := zorb (zai S w L) i (m - 1)) (by omega), ha _ hp, es, zlt_eq, nI_1]
    by_cases e : zorb (zai S w L) i m = i
    · refine Or.inl ?_
      rw [zit_t (by rw [e]), zrl_is hi hm e hl]
    · rw [zit_f (fun z => e ((nI_eq (by omega) (by omega)).mp z))]
      refine Or.inr ⟨d - 1, m + 1, by omega, rfl, by omega, by omega, fun k h1 h2 => ?_⟩
      by_cases ek : k = m
      · rw [ek]; exact e
      · exact hl k h1 (by omega)
theorem cr_x {M : zM} (hS : zSx S M) (ho : zSok S) (hW : zWx 40 w M) (hk : zWok S w) (s : Nat × (Nat → Nat) × Nat) (hs : s.2.2 < 256) (hlg : s.1 ≤ 8) (ha : ∀ j, j < S 0 0 → M 65 j = nI (zai S w s.2.2 j)) (h3 : M 63 3 = nI s.1) (h64 : ∀ j, j < S 0 0 → zbi s.2.2 j = false → M 64 j = nI (s.2.1 j)) : ∃ M', F_X1_closeRounds 63 (nI s.2.2) M = zI (nI (zps S w s (S 0 0)).2.2) M' ∧ ((M' 63 3 = nI (zps S w s (S 0 0)).1 ∧ (zps S w s (S 0 0)).1 ≤ 8 ∧ ∀ j, j < S 0 0 → zbi (zps S w s (S 0 0)).2.2 j = false → M' 64 j = nI ((zps S w s (S 0 0)).2.1 j)) ∧ zoff [63, 64] M M') := by
  have h8 := so_n ho
  unfold F_X1_closeRounds
  refine zfor (i := 0) (f := zN) (a := M) (S 0 0) (fun f i (M1 : zM) => F_X1_closeRounds_L4 63 (nI s.2.2) (fun (y1 : Int32) (M6 : zM) => zI y1 M6) f (nI (zps S w s i).2.2) (nI i) M1) (fun i M1 => (M1 63 3 = nI (zps S w s i).1 ∧ (zps S w s i).1 ≤ 8 ∧ ∀ j, j < S 0 0 → zbi (zps S w s i).2.2 j = false → M1 64 j = nI ((zps S w s i).2.1 j)) ∧ zoff [63, 64] M M1) (fun o => ∃ M', o = zI (nI (zps S w s (S 0 0)).2.2) M' ∧ ((M' 63 3 = nI (zps S w s (S 0 0)).1 ∧ (zps S w s (S 0 0)).1 ≤ 8 ∧ ∀ j, j < S 0 0 → zbi (zps S w s (S 0 0)).2.2 j = false → M' 64 j = nI ((zps S w s (S 0 0)).2.1 j)) ∧ zoff [63, 64] M M')) ?_ ?_ (by omega) (zN_ge (by omega)) ⟨⟨h3, hlg, h64⟩, zoff_rfl⟩
  · rintro f i M1 hi ⟨⟨g3, glg, g64⟩, o1⟩
    refine Or.inr ?_
    obtain ⟨hS1, hW1⟩ := okx hS hW (zoff_mono o1 (by decide))
    obtain ⟨b1, b2⟩ := zps_b (S := S) (w := w) hs i (by omega)
    have ha1 : ∀ j, j < S 0 0 → M1 65 j = nI (zai S w s.2.2 j) := fun j hj => by rw [o1 65 (by decide)]; exact ha j hj
    have hrl := zrl_le (S := S) (w := w) (L := s.2.2) (i := i)
    have hai := zai_lt (w := w) (L := s.2.2) hi
    have hw : ∀ j, j < 8 → M1 41 j = nI (w.1 j) := hW1.1
    show ∃ M2, F_X1_closeRounds_L4 63 (nI s.2.2) _ (f + 1) _ _ M1 = F_X1_closeRounds_L4 63 (nI s.2.2) _ f _ _ M2 ∧ _
    rw [F_X1_closeRounds_L4, gr_63_0, sx_n hS1, zit_f (nI_ge hi (by omega)), zjo_eq, zps_s, rl_x ho hi ha1, zbI_I]
    cases hb : zbi s.2.2 i with
    | false =>
      rw [zit_f (by rw [bi_1 hs (by omega), hb]; decide), if_neg (fun z => absurd z.1 (by decide))]
      show ∃ M2, zjo _ _ = _ ∧ _
      rw [zjo_eq, zit_t (by decide), nI_1]
      exact ⟨M1, rfl, ⟨g3, glg, g64⟩, o1⟩
    | true =>
      rw [zit_t (by rw [bi_1 hs (by omega), hb])]
      show ∃ M2, zjo _ _ = _ ∧ _
      rw [zjo_eq]
      by_cases h0 : zrl S w s.2.2 i = 0
      · rw [h0, zit_t (by decide), if_neg (fun z => z.2 rfl), nI_1]
        exact ⟨M1, rfl, ⟨g3, glg, g64⟩, o1⟩
      · rw [zit_f (nI_nle (by omega) (by omega)), if_pos ⟨rfl, h0⟩, gr_63_4, gr_63_2, gr_63_1, gr_40_1, zin_k (k := i) (n := 8) (by omega) (by omega), zck_t, zix_k (k := i) (by omega), ha1 i hi, zin_k (k := zai S w s.2.2 i) (n := 8) (by omega) (by omega), zck_t, zck_t, zst_eq, zix_k (k := zai S w s.2.2 i) (by omega), hw _ (by omega), zst_eq, zup_ne (by omega), g3, z_max (by omega) (by omega), zlt_eq, bcl _ b1 i (by omega), nI_1]
        refine ⟨_, rfl, ⟨?_, ?_, fun j hj hz => ?_⟩, ?_⟩
        · rw [zup_row, upd_eq]
        · show max (zps S w s i).1 (zrl S w s.2.2 i) ≤ 8
          omega
        · rw [zup_ne (by omega), zup_row]
          show upd (M1 64) i (nI (w.1 (zai S w s.2.2 i))) j = nI (if j = i then w.1 (zai S w s.2.2 i) else (zps S w s i).2.1 j)
          by_cases e : j = i
          · rw [e, upd_eq, if_pos rfl]
          · rw [upd_ne e, if_neg e]
            refine g64 j hj ?_
            replace hz : zbi (zcb (zps S w s i).2.2 i) j = false := hz
            rw [zcb_b _ b1 i (by omega) j (by omega), decide_eq_false e, Bool.not_false, Bool.and_true] at hz
            exact hz
        · exact zoff_up (zoff_up o1 (by decide)) (by decide)
  · rintro f M1 ⟨g, o1⟩
    obtain ⟨hS1, hW1⟩ := okx hS hW (zoff_mono o1 (by decide))
    show ∃ M', F_X1_closeRounds_L4 63 (nI s.2.2) _ (f + 1) _ _ M1 = _ ∧ _
    rw [F_X1_closeRounds_L4, gr_63_0, sx_n hS1, zit_t (nI_le (Nat.le_refl _) (by omega))]
    exact ⟨M1, rfl, g, o1⟩
theorem go_x {M : zM} (hS : zSx S M) (ho : zSok S) (hW : zWx 40 w M) (hk : zWok S w) (G0 : Nat → Nat) : ∃ M', F_X1_goRound 63 M = zV M' ∧ ((M' 63 3 = nI (zrs S w 8 (0, G0, 2 ^ S 0 0 - 1)).1 ∧ ∀ j, j < S 0 0 → M' 64 j = nI ((zrs S w 8 (0, G0, 2 ^ S 0 0 - 1)).2.1 j)) ∧ zoff [63, 64, 65] M M') := by
  have h8 := so_n ho
  obtain ⟨F, hF⟩ : ∃ F, zrs S w 8 (0, G0, 2 ^ S 0 0 - 1) = F := ⟨_, rfl⟩
  have hF0 : F.2.2 = 0 := by
    rw [← hF]
    refine zrs_end h8 8 _ (bfull_lt _ (by omega)) (fun j hj hz => ?_) (zcu_le _ _)
    exact of_decide_eq_true ((bfull_b _ (by omega) j hj).symm.trans hz)
  rw [hF]
  unfold F_X1_goRound
  rw [zst_eq, zlt_eq, gr_63_0, zup_ne (by omega), sx_n hS, bfull _ (by omega)]
  refine zfor (α := (Nat × (Nat → Nat) × Nat) × zM) (i := 0) (f := zN) (a := ((0, G0, 2 ^ S 0 0 - 1), zup M 63 3 0)) 8 (fun f it p => F_X1_goRound_L19 63 (fun (M4 : zM) => zV M4) f (nI p.1.2.2) (nI it) p.2) (fun it p => zrs S w (8 - it) p.1 = F ∧ p.1.2.2 < 256 ∧ p.1.1 ≤ 8 ∧ (p.2 63 3 = nI p.1.1 ∧ ∀ j, j < S 0 0 → zbi p.1.2.2 j = false → p.2 64 j = nI (p.1.2.1 j)) ∧ zoff [63, 64, 65] M p.2) (fun o => ∃ M', o = zV M' ∧ ((M' 63 3 = nI F.1 ∧ ∀ j, j < S 0 0 → M' 64 j = nI (F.2.1 j)) ∧ zoff [63, 64, 65] M M')) ?_ ?_ (by omega) (zN_ge (by omega)) ⟨hF, bfull_lt _ (by omega), Nat.zero_le _, ⟨(show zup M 63 3 0 63 3 = nI 0 from by rw [zup_row, upd_eq]; rfl), fun j hj hz => ?_⟩, zoff_up zoff_rfl (by decide)⟩
  · rintro f it ⟨s, M1⟩ hit ⟨hR, hs, hlg, ⟨g3, g64⟩, o1⟩
    simp only at hR hs hlg g3 g64 o1
    obtain ⟨hS1, hW1⟩ := okx hS hW (zoff_mono o1 (by decide))
    obtain ⟨c, hc⟩ : ∃ c, 8 - it = c + 1 := ⟨8 - it - 1, by omega⟩
    rw [hc] at hR
    replace hR : (if s.2.2 = 0 then s else zrs S w c (zps S w s (S 0 0))) = F := hR
    show (∃ M', F_X1_goRound_L19 63 _ (f + 1) (nI s.2.2) (nI it) M1 = _ ∧ _) ∨ ∃ a' : (Nat × (Nat → Nat) × Nat) × zM, F_X1_goRound_L19 63 _ (f + 1) (nI s.2.2) (nI it) M1 = F_X1_goRound_L19 63 _ f (nI a'.1.2.2) (nI (it + 1)) a'.2 ∧ _
    rw [F_X1_goRound_L19, zit_f (show ¬ (8 : Int32) ≤ nI it from nI_ge (b := 8) hit (by omega))]
    by_cases h0 : s.2.2 = 0
    · rw [if_pos h0] at hR
      rw [zit_t (by rw [h0]; rfl)]
      subst hR
      exact Or.inl ⟨M1, rfl, ⟨g3, fun j hj => g64 j hj (by rw [h0]; exact bzero_b j)⟩, o1⟩
    · rw [if_neg h0] at hR
      rw [zit_f (nI_ne0 (by omega) (by omega))]
      obtain ⟨M2, e2, ha2, o2⟩ := am_x hS1 ho hW1 hk (w := w) hs
      rw [e2, zbV_V]
      obtain ⟨hS2, hW2⟩ := okx hS1 hW1 (zoff_mono o2 (by decide))
      obtain ⟨M3, e3, ⟨k3, klg, k64⟩, o3⟩ := cr_x hS2 ho hW2 hk s hs hlg ha2 (by rw [o2 63 (by decide)]; exact g3) (by rw [o2 64 (by decide)]; exact g64)
      rw [e3, zbI_I, nI_1]
      exact Or.inr ⟨(zps S w s (S 0 0), M3), rfl, by rw [show 8 - (it + 1) = c from by omega]; exact hR, (zps_b (S := S) (w := w) hs (S 0 0) h8).1, klg, ⟨k3, k64⟩, zoff_trans o1 (zoff_trans (zoff_mono o2 (by decide)) (zoff_mono o3 (by decide)))⟩
  · rintro f ⟨s, M1⟩ ⟨hR, hs, hlg, ⟨g3, g64⟩, o1⟩
    simp only at hR hs hlg g3 g64 o1
    replace hR : s = F := hR
    subst hR
    show ∃ M', F_X1_goRound_L19 63 _ (f + 1) (nI s.2.2) (nI 8) M1 = _ ∧ _
    rw [F_X1_goRound_L19, zit_t (by decide)]
    exact ⟨M1, rfl, ⟨g3, fun j hj => g64 j hj (by rw [hF0]; exact bzero_b j)⟩, o1⟩
  · simp only at hz
    rw [bfull_b _ (by omega) j (by omega), decide_eq_true hj] at hz
    cases hz
end ZRO
