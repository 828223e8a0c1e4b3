/-! round, the reference's -/
section ZRM
variable {S : zSD} {w : zWD}
theorem okm {M M' : zM} (hS : zSm S M) (hW : zWr (M 102) 0 w) (o : zoff [107, 108] M M') : zSm S M' ∧ zWr (M' 102) 0 w := by
  refine ⟨zSm_off hS (fun z _ => by rw [o 79 (by decide)]) (fun i hi => o i (fun hz => by
    simp only [List.mem_cons, List.mem_nil_iff, or_false] at hi hz
    omega)), ?_⟩
  rw [o 102 (by decide)]
  exact hW
theorem po_m {M : zM} (hS : zSm S M) (ho : zSok S) (hW : zWr (M 102) 0 w) (hk : zWok S w) {L i : Nat} (hL : L < 256) (hi : i < S 0 0) : F_X12_pointsTo 79 (nI i) (nI L) M = zI (nI (zai S w L i)) M := by
  have h8 := so_n ho
  have hw := wr_n hW
  unfold F_X12_pointsTo
  refine zfor (i := 0) (f := zN) (a := ()) (S 0 0) (fun f k (_ : Unit) => F_X12_pointsTo_L5 79 (nI i) (nI L) (fun (y1 : Int32) (M3 : zM) => zI y1 M3) f (nI (zam S w L i k)) (nI k) M) (fun _ _ => True) (fun o => o = _) ?_ ?_ (by omega) (zN_ge (by omega)) trivial
  · rintro f k _ hkk -
    refine Or.inr ⟨(), ?_, trivial⟩
    have hlt := zam_lt (S := S) (w := w) (L := L) hi k (by omega)
    show F_X12_pointsTo_L5 79 (nI i) (nI L) _ (f + 1) _ _ M = F_X12_pointsTo_L5 79 (nI i) (nI L) _ f _ _ M
    rw [zam_s, F_X12_pointsTo_L5, sm_n hS, zit_f (nI_ge hkk (by omega)), zjo_eq, nI_1]
    cases hb : zbi L k with
    | false =>
      rw [zit_f (by rw [bi_1 hL (by omega), hb]; decide), if_neg (fun z => absurd z.1 (by decide))]
    | true =>
      rw [zit_t (by rw [bi_1 hL (by omega), hb]), gr_79_47, zin_k (k := k) (n := 73) (by omega) (by omega), zck_t, zin_k (k := zam S w L i k) (n := 73) (by omega) (by omega), zck_t, zix_k (k := k) (by omega), zix_k (k := zam S w L i k) (by omega), hw k (by omega), hw _ (by omega), lk_m hS ho hW hk hi (wo_n hk k hkk) (wo_n hk _ hlt), zbI_I]
      cases hz : zlk S w i (w.1 k) (w.1 (zam S w L i k)) with
      | false => rw [if_neg (by decide), zit_t (by decide), if_neg (fun z => absurd z.2 (by decide))]
      | true => rw [if_pos rfl, zit_f (by decide), if_pos ⟨rfl, rfl⟩]
  · rintro f _ -
    show F_X12_pointsTo_L5 79 (nI i) (nI L) _ (f + 1) _ _ M = _
    rw [F_X12_pointsTo_L5, sm_n hS, zit_t (nI_le (Nat.le_refl _) (by omega))]
    rfl
theorem rl_m {M : zM} (hS : zSm S M) (ho : zSok S) (hW : zWr (M 102) 0 w) (hk : zWok S w) {L a : Nat} (hL : L < 256) (ha : a < S 0 0) (x1 x3 x4 : Int32) (K : Int32 → Int32 → zM → zO) : (zrl S w L a ≠ 0 ∧ F_X12_round_L69 79 x1 (nI L) x3 x4 (nI a) K zN 0 (nI a) M = K (nI (zrl S w L a)) (nI a) M) ∨ (zrl S w L a = 0 ∧ ∃ y b, b ≠ a ∧ b < 8 ∧ F_X12_round_L69 79 x1 (nI L) x3 x4 (nI a) K zN 0 (nI a) M = K y (nI b) M) := by
  have h8 := so_n ho
  have hlt : ∀ k, zorb (zai S w L) a k < S 0 0 := zorb_lt (fun j hj => zai_lt hj) ha
  refine zwhl (fun f c => F_X12_round_L69 79 x1 (nI L) x3 x4 (nI a) K f (nI c) (nI (zorb (zai S w L) a c)) M) (fun d c => c + d = S 0 0 ∧ ∀ k, 1 ≤ k → k ≤ c → zorb (zai S w L) a k ≠ a) (fun o => (zrl S w L a ≠ 0 ∧ o = K (nI (zrl S w L a)) (nI a) M) ∨ (zrl S w L a = 0 ∧ ∃ y b, b ≠ a ∧ b < 8 ∧ o = K y (nI b) M)) ?_ (S 0 0) zN 0 (zN_ge (by omega)) ⟨by omega, fun k h1 h2 => by omega⟩
  rintro f d c ⟨hd, hl⟩
  have hc := hlt c
  have hc1 := hlt (c + 1)
  have key : F_X12_round_L69 79 x1 (nI L) x3 x4 (nI a) K (f + 1) (nI c) (nI (zorb (zai S w L) a c)) M = zit (nI (zorb (zai S w L) a (c + 1)) = nI a) (K (nI (c + 1)) (nI (zorb (zai S w L) a (c + 1))) M) (zit (nI (c + 1) ≤ nI (S 0 0)) (F_X12_round_L69 79 x1 (nI L) x3 x4 (nI a) K f (nI (c + 1)) (nI (zorb (zai S w L) a (c + 1))) M) (K (nI (c + 1)) (nI (zorb (zai S w L) a (c + 1))) M)) := by
    rw [F_X12_round_L69, po_m hS ho hW hk hL hc, zbI_I, sm_n hS, nI_1]
    rfl
  show (_ ∧ F_X12_round_L69 79 x1 (nI L) x3 x4 (nI a) K (f + 1) (nI c) (nI (zorb (zai S w L) a c)) M = _ ∨ _ ∧ ∃ y b, b ≠ a ∧ b < 8 ∧ F_X12_round_L69 79 x1 (nI L) x3 x4 (nI a) K (f + 1) (nI c) (nI (zorb (zai S w L) a c)) M = _) ∨ ∃ d' c', d' < d ∧ F_X12_round_L69 79 x1 (nI L) x3 x4 (nI a) K (f + 1) (nI c) (nI (zorb (zai S w L) a c)) M = F_X12_round_L69 79 x1 (nI L) x3 x4 (nI a) K f (nI c') (nI (zorb (zai S w L) a c')) M ∧ _
  rw [key]
  by_cases e : zorb (zai S w L) a (c + 1) = a
  · have hz : zrl S w L a = c + 1 := zrl_is ha (by omega) e (fun k h1 h2 => hl k h1 (by omega))
    rw [zit_t (by rw [e]), e, hz]
    exact Or.inl (Or.inl ⟨by omega, rfl⟩)
  · rw [zit_f (fun z => e ((nI_eq (by omega) (by omega)).mp z))]
    have hl' : ∀ k, 1 ≤ k → k ≤ c + 1 → zorb (zai S w L) a k ≠ a := fun k h1 h2 => by
      by_cases ek : k = c + 1
      · rw [ek]; exact e
      · exact hl k h1 (by omega)
    by_cases hd0 : d = 0
    · rw [zit_f (nI_ge (by omega) (by omega))]
      exact Or.inl (Or.inr ⟨zrl_no (fun k h1 h2 => hl k h1 (by omega)), _, _, e, by omega, rfl⟩)
    · rw [zit_t (nI_le (by omega) (by omega))]
      exact Or.inr ⟨d - 1, c + 1, by omega, rfl, by omega, hl'⟩
theorem pa_m {M : zM} (hS : zSm S M) (ho : zSok S) (hW : zWr (M 102) 0 w) (hk : zWok S w) (s : Nat × (Nat → Nat) × Nat) (hs : s.2.2 < 256) (hlg : s.1 ≤ 8) (h107 : ∀ j, j < S 0 0 → zbi s.2.2 j = false → M 107 j = nI (s.2.1 j)) (x1 : Int32) (K : Int32 → Int32 → zM → zO) : ∃ M' gone, F_X12_round_L41 79 x1 (nI s.2.2) K zN (nI s.1) 0 0 M = K (nI (zps S w s (S 0 0)).1) gone M' ∧ nI s.2.2 &&& (gone ^^^ (-1)) = nI (zps S w s (S 0 0)).2.2 ∧ (zps S w s (S 0 0)).1 ≤ 8 ∧ (∀ j, j < S 0 0 → zbi (zps S w s (S 0 0)).2.2 j = false → M' 107 j = nI ((zps S w s (S 0 0)).2.1 j)) ∧ zoff [107] M M' := by
  have h8 := so_n ho
  refine zfor (α := Int32 × zM) (i := 0) (f := zN) (a := (0, M)) (S 0 0) (fun f i p => F_X12_round_L41 79 x1 (nI s.2.2) K f (nI (zps S w s i).1) p.1 (nI i) p.2) (fun i p => nI s.2.2 &&& (p.1 ^^^ (-1)) = nI (zps S w s i).2.2 ∧ (zps S w s i).1 ≤ 8 ∧ (∀ j, j < S 0 0 → zbi (zps S w s i).2.2 j = false → p.2 107 j = nI ((zps S w s i).2.1 j)) ∧ zoff [107] M p.2) (fun o => ∃ M' gone, o = K (nI (zps S w s (S 0 0)).1) gone M' ∧ nI s.2.2 &&& (gone ^^^ (-1)) = nI (zps S w s (S 0 0)).2.2 ∧ (zps S w s (S 0 0)).1 ≤ 8 ∧ (∀ j, j < S 0 0 → zbi (zps S w s (S 0 0)).2.2 j = false → M' 107 j = nI ((zps S w s (S 0 0)).2.1 j)) ∧ zoff [107] M M') ?_ ?_ (by omega) (zN_ge (by omega)) ⟨bgone0 _, hlg, h107, zoff_rfl⟩
  · rintro f i ⟨gone, M1⟩ hi ⟨hg, glg, g107, o1⟩
    simp only at hg glg g107 o1
    refine Or.inr ?_
    obtain ⟨hS1, hW1⟩ := okm hS hW (zoff_mono o1 (by decide))
    obtain ⟨b1, b2⟩ := zps_b (S := S) (w := w) hs i (by omega)
    have hrl := zrl_le (S := S) (w := w) (L := s.2.2) (i := i)
    have hai := zai_lt (w := w) (L := s.2.2) hi
    have hw := wr_n hW1
    show ∃ p' : Int32 × zM, F_X12_round_L41 79 x1 (nI s.2.2) K (f + 1) _ gone _ M1 = F_X12_round_L41 79 x1 (nI s.2.2) K f _ p'.1 _ p'.2 ∧ _
    rw [F_X12_round_L41, sm_n hS1, zit_f (nI_ge hi (by omega)), zjo_eq, zps_s, nI_1]
    cases hb : zbi s.2.2 i with
    | false =>
      rw [zit_t (by rw [bi_0 hs (by omega), hb]), if_neg (fun z => absurd z.1 (by decide))]
      exact ⟨(gone, M1), rfl, hg, glg, g107, o1⟩
    | true =>
      rw [zit_f (by rw [bi_0 hs (by omega), hb]; decide)]
      rcases rl_m hS1 ho hW1 hk hs hi x1 (nI (zps S w s i).1) gone (fun (y1 : Int32) (y2 : Int32) (M5 : zM) => zit (y2 = nI i) (zbI (F_X12_pointsTo 79 (nI i) (nI s.2.2) M5) (fun r3 M6 => zck (zin r3 73) (zck (zin (nI i) 8) (zst (zup M6 (zgr 79 53) (zix (nI i)) (M6 (zgr 79 47) (zix r3))) (fun M7 => zlt (gone ||| ((1 : Int32) <<< (nI i &&& 31))) (fun v2 => zjo (fun (w1 : Int32) (M8 : zM) => (fun (w2 : Int32) (w3 : Int32) (M9 : zM) => F_X12_round_L41 79 x1 (nI s.2.2) K f w2 w3 (nI (i + 1)) M9) w1 v2 M8) (fun (k3 : Int32 → zM → zO) => zit (y1 ≤ nI (zps S w s i).1) (k3 (nI (zps S w s i).1) M7) (k3 y1 M7)))))))) ((fun (w2 : Int32) (w3 : Int32) (M9 : zM) => F_X12_round_L41 79 x1 (nI s.2.2) K f w2 w3 (nI (i + 1)) M9) (nI (zps S w s i).1) gone M5)) with ⟨h0, e⟩ | ⟨h0, y, b, hne, hb8, e⟩
      · rw [e, if_pos ⟨rfl, h0⟩, zit_t rfl, po_m hS1 ho hW1 hk hs hi, zbI_I, zin_k (k := zai S w s.2.2 i) (n := 73) (by omega) (by omega), zck_t, zin_k (k := i) (n := 8) (by omega) (by omega), zck_t, zst_eq, zlt_eq, zjo_eq, gr_79_53, gr_79_47, zix_k (k := i) (by omega), zix_k (k := zai S w s.2.2 i) (by omega), hw _ (by omega)]
        refine ⟨(gone ||| ((1 : Int32) <<< (nI i &&& 31)), zup M1 107 i (nI (w.1 (zai S w s.2.2 i)))), ?_, bgone (L := s.2.2) (g := 0) b1 (by omega) hg, ?_, fun j hj hz => ?_, zoff_up o1 (by decide)⟩
        · show _ = F_X12_round_L41 79 x1 (nI s.2.2) K f (nI (max (zps S w s i).1 (zrl S w s.2.2 i))) _ _ _
          by_cases hm : zrl S w s.2.2 i ≤ (zps S w s i).1
          · rw [zit_t (nI_le hm (by omega)), Nat.max_eq_left hm]
          · rw [zit_f (nI_ge (by omega) (by omega)), Nat.max_eq_right (by omega)]
        · show max (zps S w s i).1 (zrl S w s.2.2 i) ≤ 8
          omega
        · show zup M1 107 i (nI (w.1 (zai S w s.2.2 i))) 107 j = nI (if j = i then w.1 (zai S w s.2.2 i) else (zps S w s i).2.1 j)
          rw [zup_row]
          by_cases e : j = i
          · rw [e, upd_eq, if_pos rfl]
          · rw [upd_ne e, if_neg e]
            refine g107 j hj ?_
            replace hz : zbi (zcb (zps S w s i).2.2 i) j = false := hz
            rw [zcb_b _ b1 i (by omega) j (by omega), decide_eq_false e, Bool.not_false, Bool.and_true] at hz
            exact hz
      · rw [e, if_neg (fun z => z.2 h0), zit_f (fun z => hne ((nI_eq (by omega) (by omega)).mp z))]
        exact ⟨(gone, M1), rfl, hg, glg, g107, o1⟩
  · rintro f ⟨gone, M1⟩ ⟨hg, glg, g107, o1⟩
    simp only at hg glg g107 o1
    obtain ⟨hS1, hW1⟩ := okm hS hW (zoff_mono o1 (by decide))
    show ∃ M' gone', F_X12_round_L41 79 x1 (nI s.2.2) K (f + 1) _ gone _ M1 = _ ∧ _
    rw [F_X12_round_L41, sm_n hS1, zit_t (nI_le (Nat.le_refl _) (by omega))]
    exact ⟨M1, gone, rfl, hg, glg, g107, o1⟩
theorem go_m {M : zM} (hS : zSm S M) (ho : zSok S) (hW : zWr (M 102) 0 w) (hk : zWok S w) (G0 : Nat → Nat) (x1 : Int32) (K : Int32 → zM → zO) : ∃ M', F_X12_round_L31 79 x1 K zN (nI (2 ^ S 0 0 - 1)) 0 M = K (nI (zrs S w 8 (0, G0, 2 ^ S 0 0 - 1)).1) M' ∧ (∀ j, j < S 0 0 → M' 107 j = nI ((zrs S w 8 (0, G0, 2 ^ S 0 0 - 1)).2.1 j)) ∧ zoff [107] M M' := by
  have h8 := so_n ho
  obtain ⟨F, hF⟩ : ∃ F, zrs S w 8 (0, G0, 2 ^ S 0 0 - 1) = F := ⟨_, rfl⟩
  rw [hF]
  refine zwhl (α := (Nat × (Nat → Nat) × Nat) × zM) (fun f p => F_X12_round_L31 79 x1 K f (nI p.1.2.2) (nI p.1.1) p.2) (fun d p => zrs S w d p.1 = F ∧ zcu (zbi p.1.2.2) 8 ≤ d ∧ p.1.2.2 < 256 ∧ (∀ j, j < 8 → zbi p.1.2.2 j = true → j < S 0 0) ∧ p.1.1 ≤ 8 ∧ (∀ j, j < S 0 0 → zbi p.1.2.2 j = false → p.2 107 j = nI (p.1.2.1 j)) ∧ zoff [107] M p.2) (fun o => ∃ M', o = K (nI F.1) M' ∧ (∀ j, j < S 0 0 → M' 107 j = nI (F.2.1 j)) ∧ zoff [107] M M') ?_ 8 zN ((0, G0, 2 ^ S 0 0 - 1), M) (zN_ge (by omega)) ⟨hF, zcu_le _ _, bfull_lt _ (by omega), fun j hj hz => of_decide_eq_true ((bfull_b _ (by omega) j hj).symm.trans hz), Nat.zero_le _, fun j hj hz => ?_, zoff_rfl⟩
  · rintro f d ⟨s, M1⟩ ⟨hR, hc, hs, hb, hlg, g107, o1⟩
    simp only at hR hc hs hb hlg g107 o1
    obtain ⟨hS1, hW1⟩ := okm hS hW (zoff_mono o1 (by decide))
    show (∃ M', F_X12_round_L31 79 x1 K (f + 1) (nI s.2.2) (nI s.1) M1 = _ ∧ _) ∨ ∃ d' p', d' < d ∧ F_X12_round_L31 79 x1 K (f + 1) (nI s.2.2) (nI s.1) M1 = _ ∧ _
    rw [F_X12_round_L31]
    by_cases h0 : s.2.2 = 0
    · have hsF : s = F := by
        cases d with
        | zero => exact hR
        | succ d =>
          replace hR : (if s.2.2 = 0 then s else zrs S w d (zps S w s (S 0 0))) = F := hR
          rw [if_pos h0] at hR
          exact hR
      subst hsF
      rw [zit_t (by rw [h0]; rfl)]
      exact Or.inl ⟨M1, rfl, fun j hj => g107 j hj (by rw [h0]; exact bzero_b j), o1⟩
    · rw [zit_f (nI_ne0 (by omega) (by omega))]
      have hless := zrs_less (w := w) h8 hs hb h0
      obtain ⟨g1, g2⟩ := zps_in (w := w) h8 hs hb
      obtain ⟨d, rfl⟩ : ∃ c, d = c + 1 := ⟨d - 1, by omega⟩
      replace hR : (if s.2.2 = 0 then s else zrs S w d (zps S w s (S 0 0))) = F := hR
      rw [if_neg h0] at hR
      obtain ⟨M2, gone, e2, hg, klg, k107, o2⟩ := pa_m hS1 ho hW1 hk s hs hlg g107 x1 (fun (y3 : Int32) (y4 : Int32) (M10 : zM) => zlt (nI s.2.2 &&& (y4 ^^^ (-1))) (fun v3 => F_X12_round_L31 79 x1 K f v3 y3 M10))
      rw [e2, zlt_eq, hg]
      exact Or.inr ⟨d, (zps S w s (S 0 0), M2), by omega, rfl, hR, by simp only; omega, g1, g2, klg, k107, zoff_trans o1 o2⟩
  · simp only at hz
    rw [bfull_b _ (by omega) j (by omega), decide_eq_true hj] at hz
    cases hz
end ZRM
theorem op_round (q : zSt) (ho : zok q) (a : Int32) : zOp 1 (F_X11_round 0 a) (F_X12_round 79 a) zNSE zIAE q := by
  have hn := qo_n ho
  have hY : ∀ M, F_X12_round 79 a M = F_X12_round 79 a (zup M 79 0 0) := fun M => by unfold F_X12_round; rw [zup_idem]
  have main : (a = -1 ∨ ∃ i, i < tS q 0 0 ∧ a = nI i) → zOp 1 (F_X11_round 0 a) (F_X12_round 79 a) zNSE zIAE q := fun hc => by
    refine zop_self hY (zop0_ret (r := if a = -1 then nI (zrs (tS q) (tW q) 8 (0, fun _ => 0, 2 ^ tS q 0 0 - 1)).1 else nI ((zrs (tS q) (tW q) 8 (0, fun _ => 0, 2 ^ tS q 0 0 - 1)).2.1 (zix a))) (fun M h => ?_) (fun M h h0 => ?_))
    · have c1 : F_X11_needIsleOrNone 0 a M = zV M := by
        unfold F_X11_needIsleOrNone
        rw [zjo_eq]
        rcases hc with rfl | ⟨i, hi, rfl⟩
        · rw [zit_t rfl]
        · rw [zit_f (nI_n1 (by omega)), px_isle_in (sx_n (qx_S h)) hn hi, zbV_V]
      unfold F_X11_round
      rw [c1, zbV_V, gr_0_9]
      obtain ⟨M1, e1, ⟨g3, g64⟩, o1⟩ := go_x (qx_S h) (qo_S ho) (qx_W h) (qo_W ho) (fun _ => 0)
      rw [e1, zbV_V, zjo_eq]
      rcases hc with rfl | ⟨i, hi, rfl⟩
      · rw [zit_t rfl, if_pos rfl, g3]
        exact ⟨M1, rfl, zoff_mono o1 (by decide)⟩
      · rw [zit_f (nI_n1 (by omega)), if_neg (nI_n1 (by omega)), zin_k (k := i) (n := 8) (by omega) (by omega), zck_t, gr_63_2, zix_k (k := i) (by omega), g64 i hi]
        exact ⟨M1, rfl, zoff_mono o1 (by decide)⟩
    · unfold F_X12_round
      rw [zst_eq, zup_same h0, zjo_eq]
      have c2 : ∀ (A : zO) (B : Int32 → zM → zO), B 1 M = A → zit (a = (-1)) A (zbI (F_X12_isOne 79 a M) B) = A := fun A B hB => by
        rcases hc with rfl | ⟨i, hi, rfl⟩
        · rw [zit_t rfl]
        · rw [zit_f (nI_n1 (by omega)), pm_one_in h0 (sm_n (qm_S h)) hn hi, zbI_I, hB]
      dsimp only
      rw [c2 _ _ (zit_f (by decide)), sm_n (qm_S h), bfull _ (by omega), zlt_eq]
      obtain ⟨M1, e1, g107, o1⟩ := go_m (qm_S h) (qo_S ho) (qm_W h) (qo_W ho) (fun _ => 0) a (fun (y5 : Int32) (M11 : zM) => zjo (fun (w4 : Int32) (M12 : zM) => zI w4 M12) (fun (k4 : Int32 → zM → zO) => zit (a = (-1)) (k4 y5 M11) (zck (zin a 8) (k4 (M11 (zgr 79 53) (zix a)) M11))))
      rw [e1, zjo_eq]
      rcases hc with rfl | ⟨i, hi, rfl⟩
      · rw [zit_t rfl, if_pos rfl]
        exact ⟨M1, rfl, zoff_mono o1 (by decide)⟩
      · rw [zit_f (nI_n1 (by omega)), if_neg (nI_n1 (by omega)), zin_k (k := i) (n := 8) (by omega) (by omega), zck_t, gr_79_53, zix_k (k := i) (by omega), g107 i hi]
        exact ⟨M1, rfl, zoff_mono o1 (by decide)⟩
  by_cases hc : a = -1
  · exact main (Or.inl hc)
  · rcases zci hn a with ⟨i, hi, e⟩ | ho'
    · exact main (Or.inr ⟨i, hi, e⟩)
    · refine zop_rf hY 1 (Or.inl rfl) (by omega) (fun M h => ?_) (fun M h h0 => ⟨0, ?_⟩)
      · unfold F_X11_round F_X11_needIsleOrNone
        rw [zjo_eq, zit_f hc, px_isle_out (sx_n (qx_S h)) ho', zbV_E, zbV_E]
        rfl
      · unfold F_X12_round
        rw [zst_eq, zup_same h0, zjo_eq, zit_f hc, pm_one_out h0 (sm_n (qm_S h)) ho', zbI_I]
        rfl
