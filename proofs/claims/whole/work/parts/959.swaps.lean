/-! SWAPS -/
section ZSP
variable {S : zSD} {L : zLw} {w : zWD} {M0 : zM}
theorem b2_m (env : ∀ M, zBr M0 M → zSm S M ∧ zLm L M) (ho : zSok S) (hl : zLok L) (hn : S 0 0 ≤ 6) {g wh : Nat} (hgl : g < 2 ^ 31) (hwh : wh ≤ 1) {k : Nat} (hk7 : k < 720) {Q0 Q7 : List zQe} (hQ0 : zQo (S 0 0) Q0) (hQ7 : zQo (S 0 0) Q7) (hk : k < Q0.length) {e : zQe} (he : Q0.getD k (0, 0, 0) = e) (hin : ∀ z ∈ zgo S L w e Q0 (zpr (S 0 0)), z ∈ Q7) (K : Int32 → zM → zO) {M1 : zM} (hI : zMj S w M0 g e.1 Q0 M1) :
    (∃ M', F_X12_swaps_L171 79 (nI g) (nI wh) (nI k) K zN (nI Q0.length) 0 M1 = zI (zsr Q7 g (decide (wh = 0))) M' ∧ zBr M0 M') ∨
    (∃ M', F_X12_swaps_L171 79 (nI g) (nI wh) (nI k) K zN (nI Q0.length) 0 M1 = K (nI (zgo S L w e Q0 (zpr (S 0 0))).length) M' ∧ zMj S w M0 g e.1 (zgo S L w e Q0 (zpr (S 0 0))) M') := by
  refine zfor (i := 0) (f := zN) (a := M1) (S 0 0) (fun f a (M2 : zM) => F_X12_swaps_L171 79 (nI g) (nI wh) (nI k) K f (nI (zgo S L w e Q0 (zpo (S 0 0) a)).length) (nI a) M2) (fun a M2 => zMj S w M0 g e.1 (zgo S L w e Q0 (zpo (S 0 0) a)) M2) (fun o => (∃ M', o = zI (zsr Q7 g (decide (wh = 0))) M' ∧ zBr M0 M') ∨ (∃ M', o = K (nI (zgo S L w e Q0 (zpr (S 0 0))).length) M' ∧ zMj S w M0 g e.1 (zgo S L w e Q0 (zpr (S 0 0))) M')) ?_ ?_ (by omega) (zN_ge (by omega)) hI
  · rintro f a M2 ha hI2
    have eq : F_X12_swaps_L171 79 (nI g) (nI wh) (nI k) K (f + 1) (nI (zgo S L w e Q0 (zpo (S 0 0) a)).length) (nI a) M2 = F_X12_swaps_L186 79 (nI g) (nI wh) (nI k) (nI a) (fun (y1 : Int32) (M26 : zM) => F_X12_swaps_L171 79 (nI g) (nI wh) (nI k) K f y1 (nI (a + 1)) M26) zN (nI (zgo S L w e Q0 (zpo (S 0 0) a)).length) (nI (a + 1)) M2 := by
      rw [F_X12_swaps_L171, sm_n (env M2 hI2.2.1).1, zit_f (nI_ge ha (by omega)), zlt_eq, nI_1]
    rcases b1_m env ho hl hn hgl hwh hk7 hQ0 hQ7 hk he hin ha (fun (y1 : Int32) (M26 : zM) => F_X12_swaps_L171 79 (nI g) (nI wh) (nI k) K f y1 (nI (a + 1)) M26) hI2 with ⟨M', e', r'⟩ | ⟨M', e', r'⟩
    · exact Or.inl (Or.inl ⟨M', eq.trans e', r'⟩)
    · exact Or.inr ⟨M', eq.trans e', r'⟩
  · rintro f M2 hI2
    refine Or.inr ?_
    show ∃ M', F_X12_swaps_L171 79 (nI g) (nI wh) (nI k) K (f + 1) _ _ M2 = _ ∧ _
    rw [F_X12_swaps_L171, sm_n (env M2 hI2.2.1).1, zit_t (nI_le (Nat.le_refl _) (by omega))]
    rw [← zpr_eq] at hI2 ⊢
    exact ⟨M2, rfl, hI2⟩
theorem b3_m (env : ∀ M, zBr M0 M → zSm S M ∧ zLm L M) (ho : zSok S) (hl : zLok L) (hwk : zWok S w) (hn : S 0 0 ≤ 6) {g wh : Nat} (hgl : g < 2 ^ 31) (hwh : wh ≤ 1) {M1 : zM} (h1 : ∀ z ∈ zbq S L w 0, z.1 ≠ g) (r1 : zBr M0 M1) (q1 : zMq (S 0 0) (zbq S L w 0) M1) (p1 : ∃ p : Nat → Nat, zWr (M1 103) 0 (p, w.2.1, w.2.2)) : ∃ M', F_X12_swaps_L146 79 (nI g) (nI wh) (fun (M28 : zM) => zI (-1) M28) zN 1 0 M1 = zI (zsr (zbq S L w 720) g (decide (wh = 0))) M' ∧ zBr M0 M' := by
  have hQ7 := zbq_ok (L := L) (by omega) hwk 720
  refine zfor (i := 0) (f := zN) (a := M1) 720 (fun f k (M2 : zM) => F_X12_swaps_L146 79 (nI g) (nI wh) (fun (M28 : zM) => zI (-1) M28) f (nI (zbq S L w k).length) (nI k) M2) (fun k M2 => (∀ z ∈ zbq S L w k, z.1 ≠ g) ∧ zBr M0 M2 ∧ zMq (S 0 0) (zbq S L w k) M2 ∧ ∃ p : Nat → Nat, zWr (M2 103) 0 (p, w.2.1, w.2.2)) (fun o => ∃ M', o = zI (zsr (zbq S L w 720) g (decide (wh = 0))) M' ∧ zBr M0 M') ?_ ?_ (by omega) (zN_ge (by omega)) ⟨h1, r1, q1, p1⟩
  · rintro f k M2 hk7 ⟨c1, c2, c3, p, c4⟩
    have hQ := zbq_ok (L := L) (by omega) hwk k
    have hQl := zQo_len hn hQ
    rcases Nat.lt_or_ge k (zbq S L w k).length with hlt | hge
    · have hbs := zbq_s hlt
      have hin : ∀ z ∈ zbq S L w (k + 1), z ∈ zbq S L w 720 := fun z hz => zbq_in (by omega) hz
      have heQ := getD_in (0, 0, 0) (zbq S L w k) k hlt
      obtain ⟨e, he⟩ : ∃ e, (zbq S L w k).getD k (0, 0, 0) = e := ⟨_, rfl⟩
      rw [he] at hbs heQ
      have hA := hQ.1 e heQ
      have hAl := hA.1
      have h8 := pow8 (n := S 0 0) (by omega)
      have e110 := (c3.1 k hlt).1
      rw [he] at e110
      obtain ⟨M3, e3, n1, n2, o3⟩ := no_m (env M2 c2).1 (by omega) (c := e.1) (by omega)
      have r3 : zBr M0 M3 := zBr_of c2 o3 (by decide)
      have q3 : zMq (S 0 0) (zbq S L w k) M3 := zMq_off c3 (o3 79 (by decide)) (o3 109 (by decide)) (o3 110 (by decide)) (o3 111 (by decide)) (o3 112 (by decide))
      have w3 : zWr (M3 103) 0 ((fun i => if i < S 0 0 then zfg e.1 i else p i), w.2.1, w.2.2) := by
        refine ⟨fun i hi => ?_, fun j hj => ?_, ?_⟩
        · rw [Nat.zero_add]
          show M3 103 i = nI (if i < S 0 0 then zfg e.1 i else p i)
          by_cases h : i < S 0 0
          · rw [if_pos h]
            exact n1 i h
          · rw [if_neg h, n2 i (by omega)]
            exact wr_n c4 i hi
        · rw [n2 _ (by omega)]
          exact c4.2.1 j hj
        · rw [n2 _ (by omega)]
          exact c4.2.2
      have eq : F_X12_swaps_L146 79 (nI g) (nI wh) (fun (M28 : zM) => zI (-1) M28) (f + 1) (nI (zbq S L w k).length) (nI k) M2 = F_X12_swaps_L171 79 (nI g) (nI wh) (nI k) (fun (y2 : Int32) (M27 : zM) => F_X12_swaps_L146 79 (nI g) (nI wh) (fun (M28 : zM) => zI (-1) M28) f y2 (nI (k + 1)) M27) zN (nI (zbq S L w k).length) 0 M3 := by
        rw [F_X12_swaps_L146, zit_f (nI_ge hlt (by omega)), zin_k (k := k) (n := 720) (by omega) (by omega), zck_t, gr_79_56, gr_79_48, zix_k (k := k) (by omega), e110, e3, zbV_V, nI_1]
      rw [hbs] at hin
      rcases b2_m env ho hl hn hgl hwh hk7 hQ hQ7 hlt he hin (fun (y2 : Int32) (M27 : zM) => F_X12_swaps_L146 79 (nI g) (nI wh) (fun (M28 : zM) => zI (-1) M28) f y2 (nI (k + 1)) M27) ⟨c1, r3, q3, _, fun i hi => if_pos hi, w3⟩ with ⟨M', e', r'⟩ | ⟨M', e', d1, d2, d3, p', -, d4⟩
      · exact Or.inl ⟨M', eq.trans e', r'⟩
      · refine Or.inr ⟨M', ?_, ?_⟩
        · show _ = F_X12_swaps_L146 79 (nI g) (nI wh) (fun (M28 : zM) => zI (-1) M28) f (nI (zbq S L w (k + 1)).length) (nI (k + 1)) M'
          rw [hbs]
          exact eq.trans e'
        · rw [hbs]
          exact ⟨d1, d2, d3, p', d4⟩
    · refine Or.inl ⟨M2, ?_, c2⟩
      have hfix := zbq_fix hge (720 - k)
      rw [show k + (720 - k) = 720 from by omega] at hfix
      rw [F_X12_swaps_L146, zit_t (nI_le hge (by omega)), hfix, zsr_none c1]
  · rintro f M2 ⟨c1, c2, -, -⟩
    have hQl := zQo_len hn hQ7
    refine ⟨M2, ?_, c2⟩
    rw [F_X12_swaps_L146, zit_t (nI_le hQl (by omega)), zsr_none c1]
end ZSP
section ZTK
variable {q : zSt}
theorem zok_tk (h : zok q) (hC : tC q < 600) : zok (ztk q) := ⟨h.1, h.2.1, h.2.2.1, h.2.2.2.1, h.2.2.2.2.1, h.2.2.2.2.2.1, hC⟩
theorem zQx_tk {M : zM} (h : zQx q M) (hC : tC q < 600) : zQx (ztk q) M := by
  obtain ⟨ho, hS, hI, hT, hF, hR, k, hk, h15, h67, h69, h73⟩ := h
  exact ⟨zok_tk ho hC, hS, hI, hT, hF, hR, k, Nat.le_succ_of_le hk, h15, h67, h69, h73⟩
theorem zQm_tk {M : zM} (h : zQm q M) (hC : tC q < 600) {k : Nat} (h60 : M 79 60 = nI k) (hk : k ≤ tC q) : zQm (ztk q) (zup M 79 60 (nI (k + 1))) := by
  obtain ⟨ho, hS, hI, hT, hF, hR, k', hk', h60', h109⟩ := h
  have hC6 := ho.2.2.2.2.2.2
  have ek : k' = k := by
    rw [h60] at h60'
    exact ((nI_eq (by omega) (by omega)).mp h60').symm
  subst ek
  unfold zSm zLm at hS
  refine ⟨zok_tk ho hC, ?_, ?_, ?_, ?_, ?_, k' + 1, Nat.succ_le_succ hk', by rw [zup_row, upd_eq], fun i hi => ?_⟩
  · unfold zSm zLm
    simp (disch := omega) only [zup_ne, zup_row, upd_ne]
    exact hS
  · simp (disch := omega) only [zup_ne, zup_row, upd_ne]
    exact hI
  · simp (disch := omega) only [zup_ne, zup_row, upd_ne]
    exact hT
  · simp (disch := omega) only [zup_ne, zup_row, upd_ne]
    exact hF
  · simp (disch := omega) only [zup_ne, zup_row, upd_ne]
    exact hR
  · rw [zup_ne (by omega)]
    rcases h109 i hi with e | ⟨z, hz, e⟩
    · exact Or.inl e
    · exact Or.inr ⟨z, by omega, e⟩
theorem zop_rf2 {mx : Nat} {X Y : zM → zO} {E1 E2 : String} (hY : ∀ M, Y M = Y (zup M 79 0 0)) (code : Nat) (hc : code = 1 ∨ code = 2) (hm : code ≤ mx) (hX : ∀ M, zQx q M → X M = zE (if code = 1 then E1 else E2) M) (h : ∀ M, zQm q M → M 79 0 = 0 → ∃ r' M1, Y M = zI r' (zup M1 79 0 (nI code)) ∧ zoff zMs M M1) : zOp mx X Y E1 E2 q := by
  refine ⟨q, code, 0, hm, by omega, fun M hq => ⟨M, ?_, hq, fun _ _ => rfl⟩, fun M hq => ?_⟩
  · rcases hc with rfl | rfl
    · exact Or.inr (Or.inl ⟨rfl, hX M hq⟩)
    · exact Or.inr (Or.inr ⟨rfl, hX M hq⟩)
  · have hq0 := zm_thr (v := 0) hq
    obtain ⟨r', M1, e, o⟩ := h _ hq0 (by rw [zup_row, upd_eq])
    refine ⟨_, r', by rw [hY M]; exact e, by rw [zup_row, upd_eq], fun z => absurd z (by omega), zm_thr (zqm_scr hq0 o (fun _ z => z)), fun i hi => ?_⟩
    rw [zup_ne (by omega), o i (fun hz => by have := zMs_gt i hz; omega), zup_ne (by omega)]
end ZTK
theorem op_swaps (q : zSt) (ho : zok q) (hC : tC q < 600) (a b : Int32) : zOp 2 (F_X11_swaps 0 a b) (F_X12_swaps 79 a b) zNSE zIAE q := by
  have hY : ∀ M, F_X12_swaps 79 a b M = F_X12_swaps 79 a b (zup M 79 0 0) := fun M => by unfold F_X12_swaps; rw [zup_idem]
  have hn := qo_n ho
  have hwk := qo_W ho
  rcases zca (m := 2) (by omega) b with ⟨wh, hwh, rfl⟩ | hb
  · have hx : ∀ M, F_X11_swaps 0 a (nI wh) M = zbI (F_X4_isArrangement (zgr 0 11) a M) (fun r1 M1 => zit (r1 = 0) (zE "java/lang/IllegalArgumentException" M1) (zit (nI wh = 2) (zbI (F_X4_fewestOfItself (zgr 0 11) a M1) (fun r4 M6 => zI r4 M6)) (zit ((M1 (zgr 0 1) 0) ≤ 6) (zbV (F_X4_find (zgr 0 11) (M1 0 15) M1) (fun M2 => zjo (fun (w1 : Int32) (M5 : zM) => zI w1 M5) (fun (k2 : Int32 → zM → zO) => zit (nI wh = 0) (zbI (F_X4_fewest (zgr 0 11) a M2) (fun r3 M4 => k2 r3 M4)) (zbI (F_X4_firstSwap (zgr 0 11) a M2) (fun r2 M3 => k2 r2 M3))))) (zI (-2) M1)))) := fun M => by
      unfold F_X11_swaps
      rw [zjo_eq, zit_f (nI_pos (by omega)), zit_t (show nI wh ≤ (2 : Int32) from nI_le (b := 2) hwh (by omega))]
    have hw : ∀ M, M 79 0 = 0 → F_X12_isWhat 79 (nI wh) 2 M = zI 1 M := fun M h0 => pm_what_in (m := 2) h0 hwh (by omega)
    have bad : zbo 0 = true := zbo_0
    by_cases ha : a < 0
    · refine zop_rf hY 2 (Or.inr rfl) (by omega) (fun M h => ?_) (fun M h h0 => ⟨0, ?_⟩)
      · rw [hx, gr_0_11, ia_x0 ha, zbI_I, zit_t rfl]
        rfl
      · unfold F_X12_swaps
        rw [zst_eq, zup_same h0, hw M h0, zbI_I, zjo_eq, zit_f (by decide), ia_m0 ha, zbI_I, pm_right0 h0 (by decide), zbI_I, zit_t rfl]
        rfl
    · obtain ⟨c, hc, rfl⟩ := nI_of ha
      by_cases hi : zis (tS q 0 0) c = true
      · have hA := zis_ok hn hi
        have hx2 : ∀ M, zQx q M → F_X11_swaps 0 (nI c) (nI wh) M = zit (nI wh = 2) (zbI (F_X4_fewestOfItself 69 (nI c) M) (fun r4 M6 => zI r4 M6)) (zit (nI (tS q 0 0) ≤ 6) (zbV (F_X4_find 69 (M 0 15) M) (fun M2 => zjo (fun (w1 : Int32) (M5 : zM) => zI w1 M5) (fun (k2 : Int32 → zM → zO) => zit (nI wh = 0) (zbI (F_X4_fewest 69 (nI c) M2) (fun r3 M4 => k2 r3 M4)) (zbI (F_X4_firstSwap 69 (nI c) M2) (fun r2 M3 => k2 r2 M3))))) (zI (-2) M)) := fun M h => by
          rw [hx, gr_0_11, gr_0_1, ia_x (qx_S h) hn hc, hi, if_pos rfl, zbI_I, zit_f (by decide), sx_n (qx_S h)]
        have hy2 : ∀ M, zQm q M → M 79 0 = 0 → ∃ M4, zoff [113] M M4 ∧ (∀ i, i < tS q 0 0 → M4 113 i = nI (zfg c i)) ∧ F_X12_swaps 79 (nI c) (nI wh) M = zit (nI wh = 2) (zbI (F_X12_rings 79 M4) (fun r9 M30 => zI (nI (tS q 0 0) - r9) M30)) (zit (nI (tS q 0 0) ≤ 6) (zst (zup M4 79 60 ((M4 79 60) + 1)) (fun M5 => zbV (F_X12_copies 79 102 103 M5) (fun M6 => zbI (F_X12_codeOf 79 102 M6) (fun r4 M7 => zit (r4 = nI c) (zjo (fun (w4 : Int32) (M29 : zM) => zI w4 M29) (fun (k5 : Int32 → zM → zO) => zit (nI wh = 0) (k5 0 M7) (k5 (-1) M7))) (zbI (F_X12_rankOf 79 102 M7) (fun r5 M8 => zck (zin r5 720) (zst (zup M8 109 (zix r5) (M8 79 60)) (fun M9 => zst (zup M9 110 0 r4) (fun M10 => zst (zup M10 111 0 (-1)) (fun M11 => zst (zup M11 112 0 0) (fun M12 => F_X12_swaps_L146 79 (nI c) (nI wh) (fun  (M28 : zM) => zI (-1) M28) zN 1 0 M12)))))))))) ) (zI (-2) M4)) := fun M h h0 => by
          obtain ⟨M4, e4, g4, o4⟩ := ia_m (qm_S h) hn hc
          refine ⟨M4, o4, g4, ?_⟩
          have h04 : M4 79 0 = 0 := by rw [o4 79 (by decide)]; exact h0
          have n4 : M4 79 1 = nI (tS q 0 0) := by rw [o4 79 (by decide)]; exact sm_n (qm_S h)
          unfold F_X12_swaps
          rw [zst_eq, zup_same h0, hw M h0, zbI_I, zjo_eq, zit_f (by decide), e4, zbI_I, hi, if_pos rfl, pm_right1 h04 (by decide), zbI_I, zit_f (by decide), n4, gr_79_47, gr_79_48, gr_79_55, gr_79_56, gr_79_57, gr_79_58, show zin 0 720 = true from by decide, show zix 0 = 0 from by decide]
          rfl
        by_cases hw2 : wh = 2
        · refine zop_self hY (zop0_ret (r := nI (tS q 0 0) - nI (zrg (zhf (tS q) (tW q) c) (tS q 0 0)).1) (fun M h => ⟨M, ?_, zoff_rfl⟩) (fun M h h0 => ?_))
          · rw [hx2 M h, zit_t (by rw [hw2]; rfl), fo_x (qx_S h) (qo_S ho) (qx_W h) hwk hA, zbI_I]
          · obtain ⟨M4, o4, g4, e4⟩ := hy2 M h h0
            have h4 : zQm q M4 := zqm_scr h o4 (by decide)
            refine ⟨M4, ?_, zoff_mono o4 (by decide)⟩
            rw [e4, zit_t (by rw [hw2]; rfl), rg_m (qm_S h4) (qo_S ho) (qm_W h4) hwk hA g4, zbI_I]
        · have hw2' : ¬ nI wh = (2 : Int32) := fun e => hw2 ((nI_eq (b := 2) (by omega) (by omega)).mp e)
          by_cases hn6 : tS q 0 0 ≤ 6
          · have l6 : nI (tS q 0 0) ≤ (6 : Int32) := nI_le (b := 6) hn6 (by omega)
            refine zop_self hY ⟨ztk q, zsr (zbq (tS q) (tL q) (tW q) 720) c (decide (wh = 0)), Nat.le_refl _, fun M h => ?_, fun M h h0 => ?_⟩
            · obtain ⟨-, -, -, -, -, -, k, hk, h15, -⟩ := id h
              obtain ⟨M1, e1, h1, hcr, o1⟩ := fd_x h hn6 hk h15
              obtain ⟨f1, f2⟩ := few_x h1 hn6 hcr hA
              refine ⟨M1, ?_, zQx_tk h1 hC, o1⟩
              rw [hx2 M h, zit_f hw2', zit_t l6, h15, e1, zbV_V, zjo_eq]
              by_cases hw0 : wh = 0
              · rw [zit_t (by rw [hw0]; rfl), f1, zbI_I, decide_eq_true hw0]
              · rw [zit_f (nI_ne0 (by omega) (by omega)), f2, zbI_I, decide_eq_false hw0]
            · obtain ⟨M4, o4, g4, e4⟩ := hy2 M h h0
              have h4 : zQm q M4 := zqm_scr h o4 (by decide)
              obtain ⟨-, -, -, -, -, -, k, hk, h60, h109⟩ := id h4
              have hC6 := ho.2.2.2.2.2.2
              have h5 := zQm_tk h4 hC h60 hk
              rw [e4, zit_f hw2', zit_t l6, zst_eq, h60, nI_1, cp_m zal102 zal103 (by omega) (by omega), zbV_V]
              obtain ⟨M5, hM5⟩ : ∃ M5, zup M4 79 60 (nI (k + 1)) = M5 := ⟨_, rfl⟩
              rw [hM5] at h5 ⊢
              have v60 : M5 79 60 = nI (k + 1) := by rw [← hM5, zup_row, upd_eq]
              have v109 : ∀ i, i < 720 → M5 109 i ≠ M5 79 60 := fun i hi e => by
                rw [v60, ← hM5, zup_ne (by omega)] at e
                rcases h109 i hi with e0 | ⟨z, hz, e0⟩
                · rw [e0] at e
                  exact nI_ne0 (by omega) (by omega) e.symm
                · rw [e0] at e
                  have := (nI_eq (by omega) (by omega)).mp e
                  omega
              obtain ⟨M6, hM6⟩ : ∃ M6, zupA M5 103 (fun i => if i < 73 then M5 102 i else M5 103 i) = M6 := ⟨_, rfl⟩
              rw [hM6]
              have o6 : zoff [103] M5 M6 := by rw [← hM6]; exact zoff_upA zoff_rfl (by decide)
              have r6 : zBr M5 M6 := zBr_of zBr_rfl o6 (by decide)
              have env : ∀ M', zBr M5 M' → zSm (tS q) M' ∧ zLm (tL q) M' := fun M' r => ⟨qm_S (q := ztk q) (zBr_q h5 r), qm_L (q := ztk q) (zBr_q h5 r)⟩
              have h6 := zBr_q h5 r6
              have S6 : zSm (tS q) M6 := qm_S (q := ztk q) h6
              have W6 : zWr (M6 102) 0 (tW q) := qm_W (q := ztk q) h6
              have hfin : ∀ M', zBr M5 M' → M' 79 0 = 0 ∧ zQm (ztk q) M' ∧ ∀ i, (i < 79 ∨ i = 124) → M' i = M i := fun M' r => ⟨by rw [r.1 79 (by decide), ← hM5, zup_row, upd_ne (by omega), o4 79 (by decide)]; exact h0, zBr_q h5 r, fun i hi => by
                rw [r.1 i (by simp only [zBl, List.mem_cons, List.mem_nil_iff, or_false]; omega), ← hM5, zup_ne (by omega), o4 i (by simp only [List.mem_cons, List.mem_nil_iff, or_false]; omega)]⟩
              have hp8 : ∀ i, i < tS q 0 0 → (tW q).1 i < 8 := fun i hi => hwk.1 i (by omega)
              have h102 : ∀ i, i < tS q 0 0 → M6 102 i = nI ((tW q).1 i) := fun i hi => wr_n W6 i (by omega)
              have har : zar (tS q 0 0) (tW q).1 := ⟨hwk.2.2.1, hwk.2.1⟩
              have hAn := zAr_of (n := tS q 0 0) hn har
              have hQ7 := zbq_ok (L := tL q) (by omega) hwk 720
              have hin0 : (zcd (tW q).1 (tS q 0 0), 0, (-1 : Int32)) ∈ zbq (tS q) (tL q) (tW q) 720 := zbq_in (k := 0) (by omega) (List.mem_singleton.mpr rfl)
              have hAl := hA.1
              have hAnl := hAn.1
              have h88 := pow8 hn
              rw [co_m S6 hn zal102 hp8 h102, zbI_I]
              by_cases hg : zcd (tW q).1 (tS q 0 0) = c
              · refine ⟨M6, ?_, hfin M6 r6⟩
                rw [zit_t (by rw [hg]), zjo_eq, zsr_some hQ7 hin0 hg]
                by_cases hw0 : wh = 0
                · rw [zit_t (by rw [hw0]; rfl), decide_eq_true hw0]
                  rfl
                · rw [zit_f (nI_ne0 (by omega) (by omega)), decide_eq_false hw0]
                  rfl
              · have hkk := zK_lt hn6 hAn
                rw [zit_f (fun e => hg ((nI_eq (by omega) (by omega)).mp e)), rko_m S6 hn zal102 hp8 h102, zbI_I, ← zK_of hn har, zin_k (k := zK (tS q 0 0) (zcd (tW q).1 (tS q 0 0))) (n := 720) hkk (by omega), zck_t, zst_eq, zst_eq, zst_eq, zst_eq, zix_k (k := zK (tS q 0 0) (zcd (tW q).1 (tS q 0 0))) (by omega)]
                obtain ⟨M8, hM8⟩ : ∃ M8, zup M6 109 (zK (tS q 0 0) (zcd (tW q).1 (tS q 0 0))) (M6 79 60) = M8 := ⟨_, rfl⟩
                have r8 : zBr M5 M8 := by rw [← hM8]; exact zBr_st r6
                rw [hM8]
                obtain ⟨M9, hM9⟩ : ∃ M9, zup (zup (zup M8 110 0 (nI (zcd (tW q).1 (tS q 0 0)))) 111 0 (-1)) 112 0 0 = M9 := ⟨_, rfl⟩
                have o9 : zoff [110, 111, 112] M8 M9 := by rw [← hM9]; exact zoff_up (zoff_up (zoff_up zoff_rfl (by decide)) (by decide)) (by decide)
                rw [hM9]
                have q9 : zMq (tS q 0 0) (zbq (tS q) (tL q) (tW q) 0) M9 := by
                  refine ⟨fun j hj => ?_, fun x hx => ?_⟩
                  · have : (zbq (tS q) (tL q) (tW q) 0).length = 1 := rfl
                    obtain rfl : j = 0 := by omega
                    refine ⟨?_, ?_, ?_⟩
                    · rw [← hM9, zup_ne (by omega), zup_ne (by omega), zup_row, upd_eq]
                      rfl
                    · rw [← hM9, zup_ne (by omega), zup_row, upd_eq]
                      rfl
                    · rw [← hM9, zup_row, upd_eq]
                      rfl
                  · rw [o9 109 (by decide), o9 79 (by decide), ← hM8, zup_row, zup_ne (by omega)]
                    by_cases ex : x = zcd (tW q).1 (tS q 0 0)
                    · rw [ex, upd_eq]
                      exact ⟨fun _ => ⟨_, List.mem_singleton.mpr rfl, rfl⟩, fun _ => rfl⟩
                    · rw [upd_ne (fun e => ex (zK_inj hn6 hx hAn e)), o6 109 (by decide), o6 79 (by decide)]
                      constructor
                      · exact fun e => absurd e (v109 _ (zK_lt hn6 hx))
                      · rintro ⟨z, hz, e⟩
                        rw [List.mem_singleton.mp hz] at e
                        exact absurd e.symm ex
                have p9 : zWr (M9 103) 0 ((tW q).1, (tW q).2.1, (tW q).2.2) := by
                  have e9 : M9 103 = M6 103 := by rw [o9 103 (by decide), ← hM8, zup_ne (by omega)]
                  have e : ∀ i, i < 73 → M6 103 i = M6 102 i := fun i hi => by rw [← hM6, zupA_eq, if_pos hi, zupA_ne (by omega)]
                  have hw6 := W6
                  rw [e9]
                  exact ⟨fun i hi => by rw [e _ (by omega)]; exact hw6.1 i hi, fun i hi => by rw [e _ (by omega)]; exact hw6.2.1 i hi, by rw [e _ (by omega)]; exact hw6.2.2⟩
                obtain ⟨M', e', r'⟩ := b3_m (w := tW q) (M1 := M9) env (qo_S ho) (qo_L ho) hwk hn6 hc (by omega : wh ≤ 1) (fun z hz => by rw [List.mem_singleton.mp hz]; exact hg) (zBr_of r8 o9 (by decide)) q9 ⟨(tW q).1, p9⟩
                exact ⟨M', e', hfin M' r'⟩
          · have l6 : ¬ nI (tS q 0 0) ≤ (6 : Int32) := nI_ge (a := 6) (by omega) (by omega)
            refine zop_self hY (zop0_ret (r := -2) (fun M h => ⟨M, ?_, zoff_rfl⟩) (fun M h h0 => ?_))
            · rw [hx2 M h, zit_f hw2', zit_f l6]
            · obtain ⟨M4, o4, g4, e4⟩ := hy2 M h h0
              refine ⟨M4, ?_, zoff_mono o4 (by decide)⟩
              rw [e4, zit_f hw2', zit_f l6]
      · refine zop_rf2 hY 2 (Or.inr rfl) (by omega) (fun M h => ?_) (fun M h h0 => ?_)
        · rw [hx, gr_0_11, ia_x (qx_S h) hn hc, if_neg hi, zbI_I, zit_t rfl]
          rfl
        · obtain ⟨M4, e4, g4, o4⟩ := ia_m (qm_S h) hn hc
          have h04 : M4 79 0 = 0 := by rw [o4 79 (by decide)]; exact h0
          refine ⟨0, M4, ?_, zoff_mono o4 (by decide)⟩
          unfold F_X12_swaps
          rw [zst_eq, zup_same h0, hw M h0, zbI_I, zjo_eq, zit_f (by decide), e4, zbI_I, if_neg hi, pm_right0 h04 (by decide), zbI_I, zit_t rfl]
          rfl
  · refine zop_rf hY 1 (Or.inl rfl) (by omega) (fun M h => ?_) (fun M h h0 => ⟨0, ?_⟩)
    · unfold F_X11_swaps
      rw [zjo_eq]
      by_cases h0 : b < 0
      · rw [zit_t h0]
        rfl
      · rw [zit_f h0, zit_f (show ¬ b ≤ (2 : Int32) from fun z => Int32.lt_irrefl (Int32.lt_of_lt_of_le (hb.resolve_left h0) z))]
        rfl
    · unfold F_X12_swaps
      rw [zst_eq, zup_same h0, show F_X12_isWhat 79 b 2 M = zI 0 (zup M 79 0 1) from pm_what_out (m := 2) h0 hb, zbI_I, zjo_eq, zit_t rfl]
      rfl
