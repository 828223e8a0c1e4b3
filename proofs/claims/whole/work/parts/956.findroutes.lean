/-! ROUTES: the class finds them, or has them -/
theorem zal71 : zal 71 = 720 := by decide +kernel
def zXt : List Nat := [67, 68, 69, 70, 71, 72]
theorem zQx_routes {q : zSt} {M M' : zM} (h : zQx q M) (e : ∀ i, i < 79 → i ∉ zXc → i ∉ zXt → M' i = M i) {k : Nat} (hk : k ≤ tC q) (hk15 : M 0 15 = nI k) (h67 : zmade M' 67 2 k ∧ (M' 67 2 = nI k → zCp q (M' 68))) (h69 : zmade M' 69 6 k ∧ (M' 69 6 = nI k → zCr q (M' 71) (M' 72))) : zQx q M' := by
  have h1 : zQx q (zupA (zupA (zupA (zupA (zupA (zupA M' 67 (M 67)) 68 (M 68)) 69 (M 69)) 70 (M 70)) 71 (M 71)) 72 (M 72)) := zQx_off h (fun z h1 h2 => by
    unfold zupA
    by_cases z72 : z = 72
    · rw [if_pos z72, z72]
    · rw [if_neg z72]
      by_cases z71 : z = 71
      · rw [if_pos z71, z71]
      · rw [if_neg z71]
        by_cases z70 : z = 70
        · rw [if_pos z70, z70]
        · rw [if_neg z70]
          by_cases z69 : z = 69
          · rw [if_pos z69, z69]
          · rw [if_neg z69]
            by_cases z68 : z = 68
            · rw [if_pos z68, z68]
            · rw [if_neg z68]
              by_cases z67 : z = 67
              · rw [if_pos z67, z67]
              · rw [if_neg z67]
                exact e z h1 h2 (by
                  simp only [zXt, List.mem_cons, List.mem_nil_iff, or_false]
                  omega))
  obtain ⟨ho, hS, hI, hT, hF, hR, k', hk', hk15', -, -, hr⟩ := h1
  unfold zSx zLx zHx zWx at hS
  unfold zHx zWx at hI
  unfold zmade at hr
  simp (disch := omega) only [zupA_ne] at hS hI hT hF hR hk15' hr
  have e0 : M' 0 = M 0 := e 0 (by decide) (by decide) (by decide)
  have ekk : k' = k := by
    rw [e0, hk15] at hk15'
    have := ho.2.2.2.2.2.2
    exact ((nI_eq (by omega) (by omega)).mp hk15').symm
  subst ekk
  exact ⟨ho, hS, hI, hT, hF, hR, k', hk', hk15', h67, h69, hr⟩
section ZFR
variable {q : zSt}
theorem zCr_of (hn : tS q 0 0 ≤ 6) {M : zM} (h : zXq (tS q 0 0) (zbq (tS q) (tL q) (tW q) 720) M) : zCr q (M 71) (M 72) := by
  refine ⟨hn, fun p hp => ?_⟩
  have hA := zAr_of (n := tS q 0 0) (by omega) hp
  have hK := zK_of (n := tS q 0 0) (by omega) hp
  have := h.2.2 _ hA
  rw [hK] at this
  exact this
theorem fd_x {M : zM} (h : zQx q M) (hn : tS q 0 0 ≤ 6) {c : Nat} (hc : c ≤ tC q) (h15 : M 0 15 = nI c) : ∃ M', F_X4_find 69 (nI c) M = zV M' ∧ (zQx q M' ∧ zCr q (M' 71) (M' 72) ∧ ∀ i, 79 ≤ i → M' i = M i) := by
  have ho := qx_o h
  have hC6 := ho.2.2.2.2.2.2
  have hwk := qo_W ho
  obtain ⟨-, -, -, -, -, -, c', hc', hc15, ⟨m67, p67⟩, ⟨m69, p69⟩, ⟨m73, p73⟩⟩ := id h
  have ecc : c' = c := by
    rw [h15] at hc15
    exact ((nI_eq (by omega) (by omega)).mp hc15).symm
  subst ecc
  unfold F_X4_find
  rw [zjo_eq]
  by_cases a1 : M 69 6 = nI c'
  · rw [zit_t a1]
    exact ⟨M, rfl, h, p69 a1, fun _ _ => rfl⟩
  · rw [zit_f a1, gr_69_0, gr_40_0, sx_n (qx_S h), show (6 : Int32) = nI 6 from rfl, zit_t (nI_le hn (by omega)), zst_eq, gr_69_1, gr_69_4]
    obtain ⟨M1, hM1⟩ : ∃ M1, zup M 69 6 (nI c') = M1 := ⟨_, rfl⟩
    rw [hM1]
    have o1 : zoff [69] M M1 := by rw [← hM1]; exact zoff_up zoff_rfl (by decide)
    obtain ⟨M2, e2, h67, hp2, o2⟩ := rn_x (S := tS q) (L := tL q) (w := tW q) (M := M1) (k := c') (qo_S ho) (fun hz => by
      rw [o1 68 (by decide)]
      rw [o1 67 (by decide)] at hz
      exact p67 hz)
    rw [e2, zbV_V, fi_x zal71 (by omega), zbV_V, zst_eq]
    obtain ⟨M4, hM4⟩ : ∃ M4, zup (zupA M2 71 (fun i => if i < 720 then -1 else M2 71 i)) 69 3 0 = M4 := ⟨_, rfl⟩
    rw [hM4]
    have o4 : zoff [69, 71] M2 M4 := by rw [← hM4]; exact zoff_up (zoff_upA zoff_rfl (by decide)) (by decide)
    have o14 : zoff zXt M M4 := zoff_trans (zoff_mono o1 (by decide)) (zoff_trans (zoff_mono o2 (by decide)) (zoff_mono o4 (by decide)))
    have v6 : M4 69 6 = nI c' := by rw [← hM4, zup_row, upd_ne (by omega), zupA_ne (by omega), o2 69 (by decide), ← hM1, zup_row, upd_eq]
    have hS4 : zSx (tS q) M4 := zSx_off (qx_S h) (fun i hi => o14 i (fun hz => by
      simp only [zXt, List.mem_cons, List.mem_nil_iff, or_false] at hi hz
      omega))
    have hL4 : zLx (tL q) M4 := zLx_off (qx_L h) (o14 9 (by decide)) (o14 11 (by decide))
    have hW4 : zWx 40 (tW q) M4 := by
      have := qx_W h
      unfold zWx at this ⊢
      rw [o14 40 (by decide), o14 (40 + 1) (by decide), o14 (40 + 2) (by decide)]
      exact this
    have hp4 : zPk (tS q) (tL q) (tW q) (M4 68) := by rw [o4 68 (by decide)]; exact hp2
    have hX4 : zXq (tS q 0 0) [] M4 := by
      refine ⟨by rw [← hM4, zup_row, upd_eq]; rfl, fun j hj => absurd hj (Nat.not_lt_zero _), fun x hx => ⟨fun e he => (nomatch he), fun _ => ?_⟩⟩
      rw [← hM4, zup_ne (by omega), zupA_eq, if_pos (zK_lt hn hx)]
    have hA := zAr_of (n := tS q 0 0) (by omega) (⟨hwk.2.2.1, hwk.2.1⟩ : zar (tS q 0 0) (tW q).1)
    rw [an_x hS4 (by omega) hW4 hwk.1, zbI_I]
    obtain ⟨M6, e6, hX6, f6, o6⟩ := rc_x hS4 hn (Q := []) ⟨fun e he => (nomatch he), fun a b _ hb => absurd hb (Nat.not_lt_zero _), fun j hj => absurd hj (Nat.not_lt_zero _)⟩ hX4 (c := zcd (tW q).1 (tS q 0 0)) (far := 0) (first := -1) hA (Nat.le_refl _) (fun z => z)
    have e6' : F_X4_reach 69 (nI (zcd (tW q).1 (tS q 0 0))) 0 (-1) M4 = zV M6 := e6
    rw [e6', zbV_V]
    have o6' : zoff zRl M4 M6 := zoff_mono o6 (by decide)
    have hG4 : zGe (tS q) (tL q) (tW q) M4 := ⟨hS4, hL4, hW4, hp4⟩
    have hG6 : zGe (tS q) (tL q) (tW q) M6 := zGe_off hG4 o6' (by rw [o6 68 (by decide)]; exact hp4)
    have key : ∃ M', F_X4_find_L62 69 (fun (M8 : zM) => zV M8) zN 0 M6 = zV M' ∧ zRi (tS q) (tL q) (tW q) M4 (zbq (tS q) (tL q) (tW q) 720) M' := by
      refine zfor (i := 0) (f := zN) (a := M6) 720 (fun f i (M7 : zM) => F_X4_find_L62 69 (fun (M8 : zM) => zV M8) f (nI i) M7) (fun i M7 => zRi (tS q) (tL q) (tW q) M4 (zbq (tS q) (tL q) (tW q) i) M7) (fun o => ∃ M', o = zV M' ∧ zRi (tS q) (tL q) (tW q) M4 (zbq (tS q) (tL q) (tW q) 720) M') ?_ ?_ (by omega) (zN_ge (by omega)) ⟨hG6, hX6, f6, o6'⟩
      · rintro f i M7 hi hR7
        obtain ⟨r1, r2, r3, r4⟩ := id hR7
        have hQ := zbq_ok (L := tL q) (by omega) hwk i
        have hQl := zQo_len hn hQ
        show (∃ M', F_X4_find_L62 69 _ (f + 1) (nI i) M7 = zV M' ∧ _) ∨ ∃ M8, F_X4_find_L62 69 _ (f + 1) (nI i) M7 = F_X4_find_L62 69 _ f (nI (i + 1)) M8 ∧ _
        rw [F_X4_find_L62, show (720 : Int32) = nI 720 from rfl, zit_f (nI_ge hi (by omega)), r2.1]
        rcases Nat.lt_or_ge i (zbq (tS q) (tL q) (tW q) i).length with hlt | hge
        · refine Or.inr ?_
          rw [zit_f (nI_ge hlt (by omega)), zin_k (k := i) (n := 720) (by omega) (by omega), zck_t, gr_69_2, zix_k (k := i) (by omega), r2.2.1 i hlt]
          obtain ⟨M8, e8, d1, d2, d3, d4⟩ := sp_x (qo_S ho) (qo_L ho) hn hQ hlt r1 r2
          rw [e8, zbV_V, nI_1, zbq_s hlt]
          exact ⟨M8, rfl, d1, d2, fun z hz => by rw [d3 z hz, r3 z hz], zoff_trans r4 d4⟩
        · refine Or.inl ?_
          rw [zit_t (nI_le hge (by omega))]
          refine ⟨M7, rfl, ?_⟩
          have := zbq_fix hge (720 - i)
          rw [show i + (720 - i) = 720 from by omega] at this
          rw [this]
          exact hR7
      · rintro f M7 hR7
        show ∃ M', F_X4_find_L62 69 _ (f + 1) (nI 720) M7 = zV M' ∧ _
        rw [F_X4_find_L62, show (720 : Int32) = nI 720 from rfl, zit_t (nI_le (Nat.le_refl _) (by omega))]
        exact ⟨M7, rfl, hR7⟩
    obtain ⟨M', e', d1, d2, d3, d4⟩ := key
    have hcr := zCr_of hn d2
    have o5 : ∀ i, i ∉ zRl → i ∉ zXt → M' i = M i := fun i h1 h2 => by rw [d4 i h1, o14 i h2]
    have v6' : M' 69 6 = nI c' := by rw [d3 6 (by omega), v6]
    refine ⟨M', e', zQx_routes h (fun i h1 h2 h3 => o5 i (fun hz => ?_) h3) hc' h15 ⟨?_, fun _ => d1.2.2.2⟩ ⟨Or.inr ⟨c', Nat.le_refl _, v6'⟩, fun _ => hcr⟩, hcr, fun i hi => o5 i (by simp only [zRl, List.mem_cons, List.mem_nil_iff, or_false]; omega) (by simp only [zXt, List.mem_cons, List.mem_nil_iff, or_false]; omega)⟩
    · simp only [zRl, List.mem_cons, List.mem_nil_iff, or_false] at hz
      rcases hz with rfl | rfl | rfl | rfl | rfl | rfl | rfl
      · exact h2 (by decide)
      · exact h2 (by decide)
      all_goals exact h3 (by decide)
    · refine Or.inr ⟨c', Nat.le_refl _, ?_⟩
      rw [d4 67 (by decide), o4 67 (by decide)]
      exact h67
/-- answers of it -/
theorem few_x {M : zM} (h : zQx q M) (hn : tS q 0 0 ≤ 6) (hcr : zCr q (M 71) (M 72)) {c : Nat} (hc : zAr (tS q 0 0) c) : F_X4_fewest 69 (nI c) M = zI (zsr (zbq (tS q) (tL q) (tW q) 720) c true) M ∧ F_X4_firstSwap 69 (nI c) M = zI (zsr (zbq (tS q) (tL q) (tW q) 720) c false) M := by
  have hk := zK_lt hn hc
  have hQ := zbq_ok (L := tL q) (by omega) (qo_W (qx_o h)) 720
  have hcr2 := hcr.2 (zfg c) hc.2
  rw [zcd_at hc.1] at hcr2
  unfold F_X4_fewest F_X4_firstSwap
  rw [nb_x (qx_S h) hn hc, zbI_I, zbI_I, zin_k (k := zK (tS q 0 0) c) (n := 720) hk (by omega), zck_t, zck_t, zjo_eq, gr_69_4, gr_69_5, zix_k (k := zK (tS q 0 0) c) (by omega)]
  by_cases hx : ∃ e ∈ zbq (tS q) (tL q) (tW q) 720, e.1 = c
  · obtain ⟨e, he, e1⟩ := hx
    obtain ⟨v1, v2⟩ := hcr2.1 e he e1
    have hfar := zQo_far hn hQ he
    unfold zK
    rw [v1, v2, zsr_some hQ he e1, zsr_some hQ he e1, zit_f (nI_n1 (by omega)), zck_t]
    exact ⟨rfl, rfl⟩
  · have hx' : ∀ e ∈ zbq (tS q) (tL q) (tW q) 720, e.1 ≠ c := fun e he e1 => hx ⟨e, he, e1⟩
    have v1 := hcr2.2 hx'
    unfold zK
    rw [v1, zsr_none hx', zsr_none hx', zit_t rfl]
    exact ⟨rfl, rfl⟩
end ZFR
