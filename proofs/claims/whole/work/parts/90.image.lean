/-! image, restore -/
theorem zcp8 : zcpk 0 0 8 8 8 = true := by decide
theorem zcp64 : zcpk 0 0 64 64 64 = true := by decide
theorem zcp40 : zcpk 0 0 40 40 40 = true := by decide
theorem zi0 : zix 0 = 0 := by decide
theorem zi8 : zix 8 = 8 := by decide
theorem zi40 : zix 40 = 40 := by decide
theorem zi64 : zix 64 = 64 := by decide
theorem cpy_in {f g : Nat → Int32} {n i : Nat} (h : i < n) : va_cpy f g 0 0 n i = f i := by
  unfold va_cpy
  rw [if_pos ⟨by omega, by omega⟩]
  congr 1
  omega
theorem cp_w {w : zWD} {M : zM} {d c : Nat} (hd : zgr d 1 = d + 1 ∧ zgr d 2 = d + 2) (hc : zgr c 1 = c + 1 ∧ zgr c 2 = c + 2) (hn : c + 2 < d ∨ d + 2 < c) (h : zWx c w M) : ∃ M', F_X10_copy d c M = zV M' ∧ (zWx d w M' ∧ zoff [d, d + 1, d + 2] M M') := by
  unfold F_X10_copy
  simp (disch := omega) only [zck_t, zst_eq, zcp8, zcp64, zi0, zi8, zi64, hd.1, hd.2, hc.1, hc.2, zupA_ne]
  refine ⟨_, rfl, ⟨fun i hi => ?_, fun k hk => ?_, ?_⟩, fun z hz => ?_⟩
  · simp (disch := omega) only [zup_ne, zupA_ne, zupA_eq, cpy_in]
    exact h.1 i hi
  · simp (disch := omega) only [zup_ne, zupA_ne, zupA_eq, cpy_in]
    exact h.2.1 k hk
  · simp (disch := omega) only [zup_row, upd_eq]
    exact h.2.2
  · simp only [List.mem_cons, List.mem_nil_iff, or_false, not_or] at hz
    rw [zup_ne hz.1, zupA_ne hz.2.2, zupA_ne hz.2.1]
theorem cp_r {S : zSD} {w : zWD} {l : List zWD} {v : List (Nat × Nat)} {M : zM} {d c : Nat} (hd : zgr d 2 = d + 1 ∧ zgr d 3 = d + 2 ∧ zgr d 4 = d + 3 ∧ zgr d 5 = d + 4 ∧ zgr d 6 = d + 5 ∧ zgr d 7 = d + 6) (hc : zgr c 2 = c + 1 ∧ zgr c 3 = c + 2 ∧ zgr c 4 = c + 3 ∧ zgr c 5 = c + 4 ∧ zgr c 6 = c + 5 ∧ zgr c 7 = c + 6) (hn : c + 6 < d ∨ d + 6 < c) (hl : l.length ≤ 40) (hv : v.length ≤ 8) (h0 : M c 0 = nI l.length) (hA : zAx S (M (c + 1)) (M (c + 2)) (M (c + 3)) (M (c + 4)) w l) (h1 : M c 1 = nI v.length) (hV : zVx (M (c + 5)) (M (c + 6)) v) : ∃ M', F_X3_copy d c M = zV M' ∧ ((M' d 0 = nI l.length ∧ zAx S (M' (d + 1)) (M' (d + 2)) (M' (d + 3)) (M' (d + 4)) w l ∧ M' d 1 = nI v.length ∧ zVx (M' (d + 5)) (M' (d + 6)) v) ∧ zoff [d, d + 1, d + 2, d + 3, d + 4, d + 5, d + 6] M M') := by
  obtain ⟨a1, a2, a3, a4, a5, a6⟩ := hd
  obtain ⟨b1, b2, b3, b4, b5, b6⟩ := hc
  unfold F_X3_copy
  simp (disch := omega) only [zck_t, zst_eq, zcp8, zcp40, zi0, zi8, zi40, a1, a2, a3, a4, a5, a6, b1, b2, b3, b4, b5, b6, zupA_ne, zup_ne]
  refine ⟨_, rfl, ⟨?_, zAx_cg l w (fun i hi => ?_) hA, ?_, fun i hi => ?_⟩, fun z hz => ?_⟩
  · simp (disch := omega) only [zup_row, upd_eq, upd_ne, zupA_ne]
    exact h0
  · simp (disch := omega) only [zupA_ne, zupA_eq, cpy_in]
    trivial
  · simp (disch := omega) only [zup_row, upd_eq, upd_ne, zupA_ne]
    exact h1
  · simp (disch := omega) only [zupA_ne, zupA_eq, cpy_in]
    exact hV i hi
  · simp only [List.mem_cons, List.mem_nil_iff, or_false, not_or] at hz
    obtain ⟨z0, z1, z2, z3, z4, z5, z6⟩ := hz
    rw [zupA_ne z6, zupA_ne z5, zupA_ne z4, zupA_ne z3, zupA_ne z2, zupA_ne z1, zup_ne z0, zup_ne z0]
theorem cp_m {M : zM} {a b n : Nat} (ha : zal a = n) (hb : zal b = n) (hn : n ≤ 3000) (hab : a ≠ b) : F_X12_copies 79 a b M = zV (zupA M b (fun i => if i < n then M a i else M b i)) := by
  unfold F_X12_copies
  have e0 : M = zupA M b (fun i => if i < 0 then M a i else M b i) := (zupA_self M b).symm.trans (congrArg (zupA M b) (funext fun i => (if_neg (by omega)).symm))
  have key := zfor (i := 0) (f := zN) (a := ()) n (fun m k (_ : Unit) => F_X12_copies_L2 a b (fun (M2 : zM) => zV M2) m (nI k) (zupA M b (fun i => if i < k then M a i else M b i))) (fun _ _ => True) (fun o => o = zV (zupA M b (fun i => if i < n then M a i else M b i))) (by
    rintro m k _ hk -
    refine Or.inr ⟨(), ?_, trivial⟩
    show F_X12_copies_L2 a b _ (m + 1) _ _ = F_X12_copies_L2 a b _ m _ _
    rw [F_X12_copies_L2]
    simp (disch := omega) only [zbI_I, zbI_E, zbV_V, zbV_E, zbJ_J, zbH_I, zbH_E, zlt_eq, zltL_eq, zst_eq, zjo_eq, zck_t, zbo_0, zbo_1, zbo_n0, zbo_n1, ha, hb, show Int32.ofNat n = nI n from rfl, c_le_f, li_1, zupA_ne, nI_add, zin_k, zix_k, zup_upA]
    congr 1
    congr 1
    funext i
    by_cases h : i = k
    · rw [h, upd_eq, if_pos (by omega)]
    · rw [upd_ne h]
      by_cases h2 : i < k
      · rw [if_pos h2, if_pos (by omega)]
      · rw [if_neg h2, if_neg (by omega)]) (by
    rintro m _ -
    show F_X12_copies_L2 a b _ (m + 1) _ _ = _
    rw [F_X12_copies_L2]
    simp (disch := omega) only [ha, show Int32.ofNat n = nI n from rfl, c_le_t]) (by omega) (by unfold zN; omega) trivial
  rw [← e0] at key
  exact key
theorem zal104 : zal 104 = 2920 := by decide +kernel
theorem zal116 : zal 116 = 16 := by decide +kernel
theorem zal121 : zal 121 = 73 := by decide +kernel
theorem zal122 : zal 122 = 2920 := by decide +kernel
theorem zal123 : zal 123 = 16 := by decide +kernel
theorem zWr_cg {r r' : Nat → Int32} {w : zWD} (e : ∀ i, i < 73 → r' i = r i) (h : zWr r 0 w) : zWr r' 0 w := ⟨fun i hi => by rw [e _ (by omega)]; exact h.1 i hi, fun k hk => by rw [e _ (by omega)]; exact h.2.1 k hk, by rw [e _ (by omega)]; exact h.2.2⟩
theorem zVm_cg {r r' : Nat → Int32} {v : List (Nat × Nat)} (hv : v.length ≤ 8) (e : ∀ i, i < 16 → r' i = r i) (h : zVm r v) : zVm r' v := fun i hi => by
  rw [e _ (by omega), e _ (by omega)]
  exact h i hi
theorem zok_I {q : zSt} (h : zok q) : zok (zqI q) := ⟨h.1, h.2.1, h.2.2.1, fun z hz => by
  have : z = (tW q, tA q, tV q) := (Option.some.inj hz).symm
  rw [this]
  exact h.2.2.1, h.2.2.2.2⟩
theorem op_image (q : zSt) (ho : zok q) : ∃ q', tC q' ≤ tC q + 1 ∧ (∀ M, zQx q M → ∃ M1, F_X11_image 0 M = zV M1 ∧ zQx q' M1 ∧ ∀ i, 79 ≤ i → M1 i = M i) ∧ (∀ M, zQm q M → ∃ M1, F_X12_image 79 M = zV M1 ∧ zQm q' M1 ∧ ∀ i, (i < 79 ∨ i = 124) → M1 i = M i) := by
  have hA40 := ho.2.2.1.2.1
  have hV8 := ho.2.2.1.2.2.2.1
  refine ⟨zqI q, Nat.le_succ _, fun M h => ?_, fun M h => ?_⟩
  · obtain ⟨hW, c0, hA, c1, hVx⟩ := qx_H h
    unfold F_X11_image
    rw [gr_0_6, gr_0_4, gr_0_8, gr_0_7]
    obtain ⟨M1, e1, hW1, o1⟩ := cp_w (d := 46) (c := 40) ⟨gr_46_1, gr_46_2⟩ ⟨gr_40_1, gr_40_2⟩ (by omega) hW
    rw [e1, zbV_V]
    have f1 : ∀ i, i ∉ [46, 47, 48] → M1 i = M i := o1
    obtain ⟨M2, e2, ⟨d0, d1, d2, d3⟩, o2⟩ := cp_r (S := tS q) (w := tW q) (l := tA q) (v := tV q) (M := M1) (d := 56) (c := 49) ⟨gr_56_2, gr_56_3, gr_56_4, gr_56_5, gr_56_6, gr_56_7⟩ ⟨gr_49_2, gr_49_3, gr_49_4, gr_49_5, gr_49_6, gr_49_7⟩ (by omega) hA40 hV8 (by rw [f1 49 (by decide)]; exact c0) (by
      rw [f1 (49 + 1) (by decide), f1 (49 + 2) (by decide), f1 (49 + 3) (by decide), f1 (49 + 4) (by decide)]
      exact hA) (by rw [f1 49 (by decide)]; exact c1) (by
      rw [f1 (49 + 5) (by decide), f1 (49 + 6) (by decide)]
      exact hVx)
    rw [e2, zbV_V, zbo_1, zck_t, zst_eq]
    have f2 : ∀ i, i ∉ [56, 57, 58, 59, 60, 61, 62] → M2 i = M1 i := o2
    have g : ∀ i, i ∉ [0, 46, 47, 48, 56, 57, 58, 59, 60, 61, 62] → zup M2 0 14 1 i = M i := fun i hi => by
      simp only [List.mem_cons, List.mem_nil_iff, or_false, not_or] at hi
      rw [zup_ne hi.1, f2 i (by simp only [List.mem_cons, List.mem_nil_iff, or_false, not_or]; exact hi.2.2.2.2), f1 i (by simp only [List.mem_cons, List.mem_nil_iff, or_false, not_or]; exact ⟨hi.2.1, hi.2.2.1, hi.2.2.2.1⟩)]
    have g15 : zup M2 0 14 1 0 15 = M 0 15 := by rw [zup_row, upd_ne (by omega), f2 0 (by decide), f1 0 (by decide)]
    refine ⟨_, rfl, ⟨zok_I ho, ?_, ⟨?_, ?_⟩, ?_, ?_, ?_, ?_⟩, fun i hi => g i (by simp only [List.mem_cons, List.mem_nil_iff, or_false]; omega)⟩
    · have h2 := h.2.1
      unfold zSx zLx zHx zWx at h2 ⊢
      rw [g 3 (by decide), g 5 (by decide), g 6 (by decide), g 13 (by decide), g 14 (by decide), g 15 (by decide), g 17 (by decide), g 18 (by decide), g 19 (by decide), g 20 (by decide), g 23 (by decide), g 9 (by decide), g 11 (by decide), g 40 (by decide), g (40 + 1) (by decide), g (40 + 2) (by decide), g 49 (by decide), g (49 + 1) (by decide), g (49 + 2) (by decide), g (49 + 3) (by decide), g (49 + 4) (by decide), g (49 + 5) (by decide), g (49 + 6) (by decide)]
      exact h2
    · rw [zup_row, upd_eq]
    · refine ⟨?_, ?_, ?_, ?_, ?_⟩
      · unfold zWx
        rw [zup_ne (by omega), zup_ne (by omega), zup_ne (by omega), f2 46 (by decide), f2 (46 + 1) (by decide), f2 (46 + 2) (by decide)]
        exact hW1
      · rw [zup_ne (by omega)]; exact d0
      · rw [zup_ne (by omega), zup_ne (by omega), zup_ne (by omega), zup_ne (by omega)]; exact d1
      · rw [zup_ne (by omega)]; exact d2
      · rw [zup_ne (by omega), zup_ne (by omega)]; exact d3
    · have h4 := h.2.2.2.1
      rw [g 1 (by decide), g 2 (by decide)]
      exact h4
    · have h5 := h.2.2.2.2.1
      rw [g 1 (by decide)]
      exact h5
    · have h6 := h.2.2.2.2.2.1
      rw [g 78 (by decide)]
      exact h6
    · have h7 := h.2.2.2.2.2.2
      unfold zmade at h7 ⊢
      rw [g15, g 67 (by decide), g 68 (by decide), g 69 (by decide), g 71 (by decide), g 72 (by decide), g 73 (by decide), g 76 (by decide), g 77 (by decide)]
      exact h7
  · obtain ⟨hW, c0, hA, c1, hVm⟩ := qm_H h
    unfold F_X12_image
    rw [gr_79_47, gr_79_76, gr_79_49, gr_79_77, gr_79_65, gr_79_78]
    rw [zst_eq, zbo_1, zck_t, zst_eq, zst_eq, zst_eq, cp_m zal102 zal121 (by omega) (by omega), zbV_V, cp_m zal104 zal122 (by omega) (by omega), zbV_V, cp_m zal116 zal123 (by omega) (by omega), zbV_V]
    refine ⟨_, rfl, ⟨zok_I ho, ?_, ⟨?_, ?_, ?_, ?_, ?_, ?_⟩, ?_, ?_, ?_, ?_⟩, fun i hi => ?_⟩
    · have h2 := h.2.1
      unfold zSm zLm at h2 ⊢
      simp (disch := omega) only [zup_ne, zupA_ne, zup_row, upd_ne]
      exact h2
    · simp (disch := omega) only [zup_ne, zupA_ne, zup_row, upd_ne, upd_eq]
    · simp (disch := omega) only [zup_ne, zupA_ne, zupA_eq]
      exact zWr_cg (fun i hi => if_pos hi) hW
    · simp (disch := omega) only [zup_ne, zupA_ne, zup_row, upd_ne, upd_eq]
      exact c0
    · simp (disch := omega) only [zup_ne, zupA_ne, zupA_eq]
      exact zAm_cg _ (fun i hi => if_pos (by have := hA40; omega)) hA
    · simp (disch := omega) only [zup_ne, zupA_ne, zup_row, upd_ne, upd_eq]
      exact c1
    · simp (disch := omega) only [zup_ne, zupA_ne, zupA_eq]
      exact zVm_cg hV8 (fun i hi => if_pos hi) hVm
    · have h4 := h.2.2.2.1
      simp (disch := omega) only [zup_ne, zupA_ne, zup_row, upd_ne]
      exact h4
    · have h5 := h.2.2.2.2.1
      simp (disch := omega) only [zup_ne, zupA_ne, zup_row, upd_ne]
      exact h5
    · have h6 := h.2.2.2.2.2.1
      simp (disch := omega) only [zup_ne, zupA_ne]
      exact h6
    · have h7 := h.2.2.2.2.2.2
      simp (disch := omega) only [zup_ne, zupA_ne, zup_row, upd_ne]
      exact h7
    · rw [zupA_ne (by omega), zupA_ne (by omega), zupA_ne (by omega), zup_ne (by omega), zup_ne (by omega), zup_ne (by omega), zup_ne (by omega)]
theorem op_restore (q : zSt) (ho : zok q) (hC : tC q < 600) : zOp 0 (F_X11_restore 0) (F_X12_restore 79) zNSE zIAE q := by
  have hY : ∀ M, F_X12_restore 79 M = F_X12_restore 79 (zup M 79 0 0) := fun M => by unfold F_X12_restore; rw [zup_idem]
  cases hG : tG q with
  | none =>
    refine zop_self hY (zop0_ret (r := 0) (fun M h => ⟨M, ?_, zoff_rfl⟩) (fun M h h0 => ⟨M, ?_, zoff_rfl⟩))
    · have h3 := h.2.2.1
      rw [hG] at h3
      unfold F_X11_restore
      rw [zit_t h3, zbo_0, zck_t]
    · have h3 := h.2.2.1
      rw [hG] at h3
      unfold F_X12_restore
      rw [zst_eq, zup_same h0, zit_t h3, zbo_0, zck_t]
  | some z =>
    have hk := ho.2.2.2.1 z hG
    refine zop_self hY ⟨zqA q z.1 z.2.1 z.2.2, 1, Nat.le_refl _, fun M h => ?_, fun M h h0 => ?_⟩
    · have h3 := h.2.2.1
      rw [hG] at h3
      obtain ⟨h14, hW, c0, hA, c1, hVx⟩ := h3
      unfold F_X11_restore
      rw [zit_f (by rw [h14]; decide), zst_eq, gr_0_4, gr_0_6, gr_0_7, gr_0_8]
      obtain ⟨M1, e1, hW1, o1⟩ := cp_w (w := z.1) (M := zup M 0 15 (M 0 15 + 1)) (d := 40) (c := 46) ⟨gr_40_1, gr_40_2⟩ ⟨gr_46_1, gr_46_2⟩ (by omega) (by
        unfold zWx
        rw [zup_ne (by omega), zup_ne (by omega), zup_ne (by omega)]
        exact hW)
      rw [e1, zbV_V]
      have f1 : ∀ i, i ∉ [0, 40, 41, 42] → M1 i = M i := fun i hi => by
        simp only [List.mem_cons, List.mem_nil_iff, or_false, not_or] at hi
        rw [o1 i (by simp only [List.mem_cons, List.mem_nil_iff, or_false, not_or]; exact hi.2), zup_ne hi.1]
      obtain ⟨M2, e2, ⟨d0, d1, d2, d3⟩, o2⟩ := cp_r (S := tS q) (w := z.1) (l := z.2.1) (v := z.2.2) (M := M1) (d := 49) (c := 56) ⟨gr_49_2, gr_49_3, gr_49_4, gr_49_5, gr_49_6, gr_49_7⟩ ⟨gr_56_2, gr_56_3, gr_56_4, gr_56_5, gr_56_6, gr_56_7⟩ (by omega) hk.2.1 hk.2.2.2.1 (by rw [f1 56 (by decide)]; exact c0) (by
        rw [f1 (56 + 1) (by decide), f1 (56 + 2) (by decide), f1 (56 + 3) (by decide), f1 (56 + 4) (by decide)]
        exact hA) (by rw [f1 56 (by decide)]; exact c1) (by
        rw [f1 (56 + 5) (by decide), f1 (56 + 6) (by decide)]
        exact hVx)
      rw [e2, zbV_V, zbo_1, zck_t]
      have f2 : ∀ i, i ∉ [49, 50, 51, 52, 53, 54, 55] → M2 i = M1 i := o2
      refine ⟨M2, rfl, zQx_act h hC hk (fun i h1 h2 h3 => ?_) ?_ ?_ ⟨?_, d0, d1, d2, d3⟩, fun i hi => ?_⟩
      · rw [f2 i (fun hz => h3 (by simp only [List.mem_cons, List.mem_nil_iff, or_false] at hz; rcases hz with rfl | rfl | rfl | rfl | rfl | rfl | rfl <;> decide)), f1 i (fun hz => h3 (by simp only [List.mem_cons, List.mem_nil_iff, or_false] at hz; rcases hz with rfl | rfl | rfl | rfl <;> decide))]
      · rw [f2 0 (by decide), o1 0 (by decide), zup_row, upd_ne (by omega)]
      · rw [f2 0 (by decide), o1 0 (by decide), zup_row, upd_eq]
      · unfold zWx
        rw [f2 40 (by decide), f2 (40 + 1) (by decide), f2 (40 + 2) (by decide)]
        exact hW1
      · rw [f2 i (by simp only [List.mem_cons, List.mem_nil_iff, or_false]; omega), f1 i (by simp only [List.mem_cons, List.mem_nil_iff, or_false]; omega)]
    · have h3 := h.2.2.1
      rw [hG] at h3
      obtain ⟨h14, hW, c0, hA, c1, hVm⟩ := h3
      unfold F_X12_restore
      rw [zst_eq, zup_same h0, zit_f (by rw [h14]; decide), gr_79_47, gr_79_76, gr_79_49, gr_79_77, gr_79_65, gr_79_78, zst_eq, zst_eq, cp_m zal121 zal102 (by omega) (by omega), zbV_V, cp_m zal122 zal104 (by omega) (by omega), zbV_V, cp_m zal123 zal116 (by omega) (by omega), zbV_V, zbo_1, zck_t]
      refine ⟨_, rfl, ?_, zQm_act h hC hk (fun i h1 h2 h3 h4 => ?_) (fun k h1 h2 h3 => ?_) ⟨?_, ?_, ?_, ?_, ?_⟩, fun i hi => ?_⟩
      · simp (disch := omega) only [zup_ne, zupA_ne, zup_row, upd_ne]
        exact h0
      · rw [zupA_ne (fun e => h4 (by rw [e]; decide)), zupA_ne (fun e => h4 (by rw [e]; decide)), zupA_ne (fun e => h4 (by rw [e]; decide)), zup_ne (by omega), zup_ne (by omega)]
      · simp (disch := omega) only [zup_ne, zupA_ne, zup_row, upd_ne]
      · simp (disch := omega) only [zup_ne, zupA_ne, zupA_eq]
        exact zWr_cg (fun i hi => if_pos hi) hW
      · simp (disch := omega) only [zup_ne, zupA_ne, zup_row, upd_ne, upd_eq]
        exact c0
      · simp (disch := omega) only [zup_ne, zupA_ne, zupA_eq]
        exact zAm_cg _ (fun i hi => if_pos (by have := hk.2.1; omega)) hA
      · simp (disch := omega) only [zup_ne, zupA_ne, zup_row, upd_ne, upd_eq]
        exact c1
      · simp (disch := omega) only [zup_ne, zupA_ne, zupA_eq]
        exact zVm_cg hk.2.2.2.1 (fun i hi => if_pos hi) hVm
      · rw [zupA_ne (by omega), zupA_ne (by omega), zupA_ne (by omega), zup_ne (by omega), zup_ne (by omega)]
