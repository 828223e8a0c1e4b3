/-! SALES -/
theorem zk_ex {X : zO} {K R : zM → zO} {P Q : zM → Prop} (h : ∃ M', X = K M' ∧ P M') (k : ∀ M', P M' → ∃ M4, K M' = R M4 ∧ Q M4) : ∃ M4, X = R M4 ∧ Q M4 := by
  obtain ⟨M', e, p⟩ := h
  obtain ⟨M4, e4, q4⟩ := k M' p
  exact ⟨M4, e.trans e4, q4⟩
theorem zMr_off {S : zSD} {k : Nat} {R : List (List Nat × (Nat → Nat))} {M M' : zM} (h : zMr S k R M) (e1 : M' 79 71 = M 79 71) (e2 : M' 119 = M 119) (e3 : M' 120 = M 120) : zMr S k R M' := by
  unfold zMr
  rw [e1, e2, e3]
  exact h
section ZSA
variable {q : zSt}
theorem sel_m {M : zM} (h : zQm q M) {k : Nat} (hk : k ≤ 3) : ∃ M', F_X12_sells 79 (nI k) M = zV M' ∧ (zMr (tS q) k (zrf q k) M' ∧ zSr M M') := by
  have ho := qm_o h
  have h8 := qo_n ho
  have hP := zpr_28 (tS q 0 0) (by omega)
  have hA : (zpr (tS q 0 0)).length ^ k < 22000 := by
    have h1 : (zpr (tS q 0 0)).length ^ k ≤ 28 ^ k := Nat.pow_le_pow_left hP k
    have h2 : 28 ^ k ≤ 28 ^ 3 := Nat.pow_le_pow_right (by decide) hk
    omega
  unfold F_X12_sells
  rw [zst_eq]
  have r0 : zSr M (zup M 79 70 0) := zSr_f (Or.inl rfl)
  refine zk_ex (cq_m h8 _ _ (sm_n (qm_S (zSr_q h r0))) (by rw [zup_row, upd_eq])) ?_
  rintro M1 ⟨hc1, r1⟩
  refine zk_ex (oft_m _ _) ?_
  rintro M2 ⟨hz2, o2⟩
  rw [zst_eq, pw_m (C := (zpr (tS q 0 0)).length) hk _ (by rw [zup_row, upd_ne (by omega), o2 79 (by decide)]; exact hc1.1)]
  obtain ⟨M3, hM3⟩ : ∃ M3, zup M2 79 71 0 = M3 := ⟨_, rfl⟩
  rw [hM3]
  have r3 : zSr M M3 := by
    rw [← hM3]
    exact zSr_trans r0 (zSr_trans r1 (zSr_trans (zSr_of o2 (by decide)) (zSr_f (Or.inr rfl))))
  have hc3 : zcq M3 (zpr (tS q 0 0)) := by
    unfold zcq
    rw [← hM3, zup_row, upd_ne (by omega), zup_ne (by omega), o2 79 (by decide), o2 117 (by decide)]
    exact hc1
  have hm3 : zMr (tS q) k (zRx q k 0) M3 := by
    refine ⟨by rw [← hM3, zup_row, upd_eq]; rfl, fun z l hzl => (nomatch hzl), fun i j hi hj => ?_⟩
    rw [← hM3, zup_ne (by omega), hz2 _ (by omega)]
    rfl
  refine zfor (i := 0) (f := zN) (a := M3) ((zpr (tS q 0 0)).length ^ k) (fun f x (M4 : zM) => F_X12_sells_L114 79 (nI k) (nI ((zpr (tS q 0 0)).length ^ k)) (fun (M24 : zM) => zV M24) f (nI x) M4) (fun x M4 => zcq M4 (zpr (tS q 0 0)) ∧ zMr (tS q) k (zRx q k x) M4 ∧ zSr M M4) (fun o => ∃ M', o = zV M' ∧ (zMr (tS q) k (zrf q k) M' ∧ zSr M M')) ?_ ?_ (by omega) (zN_ge (by omega)) ⟨hc3, hm3, r3⟩
  · rintro f x M4 hx ⟨hc4, hm4, r4⟩
    refine Or.inr ?_
    show ∃ M', F_X12_sells_L114 79 (nI k) (nI ((zpr (tS q 0 0)).length ^ k)) (fun (M24 : zM) => zV M24) (f + 1) (nI x) M4 = F_X12_sells_L114 79 (nI k) (nI ((zpr (tS q 0 0)).length ^ k)) (fun (M24 : zM) => zV M24) f (nI (x + 1)) M' ∧ _
    have hlen := zRx_len q k x
    rw [F_X12_sells_L114, zit_f (nI_ge hx (by omega)), zlt_eq]
    refine zk_ex (dg_m hP hk hx _ _ _ hc4) ?_
    rintro M5 ⟨h118, o5⟩
    try dsimp only
    rw [gr_79_47, gr_79_48, gr_79_67, gr_79_68, cp_m zal102 zal103 (by omega) (by omega), zbV_V]
    obtain ⟨M6, hM6⟩ : ∃ M6, zupA M5 103 (fun i => if i < 73 then M5 102 i else M5 103 i) = M6 := ⟨_, rfl⟩
    rw [hM6]
    have o6 : zoff [103] M5 M6 := by rw [← hM6]; exact zoff_upA zoff_rfl (by decide)
    have r6 : zSr M M6 := zSr_trans r4 (zSr_trans (zSr_of o5 (by decide)) (zSr_of o6 (by decide)))
    have h6 : zQm q M6 := zSr_q h r6
    have hW6 : zWr (M6 103) 0 ((tW q).1, (tW q).2.1, (tW q).2.2) := by
      have e : ∀ i, i < 73 → M6 103 i = M6 102 i := fun i hi => by rw [← hM6, zupA_eq, if_pos hi, zupA_ne (by omega)]
      have hw := qm_W h6
      exact ⟨fun i hi => by rw [e _ (by omega)]; exact hw.1 i hi, fun i hi => by rw [e _ (by omega)]; exact hw.2.1 i hi, by rw [e _ (by omega)]; exact hw.2.2⟩
    have hp : zpk (tS q 0 0) (tW q).1 := ⟨(qo_W ho).1, (qo_W ho).2.2.1⟩
    have hD : ∀ s ∈ zdg (zpr (tS q 0 0)) k x, s.1 < tS q 0 0 ∧ s.2 < tS q 0 0 ∧ s.1 < s.2 := fun s hs => zpr_in (tS q 0 0) (by omega) s (zdg_in _ k x hx s hs)
    refine zk_ex (rn_m _ _ _ h6 (zdg_len _ k x) hk hD (fun j hj => by rw [o6 118 (by decide)]; exact h118 j hj) hp hW6) ?_
    rintro M7 ⟨hr7, o7⟩
    try dsimp only
    have r7 : zSr M M7 := zSr_trans r6 (zSr_of o7 (by decide))
    have h7 : zQm q M7 := zSr_q h r7
    have o47 : ∀ i, i ≠ 103 → i ≠ 105 → i ≠ 106 → i ≠ 118 → M7 i = M4 i := fun i a1 a2 a3 a4 => by
      rw [o7 i (by simp only [List.mem_cons, List.mem_nil_iff, or_false]; omega), o6 i (by simp only [List.mem_cons, List.mem_nil_iff, or_false]; omega), o5 i (by simp only [List.mem_cons, List.mem_nil_iff, or_false]; omega)]
    have hc7 : zcq M7 (zpr (tS q 0 0)) := by
      unfold zcq
      rw [o47 79 (by omega) (by omega) (by omega) (by omega), o47 117 (by omega) (by omega) (by omega) (by omega)]
      exact hc4
    have hm7 : zMr (tS q) k (zRx q k x) M7 := zMr_off hm4 (by rw [o47 79 (by omega) (by omega) (by omega) (by omega)]) (o47 119 (by omega) (by omega) (by omega) (by omega)) (o47 120 (by omega) (by omega) (by omega) (by omega))
    cases hg : zgx (tS q) (tL q) (tW q) (zdg (zpr (tS q 0 0)) k x) (tW q).1 with
    | none =>
      rw [if_neg (by decide), sn_m0]
      try dsimp only
      rw [zjo_eq, zit_t rfl, nI_1]
      refine ⟨M7, rfl, hc7, ?_, r7⟩
      rw [zRx_none (by unfold zrx; rw [hg]; rfl)]
      exact hm7
    | some r =>
      have hr := hr7 r hg
      have hpr : zpk (tS q 0 0) r := zgx_pk h8 _ _ r (fun s hs => ⟨(hD s hs).1, (hD s hs).2.1⟩) hp hg
      have ex : zrx (tS q) (tL q) (tW q) k (tW q).1 x = some ((zdg (zpr (tS q 0 0)) k x).map (fun s => 10 * s.1 + s.2), r) := by
        unfold zrx
        rw [hg]
        rfl
      rw [show (some r).isSome = true from rfl, if_pos rfl, sn_m _ _ _ _ h7 hpr (wr_n hr)]
      try dsimp only
      rw [zjo_eq]
      by_cases hf : zfit (tV q) r = true
      · rw [if_pos hf, zit_f (by decide), zjo_eq]
        have main : ∀ M8 : zM, zoff [119] M7 M8 → (∀ z l, zRx q k (x + 1) = z :: l → ∀ j, j < k → M8 119 j = nI (z.1.getD j 0)) → ∃ M', zst (zup M8 79 71 (M8 79 71 + 1)) (fun M20 => F_X12_sells_L357 79 (nI k) (nI ((zpr (tS q 0 0)).length ^ k)) (nI x) (fun (M22 : zM) => F_X12_sells_L114 79 (nI k) (nI ((zpr (tS q 0 0)).length ^ k)) (fun (M24 : zM) => zV M24) f (nI x + 1) M22) zN 0 M20) = F_X12_sells_L114 79 (nI k) (nI ((zpr (tS q 0 0)).length ^ k)) (fun (M24 : zM) => zV M24) f (nI (x + 1)) M' ∧ (zcq M' (zpr (tS q 0 0)) ∧ zMr (tS q) k (zRx q k (x + 1)) M' ∧ zSr M M') := fun M8 o8 h119 => by
          rw [zst_eq, o8 79 (by decide), hm7.1, show nI (zRx q k x).length + 1 = nI ((zRx q k x).length + 1) from nI_1 _, show nI x + 1 = nI (x + 1) from nI_1 _]
          have r8 : zSr M (zup M8 79 71 (nI ((zRx q k x).length + 1))) := zSr_trans r7 (zSr_trans (zSr_of o8 (by decide)) (zSr_f (Or.inr rfl)))
          refine zk_ex (ty_m _ _ _ _ h8 (sm_n (qm_S (zSr_q h r8))) hpr (fun i hi => by
            rw [zup_ne (by omega), o8 103 (by decide)]
            exact wr_n hr i hi) ((zdg (zpr (tS q 0 0)) k x).map (fun s => 10 * s.1 + s.2)) (R := zRx q k x) (fun i j hi hj => by
            rw [zup_ne (by omega), o8 120 (by decide)]
            exact hm7.2.2 i j hi hj)) ?_
          rintro M9 ⟨ht9, o9⟩
          try dsimp only
          refine ⟨M9, rfl, ?_, ⟨?_, fun z l hzl j hj => ?_, ?_⟩, zSr_trans r8 (zSr_of o9 (by decide))⟩
          · unfold zcq
            rw [o9 79 (by decide), o9 117 (by decide), zup_row, upd_ne (by omega), zup_ne (by omega), o8 79 (by decide), o8 117 (by decide)]
            exact hc7
          · rw [o9 79 (by decide), zup_row, upd_eq, zRx_some ex hf, List.length_append]
            rfl
          · rw [o9 119 (by decide), zup_ne (by omega)]
            exact h119 z l hzl j hj
          · rw [zRx_some ex hf]
            exact ht9
        cases hR : zRx q k x with
        | nil =>
          rw [zit_t (by rw [hm7.1, hR]; rfl), cp_m zal118 zal119 (by omega) (by omega), zbV_V]
          try dsimp only
          refine main _ (zoff_upA zoff_rfl (by decide)) (fun z l hzl j hj => ?_)
          rw [zRx_some ex hf, hR] at hzl
          have ez : z = ((zdg (zpr (tS q 0 0)) k x).map (fun s => 10 * s.1 + s.2), r) := (List.cons.inj hzl).1.symm
          rw [zupA_eq, if_pos (by omega), o7 118 (by decide), o6 118 (by decide), h118 j hj, ez]
          congr 1
          have hl : j < (zdg (zpr (tS q 0 0)) k x).length := by rw [zdg_len]; exact hj
          simp [List.getD_eq_getElem?_getD, hl]
        | cons z0 l0 =>
          rw [zit_f (by rw [hm7.1, hR]; exact nI_ne0 (by simp only [List.length_cons]; omega) (by rw [hR] at hlen; omega))]
          try dsimp only
          refine main M7 zoff_rfl (fun z l hzl j hj => ?_)
          rw [zRx_some ex hf, hR] at hzl
          have ez : z0 = z := (List.cons.inj hzl).1
          rw [← ez]
          exact hm7.2.1 z0 l0 hR j hj
      · rw [if_neg hf, zit_t rfl, nI_1]
        refine ⟨M7, rfl, hc7, ?_, r7⟩
        rw [zRx_out ex hf]
        exact hm7
  · rintro f M4 ⟨hc4, hm4, r4⟩
    show ∃ M', F_X12_sells_L114 79 (nI k) (nI ((zpr (tS q 0 0)).length ^ k)) (fun (M24 : zM) => zV M24) (f + 1) (nI ((zpr (tS q 0 0)).length ^ k)) M4 = _ ∧ _
    rw [F_X12_sells_L114, zit_t (nI_le (Nat.le_refl _) (by omega))]
    rw [zRx_rf] at hm4
    exact ⟨M4, rfl, hm4, r4⟩
end ZSA
