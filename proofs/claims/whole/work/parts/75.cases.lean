/-! A CALL OF THE LAW: both sides keep to one abstract answer -/
theorem zal124 : zal 124 = 1 := by decide +kernel
theorem lgc (x : Int64) : lg_cmp x x = 0 := by
  unfold lg_cmp
  simp
theorem zgA_up (M : zM) (v : Int64) : zgA (zupB M 124 0 v) 124 0 = v := by
  unfold zgA zupB
  simp only [zup_at]
  simp [zmk_eq]
def zOx (A : zSt → zM → Prop) (X : zM → zO) (q q' : zSt) (E1 E2 : String) (code : Nat) (r : Int32) : Prop :=
  ∀ M, A q M → ∃ M1, ((code = 0 ∧ X M = zI r M1) ∨ (code = 1 ∧ X M = zE E1 M1) ∨ (code = 2 ∧ X M = zE E2 M1)) ∧ A q' M1 ∧ ∀ i, 79 ≤ i → M1 i = M i
def zOm (B : zSt → zM → Prop) (Y : zM → zO) (q q' : zSt) (code : Nat) (r : Int32) : Prop :=
  ∀ M, B q M → ∃ M1 r', Y M = zI r' M1 ∧ M1 79 0 = nI code ∧ (code = 0 → r' = r) ∧ B q' M1 ∧ ∀ i, (i < 79 ∨ i = 124) → M1 i = M i
section ZCS
variable {A B : zSt → zM → Prop}
variable {X Y H : zM → zO} {q q' : zSt} {E1 E2 : String} {code : Nat} {r : Int32} {M : zM} {k1 : zM → zO} {bad bad2 : zM → zO}
/-- a call whose helper catches; an int -/
theorem zcaseI (hA : ∀ q M M', A q M → (∀ i, i < 79 → M' i = M i) → A q M') (hB : ∀ q M M', B q M → (∀ i, 79 ≤ i → i < 124 → M' i = M i) → B q M') (hX : zOx A X q q' E1 E2 code r) (hY : zOm B Y q q' code r) {h : String → zM → zO} (hH : ∀ M, H M = zbH (X M) (fun r1 M1 => zck (zin 0 (zal 124)) (zst (zupB M1 124 (zix 0) r1.toInt64) (fun M2 => zI 0 M2))) h)
    (h1 : code = 1 → ∀ M, h E1 M = zI 1 M) (h2 : code = 2 → ∀ M, h E2 M = zI 2 M) (ha : A q M) (hb : B q M) :
    ∃ M', zbI (H M) (fun r3 M3 => zbI (Y M3) (fun r4 M4 => zbI (F_X12_thrown 79 M4) (fun r5 M5 => zit (r5 = r3) (zjo (fun (M6 : zM) => k1 M6) (fun (k2 : zM → zO) => zit (r3 = 0) (zck (zin 0 1) (zit ((lg_cmp (zgA M5 124 (zix 0)) r4.toInt64) = 0) (k2 M5) (bad M5))) (k2 M5))) (bad2 M5)))) = k1 M' ∧ A q' M' ∧ B q' M' := by
  obtain ⟨M1, hx, ha1, ho1⟩ := hX M ha
  have z01 : zin 0 1 = true := by decide
  have zi0 : zix 0 = 0 := by decide
  rcases hx with ⟨rfl, e⟩ | ⟨rfl, e⟩ | ⟨rfl, e⟩
  · have e1 : H M = zI 0 (zupB M1 124 0 r.toInt64) := by rw [hH, e, zbH_I, zal124, z01, zck_t, zst_eq, zi0]
    have hoff : ∀ i, i ≠ 124 → zupB M1 124 0 r.toInt64 i = M1 i := fun i hi => by unfold zupB; rw [zup_ne hi, zup_ne hi]
    have hb1 : B q (zupB M1 124 0 r.toInt64) := hB q M _ hb (fun i h1 h2 => by rw [hoff i (by omega)]; exact ho1 i h1)
    obtain ⟨M2, r', e2, e3, e4, hb2, ho2⟩ := hY _ hb1
    refine ⟨M2, ?_, hA q' _ M2 ha1 (fun i hi => by rw [ho2 i (Or.inl hi), hoff i (by omega)]), hb2⟩
    have e5 : zgA M2 124 0 = r.toInt64 := by
      have : zgA M2 124 0 = zgA (zupB M1 124 0 r.toInt64) 124 0 := by unfold zgA; rw [ho2 124 (Or.inr rfl)]
      rw [this, zgA_up]
    rw [e1, zbI_I, e2, zbI_I, pm_thrown, zbI_I, e3, zit_t (show nI 0 = (0 : Int32) from rfl), zjo_eq, zit_t rfl, z01, zck_t, zi0, e5, e4 rfl, zit_t (lgc _)]
  · have e1 : H M = zI 1 M1 := by rw [hH, e, zbH_E, h1 rfl]
    have hb1 : B q M1 := hB q M _ hb (fun i h1 h2 => ho1 i h1)
    obtain ⟨M2, r', e2, e3, e4, hb2, ho2⟩ := hY _ hb1
    refine ⟨M2, ?_, hA q' _ M2 ha1 (fun i hi => by rw [ho2 i (Or.inl hi)]), hb2⟩
    rw [e1, zbI_I, e2, zbI_I, pm_thrown, zbI_I, e3, zit_t (show nI 1 = (1 : Int32) from rfl), zjo_eq, zit_f (by decide)]
  · have e1 : H M = zI 2 M1 := by rw [hH, e, zbH_E, h2 rfl]
    have hb1 : B q M1 := hB q M _ hb (fun i h1 h2 => ho1 i h1)
    obtain ⟨M2, r', e2, e3, e4, hb2, ho2⟩ := hY _ hb1
    refine ⟨M2, ?_, hA q' _ M2 ha1 (fun i hi => by rw [ho2 i (Or.inl hi)]), hb2⟩
    rw [e1, zbI_I, e2, zbI_I, pm_thrown, zbI_I, e3, zit_t (show nI 2 = (2 : Int32) from rfl), zjo_eq, zit_f (by decide)]
/-- a call whose helper catches; a boolean -/
theorem zcaseZ (hA : ∀ q M M', A q M → (∀ i, i < 79 → M' i = M i) → A q M') (hB : ∀ q M M', B q M → (∀ i, 79 ≤ i → i < 124 → M' i = M i) → B q M') (hX : zOx A X q q' E1 E2 code r) (hY : zOm B Y q q' code r) {h : String → zM → zO} (hH : ∀ M, H M = zbH (X M) (fun r1 M1 => zjo (fun (w1 : Int64) (M2 : zM) => zck (zin 0 (zal 124)) (zst (zupB M2 124 (zix 0) w1) (fun M3 => zI 0 M3))) (fun (k1 : Int64 → zM → zO) => zit (r1 = 0) (k1 0 M1) (k1 1 M1))) h)
    (h1 : code = 1 → ∀ M, h E1 M = zI 1 M) (h2 : code = 2 → ∀ M, h E2 M = zI 2 M) (ha : A q M) (hb : B q M) :
    ∃ M', zbI (H M) (fun r3 M3 => zbI (Y M3) (fun r4 M4 => zbI (F_X12_thrown 79 M4) (fun r5 M5 => zit (r5 = r3) (zjo (fun (M6 : zM) => k1 M6) (fun (k2 : zM → zO) => zit (r3 = 0) (zck (zin 0 1) (zjo (fun (w1 : Int64) (M7 : zM) => zit ((lg_cmp (zgA M5 124 (zix 0)) w1) = 0) (k2 M7) (bad M7)) (fun (k9 : Int64 → zM → zO) => zit (r4 = 0) (k9 0 M5) (k9 1 M5)))) (k2 M5))) (bad2 M5)))) = k1 M' ∧ A q' M' ∧ B q' M' := by
  obtain ⟨M1, hx, ha1, ho1⟩ := hX M ha
  have z01 : zin 0 1 = true := by decide
  have zi0 : zix 0 = 0 := by decide
  rcases hx with ⟨rfl, e⟩ | ⟨rfl, e⟩ | ⟨rfl, e⟩
  · obtain ⟨v, hv⟩ : ∃ v : Int64, v = if r = 0 then 0 else 1 := ⟨_, rfl⟩
    have e1 : H M = zI 0 (zupB M1 124 0 v) := by
      rw [hH, e, zbH_I]
      simp only [zjo_eq, zal124, z01, zck_t, zst_eq, zi0]
      by_cases h0 : r = 0
      · rw [zit_t h0, hv, if_pos h0]
      · rw [zit_f h0, hv, if_neg h0]
    have hoff : ∀ i, i ≠ 124 → zupB M1 124 0 v i = M1 i := fun i hi => by unfold zupB; rw [zup_ne hi, zup_ne hi]
    have hb1 : B q (zupB M1 124 0 v) := hB q M _ hb (fun i h1 h2 => by rw [hoff i (by omega)]; exact ho1 i h1)
    obtain ⟨M2, r', e2, e3, e4, hb2, ho2⟩ := hY _ hb1
    refine ⟨M2, ?_, hA q' _ M2 ha1 (fun i hi => by rw [ho2 i (Or.inl hi), hoff i (by omega)]), hb2⟩
    have e5 : zgA M2 124 0 = v := by
      have : zgA M2 124 0 = zgA (zupB M1 124 0 v) 124 0 := by unfold zgA; rw [ho2 124 (Or.inr rfl)]
      rw [this, zgA_up]
    rw [e1, zbI_I, e2, zbI_I, pm_thrown, zbI_I, e3, zit_t (show nI 0 = (0 : Int32) from rfl), zjo_eq, zit_t rfl, z01, zck_t, zi0, e5, e4 rfl]
    simp only [zjo_eq]
    by_cases h0 : r = 0
    · rw [zit_t h0, hv, if_pos h0, zit_t (lgc _)]
    · rw [zit_f h0, hv, if_neg h0, zit_t (lgc _)]
  · have e1 : H M = zI 1 M1 := by rw [hH, e, zbH_E, h1 rfl]
    have hb1 : B q M1 := hB q M _ hb (fun i h1 h2 => ho1 i h1)
    obtain ⟨M2, r', e2, e3, e4, hb2, ho2⟩ := hY _ hb1
    refine ⟨M2, ?_, hA q' _ M2 ha1 (fun i hi => by rw [ho2 i (Or.inl hi)]), hb2⟩
    rw [e1, zbI_I, e2, zbI_I, pm_thrown, zbI_I, e3, zit_t (show nI 1 = (1 : Int32) from rfl), zjo_eq, zit_f (by decide)]
  · have e1 : H M = zI 2 M1 := by rw [hH, e, zbH_E, h2 rfl]
    have hb1 : B q M1 := hB q M _ hb (fun i h1 h2 => ho1 i h1)
    obtain ⟨M2, r', e2, e3, e4, hb2, ho2⟩ := hY _ hb1
    refine ⟨M2, ?_, hA q' _ M2 ha1 (fun i hi => by rw [ho2 i (Or.inl hi)]), hb2⟩
    rw [e1, zbI_I, e2, zbI_I, pm_thrown, zbI_I, e3, zit_t (show nI 2 = (2 : Int32) from rfl), zjo_eq, zit_f (by decide)]
/-- a call that never throws; compared, or without an answer -/
theorem zcaseD (hA : ∀ q M M', A q M → (∀ i, i < 79 → M' i = M i) → A q M') (hB : ∀ q M M', B q M → (∀ i, 79 ≤ i → i < 124 → M' i = M i) → B q M') (hX : zOx A X q q' E1 E2 0 r) (hY : zOm B Y q q' 0 r) (ha : A q M) (hb : B q M) :
    ∃ M', zbI (X M) (fun r1 M1 => zbI (Y M1) (fun r2 M2 => zit (r1 = r2) (k1 M2) (bad M2))) = k1 M' ∧ A q' M' ∧ B q' M' := by
  obtain ⟨M1, hx, ha1, ho1⟩ := hX M ha
  rcases hx with ⟨-, e⟩ | ⟨h, -⟩ | ⟨h, -⟩
  · have hb1 : B q M1 := hB q M _ hb (fun i h1 h2 => ho1 i h1)
    obtain ⟨M2, r', e2, e3, e4, hb2, ho2⟩ := hY _ hb1
    exact ⟨M2, by rw [e, zbI_I, e2, zbI_I, e4 rfl, zit_t rfl], hA q' _ M2 ha1 (fun i hi => by rw [ho2 i (Or.inl hi)]), hb2⟩
  · cases h
  · cases h
theorem zcaseV (hA : ∀ q M M', A q M → (∀ i, i < 79 → M' i = M i) → A q M') (hB : ∀ q M M', B q M → (∀ i, 79 ≤ i → i < 124 → M' i = M i) → B q M') (hX : ∀ M, A q M → ∃ M1, X M = zV M1 ∧ A q' M1 ∧ ∀ i, 79 ≤ i → M1 i = M i) (hY : ∀ M, B q M → ∃ M1, Y M = zV M1 ∧ B q' M1 ∧ ∀ i, (i < 79 ∨ i = 124) → M1 i = M i) (ha : A q M) (hb : B q M) :
    ∃ M', zbV (X M) (fun M1 => zbV (Y M1) (fun M2 => k1 M2)) = k1 M' ∧ A q' M' ∧ B q' M' := by
  obtain ⟨M1, e, ha1, ho1⟩ := hX M ha
  have hb1 : B q M1 := hB q M _ hb (fun i h1 h2 => ho1 i h1)
  obtain ⟨M2, e2, hb2, ho2⟩ := hY _ hb1
  exact ⟨M2, by rw [e, zbV_V, e2, zbV_V], hA q' _ M2 ha1 (fun i hi => by rw [ho2 i (Or.inl hi)]), hb2⟩
end ZCS
