/-! PERMITS, kept by the class -/
def zPk (S : zSD) (L : zLw) (w : zWD) (row : Nat → Int32) : Prop := ∀ a b i j, a < S 0 0 → b < S 0 0 → i < S 0 0 → j < S 0 0 → row (((a * 8 + b) * 8 + i) * 8 + j) = 0 ∨ row (((a * 8 + b) * 8 + i) * 8 + j) = if zmw S L w a b i j = true then 1 else 2
theorem zal68 : zal 68 = 4096 := by decide +kernel
section ZPM
variable {S : zSD} {L : zLw} {w : zWD} {M : zM}
theorem al_x (hS : zSx S M) (ho : zSok S) (hl : zLok L) (hL : zLx L M) (hW : zWx 40 w M) (hc : zPk S L w (M 68)) {a b i j : Nat} (ha : a < S 0 0) (hb : b < S 0 0) (hi : i < S 0 0) (hj : j < S 0 0) : ∃ M', F_X2_allow 67 (nI a) (nI b) (nI i) (nI j) M = zI (if zmw S L w a b i j = true then 1 else 0) M' ∧ (zPk S L w (M' 68) ∧ zoff [10, 12, 68] M M') := by
  have h8 := so_n ho
  have hx : ((a * 8 + b) * 8 + i) * 8 + j < 4096 := by omega
  have e0 : (nI a * 8 + nI b) * 8 + nI i = nI ((a * 8 + b) * 8 + i) := by rw [show (8 : Int32) = nI 8 from rfl, pk_mul, nI_add, pk_mul, nI_add]
  have e1 : ((nI a * 8 + nI b) * 8 + nI i) * 8 + nI j = nI (((a * 8 + b) * 8 + i) * 8 + j) := by rw [e0, show (8 : Int32) = nI 8 from rfl, pk_mul, nI_add]
  unfold F_X2_allow
  rw [e1, zlt_eq, zin_k hx (by omega), zck_t, zjo_eq, gr_67_1, gr_67_0, zix_k (k := ((a * 8 + b) * 8 + i) * 8 + j) (by omega)]
  rcases hc a b i j ha hb hi hj with h0 | h1
  · rw [zit_t h0]
    obtain ⟨M1, f1, o1⟩ := lw_xx (L := L) (Or.inl rfl) hS ho hl hL hW (a := a) (b := b) (by omega) (by omega) hi hj
    rw [f1, zbI_I, zjo_eq]
    have o68 : M1 68 = M 68 := o1 68 (by decide)
    have fin : ∀ v : Int32, v = (if zmw S L w a b i j = true then 1 else 2) → zPk S L w (zup M1 68 (((a * 8 + b) * 8 + i) * 8 + j) v 68) := fun v hv a' b' i' j' ha' hb' hi' hj' => by
      rw [zup_row, o68]
      by_cases e : ((a' * 8 + b') * 8 + i') * 8 + j' = ((a * 8 + b) * 8 + i) * 8 + j
      · obtain ⟨rfl, rfl, rfl, rfl⟩ : a' = a ∧ b' = b ∧ i' = i ∧ j' = j := by omega
        rw [upd_eq]
        exact Or.inr hv
      · rw [upd_ne e]
        exact hc a' b' i' j' ha' hb' hi' hj'
    cases hz : zmw S L w a b i j with
    | true =>
      rw [if_pos rfl, zit_f (by decide)]
      dsimp only
      rw [show ((1 : Int32).toInt8.toInt32.toInt8.toInt32) = 1 from by decide, zck_t, zst_eq, zck_t, zjo_eq, zup_row, upd_eq, zit_t rfl]
      exact ⟨_, rfl, fin 1 (by rw [hz]; rfl), zoff_up (zoff_mono o1 (by decide)) (by decide)⟩
    | false =>
      rw [if_neg (by decide), zit_t (by decide)]
      dsimp only
      rw [show ((2 : Int32).toInt8.toInt32.toInt8.toInt32) = 2 from by decide, zck_t, zst_eq, zck_t, zjo_eq, zup_row, upd_eq, zit_f (by decide)]
      exact ⟨_, rfl, fin 2 (by rw [hz]; rfl), zoff_up (zoff_mono o1 (by decide)) (by decide)⟩
  · have hne : ¬ M 68 (((a * 8 + b) * 8 + i) * 8 + j) = 0 := by
      rw [h1]
      cases zmw S L w a b i j <;> decide
    rw [zit_f hne]
    dsimp only
    rw [zck_t, zjo_eq, h1]
    refine ⟨M, ?_, hc, zoff_rfl⟩
    cases zmw S L w a b i j <;> rfl
theorem rn_x {k : Nat} (ho : zSok S) (hc : M 67 2 = nI k → zPk S L w (M 68)) : ∃ M', F_X2_renew 67 (nI k) M = zV M' ∧ (M' 67 2 = nI k ∧ zPk S L w (M' 68) ∧ zoff [67, 68] M M') := by
  unfold F_X2_renew
  rw [zjo_eq]
  by_cases h : M 67 2 = nI k
  · rw [zit_t h]
    exact ⟨M, rfl, h, hc h, zoff_rfl⟩
  · rw [zit_f h, zst_eq, gr_67_1, fb_x zal68 (by omega), zbV_V]
    refine ⟨_, rfl, ?_, fun a b i j ha hb hi hj => Or.inl ?_, zoff_upA (zoff_up zoff_rfl (by decide)) (by decide)⟩
    · rw [zupA_ne (by omega), zup_row, upd_eq]
    · have h8 := so_n ho
      rw [zupA_eq, if_pos (by omega)]
      decide
end ZPM
