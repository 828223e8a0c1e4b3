/-! year -/
def zyr (S : zSD) (L : zLw) (w : zWD) : Nat → Nat × Nat × zWD
  | 0 => (0, 0, w)
  | f + 1 => if nI (S 9 f) = w.2.2 ∧ zmay S L (zyr S L w f).2.2 (S 10 f) (S 11 f) = true then ((zyr S L w f).1 + 2 ^ f, (zyr S L w f).2.1 + 1, zWex S (S 10 f) (S 11 f) (zyr S L w f).2.2) else zyr S L w f
def zWyr (S : zSD) (L : zLw) (w : zWD) : zWD := ((zyr S L w (S 1 0)).2.2.1, (zyr S L w (S 1 0)).2.2.2.1, w.2.2 + 1)
theorem zyr_s {S : zSD} {L : zLw} {w : zWD} {f : Nat} : zyr S L w (f + 1) = if nI (S 9 f) = w.2.2 ∧ zmay S L (zyr S L w f).2.2 (S 10 f) (S 11 f) = true then ((zyr S L w f).1 + 2 ^ f, (zyr S L w f).2.1 + 1, zWex S (S 10 f) (S 11 f) (zyr S L w f).2.2) else zyr S L w f := rfl
theorem zyr_ok {S : zSD} {L : zLw} {w : zWD} (ho : zSok S) (hk : zWok S w) : ∀ f, f ≤ S 1 0 → (zyr S L w f).1 < 2 ^ f ∧ zWok S (zyr S L w f).2.2 ∧ (zyr S L w f).2.2.2.2 = w.2.2 := by
  intro f
  induction f with
  | zero => intro _; exact ⟨Nat.one_pos, hk, rfl⟩
  | succ f ih =>
    intro hf
    obtain ⟨h1, h2, h3⟩ := ih (by omega)
    obtain ⟨-, g2, g3, g4⟩ := so_g ho f (by omega)
    have hp : 2 ^ (f + 1) = 2 ^ f + 2 ^ f := by rw [Nat.pow_succ]; omega
    rw [zyr_s]
    by_cases hc : nI (S 9 f) = w.2.2 ∧ zmay S L (zyr S L w f).2.2 (S 10 f) (S 11 f) = true
    · rw [if_pos hc]
      exact ⟨by show _ + 2 ^ f < _; omega, zWex_ok ho h2 g2 g3 g4, h3⟩
    · rw [if_neg hc]
      exact ⟨by omega, h2, h3⟩
theorem zWyr_ok {S : zSD} {L : zLw} {w : zWD} (ho : zSok S) (hk : zWok S w) : zWok S (zWyr S L w) := (zyr_ok ho hk (S 1 0) (Nat.le_refl _)).2.1
theorem zbor : ∀ f, f < 12 → ∀ h, h < 2 ^ f → nI h ||| ((1 : Int32) <<< (nI f &&& 31)) = nI (h + 2 ^ f) := by decide +kernel
section ZYR
variable {S : zSD} {L : zLw} {w : zWD} {M : zM}
theorem py_x {c : Nat} (hc : c = 40 ∨ c = 43) (hS : zSx S M) (ho : zSok S) (hl : zLok L) (hL : zLx L M) (hW : zWx c w M) (hk : zWok S w) : ∃ M', F_X10_passYear c M = zI (nI (zyr S L w (S 1 0)).1) M' ∧ (zWx c (zWyr S L w) M' ∧ zoff [10, 12, c, c + 1, c + 2] M M') := by
  have hg : zgr c 0 = 3 ∧ 20 < c := by
    rcases hc with rfl | rfl
    · exact ⟨gr_40_0, by decide⟩
    · exact ⟨gr_43_0, by decide⟩
  obtain ⟨g0, gc⟩ := hg
  have hf := so_f ho
  unfold F_X10_passYear
  refine zfor (i := 0) (f := zN) (a := M) (S 1 0) (fun n f (M1 : zM) => F_X10_passYear_L4 c (fun (y1 : Int32) (M4 : zM) => zst (zup M4 c 3 ((M4 c 3) + 1)) (fun M5 => zI y1 M5)) n (nI (zyr S L w f).1) (nI f) M1) (fun f M1 => zWx c (zyr S L w f).2.2 M1 ∧ zoff [10, 12, c + 1, c + 2] M M1) (fun o => ∃ M', o = zI (nI (zyr S L w (S 1 0)).1) M' ∧ (zWx c (zWyr S L w) M' ∧ zoff [10, 12, c, c + 1, c + 2] M M')) ?_ ?_ (by omega) (zN_ge (by omega)) ⟨hW, zoff_rfl⟩
  · rintro n f M1 hf1 ⟨hW1, o1⟩
    refine Or.inr ?_
    obtain ⟨b1, b2, b3⟩ := zyr_ok (L := L) ho hk f (by omega)
    obtain ⟨g9, g10, g11, gne⟩ := so_g ho f hf1
    have p12 := zbor f (by omega) _ b1
    have e1 : ∀ i, i < 20 → i ≠ 10 → i ≠ 12 → M1 i = M i := fun i h1 h2 h3 => o1 i (by simp only [List.mem_cons, List.mem_nil_iff, or_false]; omega)
    have hS1 : zSx S M1 := zSx_off hS (fun i hi => o1 i (fun hz => by
      simp only [List.mem_cons, List.mem_nil_iff, or_false] at hi hz
      omega))
    have hL1 : zLx L M1 := zLx_off hL (e1 9 (by omega) (by omega) (by omega)) (e1 11 (by omega) (by omega) (by omega))
    have hy : M1 c 3 = w.2.2 := hW1.2.2.trans b3
    show ∃ M2, F_X10_passYear_L4 c _ (n + 1) _ _ M1 = F_X10_passYear_L4 c _ n _ _ M2 ∧ _
    rw [F_X10_passYear_L4]
    simp (disch := omega) only [zbI_I, zbI_E, zbV_V, zbV_E, zbJ_J, zbH_I, zbH_E, zlt_eq, zltL_eq, zst_eq, zjo_eq, zck_t, zbo_0, zbo_1, zbo_n0, zbo_n1, c_le_f, g0, gr_3_11, gr_3_12, gr_3_13, zin_k, zix_k, sx_f hS1, sx_9 hS1, sx_10 hS1, sx_11 hS1, hy, nI_1]
    rw [zyr_s]
    by_cases hq : nI (S 9 f) = w.2.2
    · rw [zit_t hq]
      obtain ⟨M2, e2, o2⟩ := lt_x hc hS1 ho hl hL1 hW1 b2 g10 g11
      rw [e2, zbI_I]
      have o12 : zoff [10, 12, c + 1, c + 2] M M2 := zoff_trans o1 (zoff_mono o2 (fun i hi => by
        simp only [List.mem_cons, List.mem_nil_iff, or_false] at hi ⊢
        omega))
      have hW2 : zWx c (zyr S L w f).2.2 M2 := by
        unfold zWx
        rw [o2 c (by simp only [List.mem_cons, List.mem_nil_iff, or_false]; omega), o2 (c + 1) (by simp only [List.mem_cons, List.mem_nil_iff, or_false]; omega), o2 (c + 2) (by simp only [List.mem_cons, List.mem_nil_iff, or_false]; omega)]
        exact hW1
      cases hm : zmay S L (zyr S L w f).2.2 (S 10 f) (S 11 f) with
      | false =>
        rw [if_neg (by decide), zit_t rfl, if_neg (fun z => absurd z.2 (by decide))]
        exact ⟨M2, rfl, hW2, o12⟩
      | true =>
        rw [if_pos rfl, zit_f (by decide), if_pos ⟨hq, rfl⟩]
        have hS2 : zSx S M2 := zSx_off hS1 (fun i hi => o2 i (fun hz => by
          simp only [List.mem_cons, List.mem_nil_iff, or_false] at hi hz
          omega))
        obtain ⟨M3, e3, hW3, o3⟩ := ex_x hc hS2 ho hW2 b2 g10 g11 gne
        rw [e3, zbI_I, p12]
        exact ⟨M3, rfl, hW3, zoff_trans o12 (zoff_mono o3 (fun i hi => by
          simp only [List.mem_cons, List.mem_nil_iff, or_false] at hi ⊢
          omega))⟩
    · rw [zit_f hq, if_neg (fun z => hq z.1)]
      exact ⟨M1, rfl, hW1, o1⟩
  · rintro n M1 ⟨hW1, o1⟩
    obtain ⟨b1, b2, b3⟩ := zyr_ok (L := L) ho hk (S 1 0) (Nat.le_refl _)
    have e3 : M1 3 = M 3 := o1 3 (by simp only [List.mem_cons, List.mem_nil_iff, or_false]; omega)
    show ∃ M', F_X10_passYear_L4 c _ (n + 1) _ _ M1 = _ ∧ _
    rw [F_X10_passYear_L4, g0, e3, sx_f hS, zit_t (nI_le (Nat.le_refl _) (by omega)), zst_eq]
    refine ⟨_, rfl, ⟨fun i hi => ?_, fun k hk8 => ?_, ?_⟩, fun z hz => ?_⟩
    · rw [zup_ne (by omega)]
      exact hW1.1 i hi
    · rw [zup_ne (by omega)]
      exact hW1.2.1 k hk8
    · rw [zup_row, upd_eq, hW1.2.2, b3]
      rfl
    · simp only [List.mem_cons, List.mem_nil_iff, or_false, not_or] at hz
      rw [zup_ne hz.2.2.1, o1 z (by simp only [List.mem_cons, List.mem_nil_iff, or_false, not_or]; exact ⟨hz.1, hz.2.1, hz.2.2.2.1, hz.2.2.2.2⟩)]
theorem yo_m {r : Nat} (hr : r = 102 ∨ r = 103) (hS : zSm S M) (ho : zSok S) (hl : zLok L) (hL : zLm L M) (hW : zWr (M r) 0 w) (hk : zWok S w) : ∃ M', F_X12_yearOf 79 r M = zI (nI (zyr S L w (S 1 0)).2.1) M' ∧ (zWr (M' r) 0 (zWyr S L w) ∧ zoff [105, 106, r] M M') := by
  have hg : zal r = 73 ∧ 100 < r ∧ r < 105 := by
    rcases hr with rfl | rfl
    · exact ⟨zal102, by decide, by decide⟩
    · exact ⟨zal103, by decide, by decide⟩
  obtain ⟨g0, gc, gd⟩ := hg
  have hf := so_f ho
  have hn := so_n ho
  unfold F_X12_yearOf
  refine zfor (i := 0) (f := zN) (a := M) (S 1 0) (fun n f (M1 : zM) => F_X12_yearOf_L4 79 r (fun (y1 : Int32) (M4 : zM) => zck (zin 72 (zal r)) (zck (zin 72 (zal r)) (zst (zup M4 r (zix 72) ((M4 r (zix 72)) + 1)) (fun M5 => zI y1 M5)))) n (nI (zyr S L w f).2.1) (nI f) M1) (fun f M1 => zWr (M1 r) 0 (zyr S L w f).2.2 ∧ zoff [105, 106, r] M M1) (fun o => ∃ M', o = zI (nI (zyr S L w (S 1 0)).2.1) M' ∧ (zWr (M' r) 0 (zWyr S L w) ∧ zoff [105, 106, r] M M')) ?_ ?_ (by omega) (zN_ge (by omega)) ⟨hW, zoff_rfl⟩
  · rintro n f M1 hf1 ⟨hW1, o1⟩
    refine Or.inr ?_
    obtain ⟨b1, b2, b3⟩ := zyr_ok (L := L) ho hk f (by omega)
    obtain ⟨g9, g10, g11, gne⟩ := so_g ho f hf1
    have hS1 : zSm S M1 := zSm_off hS (fun k hk => by rw [o1 79 (by simp only [List.mem_cons, List.mem_nil_iff, or_false]; omega)]) (fun i hi => o1 i (fun hz => by
      simp only [List.mem_cons, List.mem_nil_iff, or_false] at hi hz
      omega))
    have hL1 : zLm L M1 := zLm_off hL (by rw [o1 79 (by simp only [List.mem_cons, List.mem_nil_iff, or_false]; omega)]) (o1 88 (by simp only [List.mem_cons, List.mem_nil_iff, or_false]; omega))
    have hy : M1 r 72 = w.2.2 := (wr_y hW1).trans b3
    show ∃ M2, F_X12_yearOf_L4 79 r _ (n + 1) _ _ M1 = F_X12_yearOf_L4 79 r _ n _ _ M2 ∧ _
    rw [F_X12_yearOf_L4]
    simp (disch := omega) only [zbI_I, zbI_E, zbV_V, zbV_E, zbJ_J, zbH_I, zbH_E, zlt_eq, zltL_eq, zst_eq, zjo_eq, zck_t, zbo_0, zbo_1, zbo_n0, zbo_n1, c_le_f, g0, gr_79_12, li_3, li_72, li_1, li_2, pk_mul, nI_add, zin_k, zix_k, sm_f hS1, sm_9 hS1, sm_10 hS1, sm_11 hS1, hy]
    rw [zyr_s]
    by_cases hq : nI (S 9 f) = w.2.2
    · rw [zit_t hq]
      obtain ⟨M2, e2, o2⟩ := lt_m hr hS1 ho hl hL1 hW1 (a := S 10 f) (b := S 11 f) (by omega) (by omega) (wo_n b2 _ g10) (wo_n b2 _ g11)
      rw [e2, zbI_I]
      have o12 : zoff [105, 106, r] M M2 := zoff_trans o1 (zoff_mono o2 (fun i hi => by
        simp only [List.mem_cons, List.mem_nil_iff, or_false] at hi ⊢
        omega))
      have hW2 : zWr (M2 r) 0 (zyr S L w f).2.2 := by
        rw [o2 r (by simp only [List.mem_cons, List.mem_nil_iff, or_false]; omega)]
        exact hW1
      have hS2 : zSm S M2 := zSm_off hS1 (fun k hk => by rw [o2 79 (by decide)]) (fun i hi => o2 i (fun hz => by
        simp only [List.mem_cons, List.mem_nil_iff, or_false] at hi hz
        omega))
      cases hm : zmay S L (zyr S L w f).2.2 (S 10 f) (S 11 f) with
      | false =>
        rw [if_neg (by decide), zit_t rfl, if_neg (fun z => absurd z.2 (by decide))]
        exact ⟨M2, rfl, hW2, o12⟩
      | true =>
        rw [if_pos rfl, zit_f (by decide), if_pos ⟨hq, rfl⟩]
        simp (disch := omega) only [sm_10 hS2, sm_11 hS2]
        obtain ⟨M3, e3, hW3, o3⟩ := si_m hr hS2 ho hW2 b2 g10 g11 gne
        rw [e3, zbV_V]
        exact ⟨M3, rfl, hW3, zoff_trans o12 (zoff_mono o3 (fun i hi => by
          simp only [List.mem_cons, List.mem_nil_iff, or_false] at hi ⊢
          omega))⟩
    · rw [zit_f hq, if_neg (fun z => hq z.1)]
      exact ⟨M1, rfl, hW1, o1⟩
  · rintro n M1 ⟨hW1, o1⟩
    obtain ⟨b1, b2, b3⟩ := zyr_ok (L := L) ho hk (S 1 0) (Nat.le_refl _)
    have e3 : M1 79 = M 79 := o1 79 (by simp only [List.mem_cons, List.mem_nil_iff, or_false]; omega)
    show ∃ M', F_X12_yearOf_L4 79 r _ (n + 1) _ _ M1 = _ ∧ _
    rw [F_X12_yearOf_L4, e3, sm_f hS, zit_t (nI_le (Nat.le_refl _) (by omega))]
    simp (disch := omega) only [zbI_I, zbI_E, zbV_V, zbV_E, zbJ_J, zbH_I, zbH_E, zlt_eq, zltL_eq, zst_eq, zjo_eq, zck_t, zbo_0, zbo_1, zbo_n0, zbo_n1, g0, li_72, zin_k, zix_k]
    refine ⟨_, rfl, ⟨fun i hi => ?_, fun k hk8 => ?_, ?_⟩, fun z hz => ?_⟩
    · rw [zup_row, upd_ne (by omega)]
      exact hW1.1 i hi
    · rw [zup_row, upd_ne (by omega)]
      exact hW1.2.1 k hk8
    · show zup M1 r 72 (M1 r 72 + 1) r 72 = w.2.2 + 1
      rw [zup_row, upd_eq, wr_y hW1, b3]
    · rw [zup_ne (fun e => hz (by rw [e]; simp)), o1 z hz]
end ZYR
/-- how many bits -/
def zBC (a0 : Int32) : Int32 := (fun v1 : Int32 => (fun v2 : Int32 => (fun v3 : Int32 => (fun v4 : Int32 => (fun v5 : Int32 => v5 &&& 63) (v4 + ((v4.toUInt32 >>> ((16 : Int32).toUInt32 &&& Int32.toUInt32 31)).toInt32))) (v3 + ((v3.toUInt32 >>> ((8 : Int32).toUInt32 &&& Int32.toUInt32 31)).toInt32))) ((v2 + ((v2.toUInt32 >>> ((4 : Int32).toUInt32 &&& Int32.toUInt32 31)).toInt32)) &&& 252645135)) ((v1 &&& 858993459) + (((v1.toUInt32 >>> ((2 : Int32).toUInt32 &&& Int32.toUInt32 31)).toInt32) &&& 858993459))) (a0 - (((a0.toUInt32 >>> ((1 : Int32).toUInt32 &&& Int32.toUInt32 31)).toInt32) &&& 1431655765))
theorem bc_F (a : Int32) (M : zM) : F_J6_bitCount_0f7a4 a M = zI (zBC a) M := rfl
theorem bc_s : ∀ f, f < 12 → ∀ h, h < 2 ^ f → zBC (nI (h + 2 ^ f)) = zBC (nI h) + 1 := by decide +kernel
theorem bc_yr {S : zSD} {L : zLw} {w : zWD} (ho : zSok S) (hk : zWok S w) : ∀ f, f ≤ S 1 0 → zBC (nI (zyr S L w f).1) = nI (zyr S L w f).2.1 := by
  intro f
  induction f with
  | zero =>
    intro _
    show zBC (nI 0) = nI 0
    decide
  | succ f ih =>
    intro hf
    have hf12 := so_f ho
    obtain ⟨h1, h2, h3⟩ := zyr_ok (L := L) ho hk f (by omega)
    rw [zyr_s]
    by_cases hc : nI (S 9 f) = w.2.2 ∧ zmay S L (zyr S L w f).2.2 (S 10 f) (S 11 f) = true
    · rw [if_pos hc]
      show zBC (nI ((zyr S L w f).1 + 2 ^ f)) = nI ((zyr S L w f).2.1 + 1)
      rw [bc_s f (by omega) _ h1, ih (by omega), nI_1]
    · rw [if_neg hc]
      exact ih (by omega)
/-- a year taken back -/
theorem zbt0 : ∀ f, f < 12 → ∀ u, u < 64 → ∀ v, v < 64 → decide ((nI (64 * u + v) >>> (nI f &&& 31)) &&& 1 = 1) = decide ((64 * u + v) / 2 ^ f % 2 = 1) := by decide +kernel
theorem zbt (f : Nat) (hf : f < 12) (h : Nat) (hh : h < 4096) : decide ((nI h >>> (nI f &&& 31)) &&& 1 = 1) = decide (h / 2 ^ f % 2 = 1) := by
  have := zbt0 f hf (h / 64) (by omega) (h % 64) (by omega)
  rwa [show 64 * (h / 64) + h % 64 = h from by omega] at this
theorem zWyb_cg {S : zSD} (ho : zSok S) (H : Int32) : ∀ f, f ≤ S 1 0 → ∀ u v, zWeq u v → zWeq (zWyb S H f u) (zWyb S H f v)
  | 0, _, u, v, h => h
  | f + 1, hf, u, v, h => by
    have hn := so_n ho
    obtain ⟨-, g2, g3, -⟩ := so_g ho f (by omega)
    refine zWyb_cg ho H f (by omega) _ _ ?_
    by_cases hb : (H >>> (nI f &&& 31)) &&& 1 = 1
    · rw [if_pos hb, if_pos hb]
      exact zWex_cg (by omega) (by omega) h
    · rw [if_neg hb, if_neg hb]
      exact h
theorem zWeq_tr {u v w : zWD} (h1 : zWeq u v) (h2 : zWeq v w) : zWeq u w := ⟨fun i hi => (h1.1 i hi).trans (h2.1 i hi), fun k hk => (h1.2.1 k hk).trans (h2.2.1 k hk), h1.2.2.trans h2.2.2⟩
theorem zpw {h f g : Nat} (hg : g < f) : (h + 2 ^ f) / 2 ^ g % 2 = h / 2 ^ g % 2 := by
  obtain ⟨m, rfl⟩ : ∃ m, f = g + 1 + m := ⟨f - g - 1, by omega⟩
  have e : 2 ^ (g + 1 + m) = 2 ^ g * (2 * 2 ^ m) := by
    rw [Nat.pow_add, Nat.pow_succ, Nat.mul_assoc]
  rw [e, Nat.add_mul_div_left _ _ (Nat.two_pow_pos g)]
  omega
theorem yb_yr {S : zSD} {L : zLw} {w : zWD} (ho : zSok S) (hk : zWok S w) : ∀ f, f ≤ S 1 0 → ∀ H, H < 4096 → (∀ g, g < f → H / 2 ^ g % 2 = (zyr S L w f).1 / 2 ^ g % 2) → zWeq w (zWyb S (nI H) f (zyr S L w f).2.2) := by
  intro f
  induction f with
  | zero => intro _ H _ _; exact ⟨fun _ _ => rfl, fun _ _ => rfl, rfl⟩
  | succ f ih =>
    intro hf H hH hb
    have hf12 := so_f ho
    have hn := so_n ho
    obtain ⟨h1, h2, h3⟩ := zyr_ok (L := L) ho hk f (by omega)
    obtain ⟨-, g2, g3, g4⟩ := so_g ho f (by omega)
    have hbit := zbt f (by omega) H hH
    have hbf := hb f (Nat.lt_succ_self _)
    rw [zyr_s] at hb hbf ⊢
    by_cases hc : nI (S 9 f) = w.2.2 ∧ zmay S L (zyr S L w f).2.2 (S 10 f) (S 11 f) = true
    · rw [if_pos hc] at hb hbf ⊢
      have q1 : H / 2 ^ f % 2 = 1 := by
        rw [hbf]
        show ((zyr S L w f).1 + 2 ^ f) / 2 ^ f % 2 = 1
        rw [Nat.add_div_right _ (Nat.two_pow_pos f), Nat.div_eq_of_lt h1]
      have q2 : (nI H >>> (nI f &&& 31)) &&& 1 = 1 := by
        rw [decide_eq_true q1] at hbit
        exact of_decide_eq_true hbit
      show zWeq w (zWyb S (nI H) f (if (nI H >>> (nI f &&& 31)) &&& 1 = 1 then zWex S (S 10 f) (S 11 f) (zWex S (S 10 f) (S 11 f) (zyr S L w f).2.2) else _))
      rw [if_pos q2]
      refine zWeq_tr (ih (by omega) H hH (fun g hg => ?_)) (zWyb_cg ho _ f (by omega) _ _ (zWex_2 (by omega) (by omega) g4 h2.2.2.2))
      rw [hb g (by omega)]
      exact zpw hg
    · rw [if_neg hc] at hb hbf ⊢
      have q1 : ¬ H / 2 ^ f % 2 = 1 := by
        rw [hbf, Nat.div_eq_of_lt h1]
        decide
      have q2 : ¬ (nI H >>> (nI f &&& 31)) &&& 1 = 1 := by
        rw [decide_eq_false q1] at hbit
        exact of_decide_eq_false hbit
      show zWeq w (zWyb S (nI H) f (if (nI H >>> (nI f &&& 31)) &&& 1 = 1 then _ else (zyr S L w f).2.2))
      rw [if_neg q2]
      exact ih (by omega) H hH (fun g hg => hb g (by omega))
