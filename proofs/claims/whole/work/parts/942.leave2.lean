/-! leave, the reference's -/
section ZLM2
variable {S : zSD} {w : zWD}
theorem bt_m {s : Nat} (hs : s < 256) (M : zM) : F_X12_bits (nI s) M = zI (nI (zcu (zbi s) 8)) M := by
  unfold F_X12_bits
  refine zfor (i := 0) (f := zN) (a := ()) 8 (fun f k (_ : Unit) => F_X12_bits_L4 (nI s) (fun (y1 : Int32) (M1 : zM) => zI y1 M1) f (nI (zcu (zbi s) k)) (nI k) M) (fun _ _ => True) (fun o => o = _) ?_ ?_ (by omega) (zN_ge (by omega)) trivial
  · rintro f k _ hk -
    refine Or.inr ⟨(), ?_, trivial⟩
    show F_X12_bits_L4 (nI s) _ (f + 1) _ _ M = F_X12_bits_L4 (nI s) _ f _ _ M
    rw [F_X12_bits_L4, zit_f (show ¬ (8 : Int32) ≤ nI k from nI_ge (b := 8) hk (by omega)), zlt_eq, bi_all s hs k hk, nI_add, nI_1]
    congr 2
    by_cases h : s / 2 ^ k % 2 = 1
    · rw [zcu_t (decide_eq_true h), h]
    · rw [zcu_f (decide_eq_false h), show s / 2 ^ k % 2 = 0 from by omega, Nat.add_zero]
  · rintro f _ -
    show F_X12_bits_L4 (nI s) _ (f + 1) _ _ M = _
    rw [F_X12_bits_L4, zit_t (by decide)]
theorem ll_m {T : Nat} (hT : T < 256) (h0 : 0 < T) (x1 : Int32) (K : Int32 → zM → zO) (M : zM) : F_X12_leave_L21 79 x1 (nI T) K zN 0 M = K (nI (zll T)) M := by
  obtain ⟨l1, l2, l3⟩ := lo_b T hT h0
  refine zfor (i := 0) (f := zN) (a := ()) (zll T) (fun f k (_ : Unit) => F_X12_leave_L21 79 x1 (nI T) K f (nI k) M) (fun _ _ => True) (fun o => o = _) ?_ ?_ (by omega) (zN_ge (by omega)) trivial
  · rintro f k _ hk -
    refine Or.inr ⟨(), ?_, trivial⟩
    show F_X12_leave_L21 79 x1 (nI T) K (f + 1) _ M = F_X12_leave_L21 79 x1 (nI T) K f _ M
    rw [F_X12_leave_L21, zit_t (by rw [bi_0 hT (by omega), l3 k (by omega) hk]), nI_1]
  · rintro f _ -
    show F_X12_leave_L21 79 x1 (nI T) K (f + 1) _ M = _
    rw [F_X12_leave_L21, zit_f (by rw [bi_0 hT (by omega), l1]; decide)]
/-- the entry at work: those ends below c are told -/
def zfM (S : zSD) (w : zWD) (T c e : Nat) : Bool := zbi T e && (decide (T = 2 ^ e) || (decide (zll T < e ∧ e < c) && zax (fun k => zE' S w (zcb T e) k && zwt S w k e) (S 0 0)))
theorem pull_m {M : zM} (hS : zSm S M) (ho : zSok S) (hW : zWr (M 102) 0 w) (hk : zWok S w) {T e B0 : Nat} (hT : T < 256) (h0 : 0 < T) (he : e < S 0 0) (hA : B0 < 256) (hAb : ∀ k, k < 8 → zbi B0 k = zE' S w (zcb T e) k) {g : Nat → Bool} (hB : ∃ B, B < 256 ∧ M 108 T = nI B ∧ ∀ k, k < 8 → zbi B k = g k) (x1 x3 : Int32) (K : zM → zO) : ∃ M', F_X12_leave_L97 79 x1 (nI T) x3 (nI e) (nI B0) K zN 0 M = K M' ∧ ((∃ B, B < 256 ∧ M' 108 T = nI B ∧ ∀ k, k < 8 → zbi B k = (g k || (decide (k = e) && zax (fun k => zE' S w (zcb T e) k && zwt S w k e) (S 0 0)))) ∧ (∀ s, s ≠ T → M' 108 s = M 108 s) ∧ zoff [108] M M') := by
  have h8 := so_n ho
  refine zfor (i := 0) (f := zN) (a := M) (S 0 0) (fun f c (M1 : zM) => F_X12_leave_L97 79 x1 (nI T) x3 (nI e) (nI B0) K f (nI c) M1) (fun c M1 => (∃ B, B < 256 ∧ M1 108 T = nI B ∧ ∀ k, k < 8 → zbi B k = (g k || (decide (k = e) && zax (fun k => zE' S w (zcb T e) k && zwt S w k e) c))) ∧ (∀ s, s ≠ T → M1 108 s = M 108 s) ∧ zoff [108] M M1) (fun o => ∃ M', o = K M' ∧ ((∃ B, B < 256 ∧ M' 108 T = nI B ∧ ∀ k, k < 8 → zbi B k = (g k || (decide (k = e) && zax (fun k => zE' S w (zcb T e) k && zwt S w k e) (S 0 0)))) ∧ (∀ s, s ≠ T → M' 108 s = M 108 s) ∧ zoff [108] M M')) ?_ ?_ (by omega) (zN_ge (by omega)) ⟨?_, fun _ _ => rfl, zoff_rfl⟩
  · rintro f c M1 hc ⟨⟨B, b1, b2, b3⟩, g1, o1⟩
    refine Or.inr ?_
    obtain ⟨hS1, hW1⟩ := okm hS hW (zoff_mono o1 (by decide))
    have hw := wr_n hW1
    show ∃ M2, F_X12_leave_L97 79 x1 (nI T) x3 (nI e) (nI B0) K (f + 1) (nI c) M1 = F_X12_leave_L97 79 x1 (nI T) x3 (nI e) (nI B0) K f (nI (c + 1)) M2 ∧ _
    rw [F_X12_leave_L97, sm_n hS1, zit_f (nI_ge hc (by omega)), zjo_eq, nI_1]
    have same : (zE' S w (zcb T e) c && zwt S w c e) = false → (∃ B, B < 256 ∧ M1 108 T = nI B ∧ ∀ k, k < 8 → zbi B k = (g k || (decide (k = e) && zax (fun k => zE' S w (zcb T e) k && zwt S w k e) (c + 1)))) ∧ (∀ s, s ≠ T → M1 108 s = M 108 s) ∧ zoff [108] M M1 := fun hz => ⟨⟨B, b1, b2, fun k hk8 => by rw [b3 k hk8, zax_s, hz, Bool.or_false]⟩, g1, o1⟩
    cases hEc : zE' S w (zcb T e) c with
    | false =>
      rw [zit_f (by rw [bi_1 hA (by omega), hAb c (by omega), hEc]; decide)]
      exact ⟨M1, rfl, same (by rw [hEc]; rfl)⟩
    | true =>
      rw [zit_t (by rw [bi_1 hA (by omega), hAb c (by omega), hEc]), gr_79_47, zin_k (k := e) (n := 73) (by omega) (by omega), zck_t, zin_k (k := c) (n := 73) (by omega) (by omega), zck_t, zix_k (k := e) (by omega), zix_k (k := c) (by omega), hw e (by omega), hw c (by omega), lk_m hS1 ho hW1 hk hc (wo_n hk e he) (wo_n hk c hc), zbI_I]
      cases hz : zlk S w c (w.1 e) (w.1 c) with
      | false =>
        rw [if_neg (by decide), zit_t (by decide)]
        exact ⟨M1, rfl, same (by unfold zwt; rw [hz, Bool.and_false])⟩
      | true =>
        obtain ⟨p1, p2⟩ := zpb_b B b1 e (by omega)
        rw [if_pos rfl, zit_f (by decide), zin_k (k := T) (n := 256) hT (by omega), zck_t, zck_t, zst_eq, gr_79_54, zix_k (k := T) (by omega), b2, bset B b1 e (by omega)]
        refine ⟨_, rfl, ⟨zpb B e, p1, by rw [zup_row, upd_eq], fun k hk8 => ?_⟩, fun s hs => by rw [zup_row, upd_ne hs, g1 s hs], zoff_up o1 (by decide)⟩
        have hz' : zwt S w c e = true := hz
        rw [p2 k hk8, b3 k hk8, zax_s, hEc, hz']
        cases g k <;> cases decide (k = e) <;> cases zax (fun k => zE' S w (zcb T e) k && zwt S w k e) c <;> rfl
  · rintro f M1 ⟨g2, g1, o1⟩
    obtain ⟨hS1, hW1⟩ := okm hS hW (zoff_mono o1 (by decide))
    show ∃ M', F_X12_leave_L97 79 x1 (nI T) x3 (nI e) (nI B0) K (f + 1) _ M1 = _ ∧ _
    rw [F_X12_leave_L97, sm_n hS1, zit_t (nI_le (Nat.le_refl _) (by omega))]
    exact ⟨M1, rfl, g2, g1, o1⟩
  · obtain ⟨B, b1, b2, b3⟩ := hB
    exact ⟨B, b1, b2, fun k hk8 => by
      rw [b3 k hk8]
      show g k = (g k || (decide (k = e) && false))
      rw [Bool.and_false, Bool.or_false]⟩
/-- ends of sets below -/
def zTl (S : zSD) (w : zWD) (T : Nat) (row : Nat → Int32) : Prop := ∀ s, 0 < s → s < T → ∃ B, B < 256 ∧ row s = nI B ∧ ∀ e, e < 8 → zbi B e = zE' S w s e
theorem ends_m {M : zM} (hS : zSm S M) (ho : zSok S) (hW : zWr (M 102) 0 w) (hk : zWok S w) {T : Nat} (hT : T < 256) (h0 : 0 < T) (hTn : T < 2 ^ S 0 0) (hl : zTl S w T (M 108)) (hB : ∃ B, B < 256 ∧ M 108 T = nI B ∧ ∀ k, k < 8 → zbi B k = zfM S w T (zll T + 1) k) (x1 : Int32) (K : zM → zO) : ∃ M', F_X12_leave_L58 79 x1 (nI T) (nI (zll T)) K zN (nI (zll T + 1)) M = K M' ∧ (zTl S w (T + 1) (M' 108) ∧ zoff [108] M M') := by
  have h8 := so_n ho
  obtain ⟨l1, l2, l3⟩ := lo_b T hT h0
  have hln := in_lt (S 0 0) (by omega) T hT hTn (zll T) l2 l1
  refine zfor (i := zll T + 1) (f := zN) (a := M) (S 0 0) (fun f c (M1 : zM) => F_X12_leave_L58 79 x1 (nI T) (nI (zll T)) K f (nI c) M1) (fun c M1 => zll T < c ∧ (∃ B, B < 256 ∧ M1 108 T = nI B ∧ ∀ k, k < 8 → zbi B k = zfM S w T c k) ∧ (∀ s, s ≠ T → M1 108 s = M 108 s) ∧ zoff [108] M M1) (fun o => ∃ M', o = K M' ∧ (zTl S w (T + 1) (M' 108) ∧ zoff [108] M M')) ?_ ?_ (by omega) (zN_ge (by omega)) ⟨by omega, hB, fun _ _ => rfl, zoff_rfl⟩
  · rintro f c M1 hc ⟨hlc, hB1, g1, o1⟩
    refine Or.inr ?_
    obtain ⟨hS1, hW1⟩ := okm hS hW (zoff_mono o1 (by decide))
    show ∃ M2, F_X12_leave_L58 79 x1 (nI T) (nI (zll T)) K (f + 1) (nI c) M1 = F_X12_leave_L58 79 x1 (nI T) (nI (zll T)) K f (nI (c + 1)) M2 ∧ _
    rw [F_X12_leave_L58, sm_n hS1, zit_f (nI_ge hc (by omega)), zjo_eq, nI_1]
    cases hb : zbi T c with
    | false =>
      rw [zit_t (by rw [bi_0 hT (by omega), hb])]
      obtain ⟨B, b1, b2, b3⟩ := hB1
      refine ⟨M1, rfl, by omega, ⟨B, b1, b2, fun k hk8 => ?_⟩, g1, o1⟩
      rw [b3 k hk8]
      unfold zfM
      by_cases hkc : k = c
      · rw [hkc, hb, Bool.false_and, Bool.false_and]
      · congr 3
        exact decide_eq_decide.mpr ⟨fun z => ⟨z.1, by omega⟩, fun z => ⟨z.1, by omega⟩⟩
    | true =>
      obtain ⟨q1, q2, q3, q4⟩ := cutl T hT c (by omega) hb (by omega)
      obtain ⟨A, a1, a2, a3⟩ := hl (zcb T c) q3 q2
      rw [zit_f (by rw [bi_0 hT (by omega), hb]; decide), bcl T hT c (by omega), zin_k (k := zcb T c) (n := 256) (by omega) (by omega), zck_t, gr_79_54, zix_k (k := zcb T c) (by omega), g1 _ (by omega), a2, zlt_eq]
      obtain ⟨M2, e2, ⟨B, b1, b2, b3⟩, g2, o2⟩ := pull_m hS1 ho hW1 hk hT h0 hc a1 a3 hB1 x1 (nI (zll T)) (fun (M8 : zM) => F_X12_leave_L58 79 x1 (nI T) (nI (zll T)) K f (nI (c + 1)) M8)
      refine ⟨M2, e2, by omega, ⟨B, b1, b2, fun k hk8 => ?_⟩, fun s hs => by rw [g2 s hs, g1 s hs], zoff_trans o1 o2⟩
      rw [b3 k hk8]
      unfold zfM
      by_cases hkc : k = c
      · rw [hkc, hb, decide_eq_true (rfl : c = c), decide_eq_false (show ¬ (zll T < c ∧ c < c) from fun z => by omega), decide_eq_true (show zll T < c ∧ c < c + 1 from ⟨hlc, by omega⟩)]
        cases decide (T = 2 ^ c) <;> cases zax (fun k => zE' S w (zcb T c) k && zwt S w k c) (S 0 0) <;> rfl
      · rw [decide_eq_false hkc, Bool.false_and, Bool.or_false]
        congr 3
        exact decide_eq_decide.mpr ⟨fun z => ⟨z.1, by omega⟩, fun z => ⟨z.1, by omega⟩⟩
  · rintro f M1 ⟨hlc, ⟨B, b1, b2, b3⟩, g1, o1⟩
    obtain ⟨hS1, hW1⟩ := okm hS hW (zoff_mono o1 (by decide))
    show ∃ M', F_X12_leave_L58 79 x1 (nI T) (nI (zll T)) K (f + 1) _ M1 = _ ∧ _
    rw [F_X12_leave_L58, sm_n hS1, zit_t (nI_le (Nat.le_refl _) (by omega))]
    refine ⟨M1, rfl, fun s s1 s2 => ?_, o1⟩
    by_cases hsT : s = T
    · subst hsT
      refine ⟨B, b1, b2, fun k hk8 => ?_⟩
      rw [b3 k hk8, zE_eq hT hk8]
      unfold zfM
      cases hb : zbi s k with
      | false => rfl
      | true =>
        congr 2
        congr 1
        by_cases hkl : k = zll s
        · rw [decide_eq_true hkl, decide_eq_false (fun z => by omega)]
          rfl
        · have := (cutl s hT k hk8 hb hkl).2.2.2
          rw [decide_eq_false hkl, decide_eq_true ⟨this, in_lt (S 0 0) (by omega) s hT hTn k hk8 hb⟩]
          rfl
    · obtain ⟨B', c1, c2, c3⟩ := hl s s1 (by omega)
      exact ⟨B', c1, by rw [g1 s hsT]; exact c2, c3⟩
theorem is_m {M : zM} (hS : zSm S M) (ho : zSok S) (hW : zWr (M 102) 0 w) (hk : zWok S w) {T : Nat} (hT : T < 256) (h0 : 0 < T) (hTn : T < 2 ^ S 0 0) (hB : ∃ B, B < 256 ∧ M 108 T = nI B ∧ ∀ k, k < 8 → zbi B k = zE' S w T k) (x1 : Int32) (K : Int32 → zM → zO) : F_X12_leave_L171 79 x1 (nI T) (nI (zll T)) K zN 0 0 M = K (if zbk S w T = true then 1 else 0) M := by
  have h8 := so_n ho
  have hw := wr_n hW
  obtain ⟨l1, l2, l3⟩ := lo_b T hT h0
  have hln := in_lt (S 0 0) (by omega) T hT hTn (zll T) l2 l1
  obtain ⟨B, b1, b2, b3⟩ := hB
  refine zfor (i := 0) (f := zN) (a := ()) (S 0 0) (fun f c (_ : Unit) => F_X12_leave_L171 79 x1 (nI T) (nI (zll T)) K f (if zax (fun e => zE' S w T e && zwt S w e (zll T)) c = true then 1 else 0) (nI c) M) (fun _ _ => True) (fun o => o = _) ?_ ?_ (by omega) (zN_ge (by omega)) trivial
  · rintro f c _ hc -
    refine Or.inr ⟨(), ?_, trivial⟩
    show F_X12_leave_L171 79 x1 (nI T) (nI (zll T)) K (f + 1) _ _ M = F_X12_leave_L171 79 x1 (nI T) (nI (zll T)) K f _ _ M
    rw [F_X12_leave_L171, sm_n hS, zit_f (nI_ge hc (by omega)), nI_1, zax_s]
    simp only [zjo_eq]
    cases hz : zax (fun e => zE' S w T e && zwt S w e (zll T)) c with
    | true => rw [if_pos rfl, zit_f (by decide), Bool.true_or, if_pos rfl]
    | false =>
      rw [if_neg (by decide), zit_t (by decide), Bool.false_or]
      by_cases hcl : c = zll T
      · rw [zit_t (by rw [hcl]), hcl, zwt_self, Bool.and_false, if_neg (by decide)]
      · rw [zit_f (fun z => hcl ((nI_eq (by omega) (by omega)).mp z)), zin_k (k := T) (n := 256) hT (by omega), zck_t, gr_79_54, zix_k (k := T) (by omega), b2]
        cases hEc : zE' S w T c with
        | false => rw [zit_f (by rw [bi_1 b1 (by omega), b3 c (by omega), hEc]; decide), Bool.false_and, if_neg (by decide)]
        | true =>
          rw [zit_t (by rw [bi_1 b1 (by omega), b3 c (by omega), hEc]), gr_79_47, zin_k (k := zll T) (n := 73) (by omega) (by omega), zck_t, zin_k (k := c) (n := 73) (by omega) (by omega), zck_t, zix_k (k := zll T) (by omega), zix_k (k := c) (by omega), hw _ (by omega), hw c (by omega), lk_m hS ho hW hk hc (wo_n hk _ hln) (wo_n hk c hc), zbI_I, Bool.true_and]
          show _ = F_X12_leave_L171 79 x1 (nI T) (nI (zll T)) K f (if zlk S w c (w.1 (zll T)) (w.1 c) = true then 1 else 0) _ M
          cases zlk S w c (w.1 (zll T)) (w.1 c) with
          | true => rw [if_pos rfl, zit_f (by decide)]
          | false => rw [if_neg (by decide), zit_t (by decide)]
  · rintro f _ -
    show F_X12_leave_L171 79 x1 (nI T) (nI (zll T)) K (f + 1) _ _ M = _
    rw [F_X12_leave_L171, sm_n hS, zit_t (nI_le (Nat.le_refl _) (by omega))]
    rfl
theorem lv_m {M : zM} (hS : zSm S M) (ho : zSok S) (hW : zWr (M 102) 0 w) (hk : zWok S w) : ∃ M', F_X12_leave_L9 79 (fun (y3 : Int32) (M20 : zM) => zI y3 M20) zN (-1) 1 M = zI (zlvI (zlv S w (2 ^ S 0 0))) M' ∧ zoff [108] M M' := by
  have h8 := so_n ho
  have hpw : 2 ^ S 0 0 ≤ 256 := by
    have := Nat.pow_le_pow_right (n := 2) (by decide) h8
    omega
  have hp1 : 1 ≤ 2 ^ S 0 0 := Nat.one_le_two_pow
  refine zfor (i := 1) (f := zN) (a := M) (2 ^ S 0 0) (fun f T (M2 : zM) => F_X12_leave_L9 79 (fun (y3 : Int32) (M20 : zM) => zI y3 M20) f (zlvI (zlv S w T)) (nI T) M2) (fun T M2 => 0 < T ∧ zTl S w T (M2 108) ∧ zoff [108] M M2) (fun o => ∃ M', o = zI (zlvI (zlv S w (2 ^ S 0 0))) M' ∧ zoff [108] M M') ?_ ?_ hp1 (zN_ge (by omega)) ⟨by omega, fun s h1 h2 => by omega, zoff_rfl⟩
  · rintro f T M2 hT ⟨hT0, hl, o2⟩
    refine Or.inr ?_
    obtain ⟨hS2, hW2⟩ := okm hS hW (zoff_mono o2 (by decide))
    have hT256 : T < 256 := by omega
    obtain ⟨l1, l2, l3⟩ := lo_b T hT256 hT0
    have hlt := zlv_lt (S := S) (w := w) T
    have hc1 := zcu_le (zbi T) 8
    have hc2 := zcu_le (zbi (zlv S w T)) 8
    show ∃ M4, F_X12_leave_L9 79 _ (f + 1) (zlvI (zlv S w T)) (nI T) M2 = F_X12_leave_L9 79 _ f _ (nI (T + 1)) M4 ∧ _
    rw [F_X12_leave_L9, sm_n hS2, bpow _ (by omega), zit_f (nI_ge hT (by omega)), ll_m hT256 hT0, zjo_eq, bpow _ (by omega), gr_79_54, zix_k (k := T) (by omega), zin_k (k := T) (n := 256) hT256 (by omega)]
    have body : ∀ v : Nat, v < 256 → (∀ k, k < 8 → zbi v k = zfM S w T (zll T + 1) k) → ∃ M4, zck true (zst (zup M2 108 T (nI v)) (fun M4 => zlt (nI (zll T) + 1) (fun v1 => F_X12_leave_L58 79 (zlvI (zlv S w T)) (nI T) (nI (zll T)) (fun (M10 : zM) => F_X12_leave_L171 79 (zlvI (zlv S w T)) (nI T) (nI (zll T)) (fun (y2 : Int32) (M15 : zM) => zjo (fun (w3 : Int32) (M19 : zM) => F_X12_leave_L9 79 (fun (y3 : Int32) (M20 : zM) => zI y3 M20) f w3 (nI T + 1) M19) (fun (k7 : Int32 → zM → zO) => zit (y2 = 0) (k7 (zlvI (zlv S w T)) M15) (zjo (fun (M18 : zM) => k7 (nI T) M18) (fun (k8 : zM → zO) => zit (zlvI (zlv S w T) = (-1)) (k8 M15) (zbI (F_X12_bits (nI T) M15) (fun r3 M16 => zbI (F_X12_bits (zlvI (zlv S w T)) M16) (fun r4 M17 => zit (r4 ≤ r3) (k7 (zlvI (zlv S w T)) M17) (k8 M17)))))))) zN 0 0 M10) zN v1 M4))) = F_X12_leave_L9 79 (fun (y3 : Int32) (M20 : zM) => zI y3 M20) f (zlvI (zlv S w (T + 1))) (nI (T + 1)) M4 ∧ (0 < T + 1 ∧ zTl S w (T + 1) (M4 108) ∧ zoff [108] M M4) := fun v hv hvb => by
      have o3 : zoff [108] M2 (zup M2 108 T (nI v)) := zoff_up zoff_rfl (by decide)
      obtain ⟨hS3, hW3⟩ := okm hS2 hW2 (zoff_mono o3 (by decide))
      obtain ⟨M3, e3, hl3, o4⟩ := ends_m hS3 ho hW3 hk hT256 hT0 hT (fun s s1 s2 => by
        rw [zup_row, upd_ne (by omega)]
        exact hl s s1 s2) ⟨v, hv, by rw [zup_row, upd_eq], hvb⟩ (zlvI (zlv S w T)) (fun (M10 : zM) => F_X12_leave_L171 79 (zlvI (zlv S w T)) (nI T) (nI (zll T)) (fun (y2 : Int32) (M15 : zM) => zjo (fun (w3 : Int32) (M19 : zM) => F_X12_leave_L9 79 (fun (y3 : Int32) (M20 : zM) => zI y3 M20) f w3 (nI T + 1) M19) (fun (k7 : Int32 → zM → zO) => zit (y2 = 0) (k7 (zlvI (zlv S w T)) M15) (zjo (fun (M18 : zM) => k7 (nI T) M18) (fun (k8 : zM → zO) => zit (zlvI (zlv S w T) = (-1)) (k8 M15) (zbI (F_X12_bits (nI T) M15) (fun r3 M16 => zbI (F_X12_bits (zlvI (zlv S w T)) M16) (fun r4 M17 => zit (r4 ≤ r3) (k7 (zlvI (zlv S w T)) M17) (k8 M17)))))))) zN 0 0 M10)
      obtain ⟨hS4, hW4⟩ := okm hS3 hW3 (zoff_mono o4 (by decide))
      rw [zck_t, zst_eq, zlt_eq, nI_1, nI_1] at *
      rw [e3, is_m hS4 ho hW4 hk hT256 hT0 hT (hl3 T hT0 (by omega))]
      refine ⟨M3, ?_, by omega, hl3, zoff_trans o2 (zoff_trans o3 o4)⟩
      simp only [zjo_eq]
      rw [zbkI, zlv_s]
      cases hz : zbk S w T with
      | false => rw [if_neg (by decide), if_neg (fun z => absurd z.2.1 (by decide))]
      | true =>
        rw [if_pos rfl]
        by_cases hv0 : zlv S w T = 0
        · rw [zit_t (by rw [hv0]; rfl), if_pos ⟨by omega, rfl, Or.inl hv0⟩]
          unfold zlvI
          rw [if_neg (by omega)]
        · have hI : zlvI (zlv S w T) = nI (zlv S w T) := if_neg hv0
          rw [hI, zit_f (nI_n1 (by omega)), bt_m hT256, zbI_I, bt_m (by omega), zbI_I]
          by_cases hp : zcu (zbi T) 8 < zcu (zbi (zlv S w T)) 8
          · rw [zit_f (nI_ge hp (by omega)), if_pos ⟨by omega, rfl, Or.inr hp⟩]
            unfold zlvI
            rw [if_neg (by omega)]
          · rw [zit_t (nI_le (by omega) (by omega)), if_neg (fun z => by
              rcases z.2.2 with z | z
              · exact hv0 z
              · exact hp z), hI]
    obtain ⟨p1, p2, p3⟩ := pow_bits (zll T) l2
    by_cases hq : T = 2 ^ zll T
    · rw [zit_t (by rw [← hq])]
      refine body T hT256 (fun k hk8 => ?_)
      unfold zfM
      cases hb : zbi T k with
      | false => rfl
      | true =>
        have hkl : k = zll T := by
          have h3 := p3 k hk8
          rw [← hq, hb] at h3
          exact of_decide_eq_true h3.symm
        rw [hkl, decide_eq_true hq]
        rfl
    · rw [zit_f (fun z => hq ((nI_eq (by omega) (by omega)).mp z))]
      refine body 0 (by omega) (fun k hk8 => ?_)
      unfold zfM
      rw [bzero_b]
      cases hb : zbi T k with
      | false => rfl
      | true =>
        rw [decide_eq_false (show ¬ T = 2 ^ k from fun z => hq (by rw [← pow_one T hT256 k hk8 z]; exact z)), decide_eq_false (show ¬ (zll T < k ∧ k < zll T + 1) from fun z => by omega)]
        rfl
  · rintro f M2 ⟨-, -, o2⟩
    obtain ⟨hS2, hW2⟩ := okm hS hW (zoff_mono o2 (by decide))
    show ∃ M', F_X12_leave_L9 79 _ (f + 1) _ _ M2 = _ ∧ _
    rw [F_X12_leave_L9, sm_n hS2, bpow _ (by omega), zit_t (nI_le (Nat.le_refl _) (by omega))]
    exact ⟨M2, rfl, o2⟩
end ZLM2
theorem op_leave (q : zSt) (ho : zok q) : zOp 0 (F_X11_leave 0) (F_X12_leave 79) zNSE zIAE q := by
  have hY : ∀ M, F_X12_leave 79 M = F_X12_leave 79 (zup M 79 0 0) := fun M => by unfold F_X12_leave; rw [zup_idem]
  refine zop_self hY (zop0_ret (r := zlvI (zlv (tS q) (tW q) (2 ^ tS q 0 0))) (fun M h => ?_) (fun M h h0 => ?_))
  · unfold F_X11_leave
    rw [gr_0_9]
    obtain ⟨M1, e1, o1⟩ := lv_x (qx_S h) (qo_S ho) (qx_W h) (qo_W ho)
    rw [e1, zbI_I]
    exact ⟨M1, rfl, zoff_mono o1 (by decide)⟩
  · unfold F_X12_leave
    rw [zst_eq, zup_same h0]
    obtain ⟨M1, e1, o1⟩ := lv_m (qm_S h) (qo_S ho) (qm_W h) (qo_W ho)
    exact ⟨M1, e1, zoff_mono o1 (by decide)⟩
