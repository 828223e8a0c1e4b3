/-! sales, look -/
theorem m1_lt {b : Int32} (h1 : ¬ b < -1) (h2 : b ≠ -1) : ¬ b < 0 := fun h => by
  rw [Int32.lt_iff_toInt_lt] at h h1
  apply h2
  apply Int32.toInt_inj.mp
  have e : (-1 : Int32).toInt = -1 := by decide
  have e0 : (0 : Int32).toInt = 0 := by decide
  rw [e] at h1 ⊢
  rw [e0] at h
  omega
theorem m1_le {b : Int32} (h : ¬ b < -1) : (-1 : Int32) ≤ b := by
  rw [Int32.le_iff_toInt_le]
  rw [Int32.lt_iff_toInt_lt] at h
  omega
theorem m1_nle {b : Int32} (h : b < -1) : ¬ (-1 : Int32) ≤ b := by
  rw [Int32.le_iff_toInt_le]
  rw [Int32.lt_iff_toInt_lt] at h
  omega
section ZLO
variable {q : zSt}
/-- the m half behind its sells -/
theorem zm_sl {Y : zM → zO} {r : Int32} (h : ∀ M, zQm q M → M 79 0 = 0 → ∃ M1, Y M = zI r M1 ∧ zSr M M1) : zOm0 Y q q r := by
  intro M hq h0
  obtain ⟨M1, e, r1⟩ := h M hq h0
  refine ⟨M1, e, by rw [r1.2 0 (by omega) (by omega), h0], zSr_q hq r1, fun i hi => r1.1 i (fun hz => ?_)⟩
  simp only [zSl, List.mem_cons, List.mem_nil_iff, or_false] at hz
  omega
def zsa (q : zSt) (k : Nat) (b : Int32) : Int32 := if b = -1 then nI (zrf q k).length else match zrf q k with
  | [] => -1
  | z :: _ => if nI k ≤ b then -1 else nI (z.1.getD (zix b) 0)
theorem zrf_len (ho : zok q) {k : Nat} (hk : k ≤ 3) : (zrf q k).length < 22000 := by
  have h1 := zrw_len (L := tL q) (w := tW q) (qo_n ho) k (tW q).1
  have h2 : 28 ^ k ≤ 28 ^ 3 := Nat.pow_le_pow_right (by decide) hk
  have h3 := List.length_filter_le (fun z : List Nat × (Nat → Nat) => zfit (tV q) z.2) (zrw (tS q) (tL q) (tW q) k (tW q).1)
  rw [zrf_eq]
  omega
theorem op_sales (q : zSt) (ho : zok q) (a b : Int32) : zOp 2 (F_X11_sales 0 a b) (F_X12_sales 79 a b) zNSE zIAE q := by
  have hY : ∀ M, F_X12_sales 79 a b M = F_X12_sales 79 a b (zup M 79 0 0) := fun M => by unfold F_X12_sales; rw [zup_idem]
  by_cases hb : b < -1
  · refine zop_rf hY 1 (Or.inl rfl) (by omega) (fun M h => ?_) (fun M h h0 => ⟨0, ?_⟩)
    · unfold F_X11_sales F_X11_needNoneOrMore
      rw [zit_f (m1_nle hb), zbV_E]
      rfl
    · unfold F_X12_sales
      rw [zst_eq, zup_same h0, zjo_eq, zit_t hb]
      dsimp only
      rw [pm_right0 h0 (by decide), zbI_I, zjo_eq, zit_t rfl]
      rfl
  · have hx : ∀ M, F_X11_needNoneOrMore b M = zV M := fun M => by
      unfold F_X11_needNoneOrMore
      rw [zit_t (m1_le hb)]
    rcases zca (m := 3) (by omega) a with ⟨k, hk, rfl⟩ | ha
    · have hl := zrf_len ho hk
      refine zop_self hY ⟨q, zsa q k b, by omega, fun M h => ?_, zm_sl (fun M h h0 => ?_)⟩
      · obtain ⟨-, -, -, -, -, -, c, hc, h15, -⟩ := id h
        obtain ⟨M1, e1, h1, -, h8, ⟨x1, x2, -⟩, -, o1⟩ := fn_x h hk false hc h15
        unfold F_X11_sales
        rw [hx, zbV_V, show (3 : Int32) = nI 3 from rfl, px_amount_in hk (by omega), zbV_V, gr_0_12, h15]
        rw [if_neg (by decide)] at e1
        rw [e1, zbV_V, zjo_eq]
        refine ⟨M1, ?_, h1, o1⟩
        unfold zsa
        by_cases hb1 : b = -1
        · rw [zit_t hb1, if_pos hb1, x1]
        · rw [zit_f hb1, if_neg hb1]
          have hb0 := m1_lt hb hb1
          unfold F_X5_ofFirst
          rw [zjo_eq, zjo_eq, x1, h8]
          cases hR : zrf q k with
          | nil =>
            rw [zit_t (by decide), zbI_I]
          | cons z l =>
            rw [hR] at hl
            rw [zit_f (show ¬ nI (z :: l).length ≤ (0 : Int32) from (nI_ge (by simp only [List.length_cons]; omega) (by omega) : ¬ nI (z :: l).length ≤ nI 0)), zit_f hb0]
            by_cases hkb : nI k ≤ b
            · rw [zit_t hkb, zbI_I]
              dsimp only
              rw [if_pos hkb]
            · obtain ⟨j, hj, rfl⟩ := nI_of hb0
              have hjk : j < k := by
                rcases Nat.lt_or_ge j k with z | z
                · exact z
                · exact absurd (nI_le z hj) hkb
              rw [zit_f hkb, zin_k (k := j) (n := 3) (by omega) (by omega), zck_t, gr_73_5, zix_k (k := j) (by omega), x2 z l hR j hjk, zbI_I]
              dsimp only
              rw [if_neg hkb]
      · unfold F_X12_sales
        rw [zst_eq, zup_same h0, zjo_eq, zit_f hb]
        dsimp only
        rw [pm_right1 h0 (by decide), zbI_I, zjo_eq, zit_f (by decide), show F_X12_within (nI k) 0 3 M = zI 1 M from pm_within_in (lo := 0) (hi := 3) (by omega) hk (by omega), zbI_I, pm_right1 h0 (by decide), zbI_I, zit_f (by decide)]
        obtain ⟨M1, e1, ⟨x1, x2, -⟩, r1⟩ := sel_m h hk
        rw [e1, zbV_V, zjo_eq]
        refine ⟨M1, ?_, r1⟩
        unfold zsa
        by_cases hb1 : b = -1
        · rw [zit_t hb1, if_pos hb1, x1]
        · rw [zit_f hb1, if_neg hb1, zjo_eq, x1]
          have hb0 := m1_lt hb hb1
          cases hR : zrf q k with
          | nil =>
            rw [zit_t (by decide)]
          | cons z l =>
            rw [hR] at hl
            rw [zit_f (show ¬ nI (z :: l).length ≤ (0 : Int32) from (nI_ge (by simp only [List.length_cons]; omega) (by omega) : ¬ nI (z :: l).length ≤ nI 0))]
            by_cases hkb : nI k ≤ b
            · rw [zit_t hkb]
              dsimp only
              rw [if_pos hkb]
            · obtain ⟨j, hj, rfl⟩ := nI_of hb0
              have hjk : j < k := by
                rcases Nat.lt_or_ge j k with z | z
                · exact z
                · exact absurd (nI_le z hj) hkb
              rw [zit_f hkb, zin_k (k := j) (n := 3) (by omega) (by omega), zck_t, gr_79_68, zix_k (k := j) (by omega), x2 z l hR j hjk]
              dsimp only
              rw [if_neg hkb]
    · refine zop_rf hY 2 (Or.inr rfl) (by omega) (fun M h => ?_) (fun M h h0 => ⟨0, ?_⟩)
      · unfold F_X11_sales
        rw [hx, zbV_V, show F_X11_needAmount a 3 M = zE zIAE M from px_amount_out (m := nI 3) ha, zbV_E]
        rfl
      · unfold F_X12_sales
        rw [zst_eq, zup_same h0, zjo_eq, zit_f hb]
        dsimp only
        rw [pm_right1 h0 (by decide), zbI_I, zjo_eq, zit_f (by decide), show F_X12_within a 0 3 M = zI 0 M from pm_within_out (hi := nI 3) ha, zbI_I, pm_right0 h0 (by decide), zbI_I, zit_t rfl]
        rfl
/-- the most rows that agree on an isle -/
def zmo (R : List (List Nat × (Nat → Nat))) (i : Nat) : Nat → Nat
  | 0 => 0
  | j + 1 => max (zmo R i j) (R.countP (fun z => z.2 i == j))
theorem zmo_le (R : List (List Nat × (Nat → Nat))) (i : Nat) : ∀ j, zmo R i j ≤ R.length
  | 0 => Nat.zero_le _
  | j + 1 => by
    have h1 := zmo_le R i j
    have h2 : R.countP (fun z => z.2 i == j) ≤ R.length := List.countP_le_length
    show max _ _ ≤ _
    omega
/-- the next to be looked at -/
def zlok (R : List (List Nat × (Nat → Nat))) (n : Nat) : Nat → Int32 × Nat
  | 0 => (-1, 0)
  | i + 1 => if (zlok R n i).1 = -1 then (nI i, zmo R i n) else if zmo R i n < (zlok R n i).2 then (nI i, zmo R i n) else zlok R n i
theorem zlok_le (R : List (List Nat × (Nat → Nat))) (n : Nat) : ∀ i, (zlok R n i).2 ≤ R.length
  | 0 => Nat.zero_le _
  | i + 1 => by
    rw [zlok]
    split
    · exact zmo_le R i n
    · split
      · exact zmo_le R i n
      · exact zlok_le R n i
theorem op_look (q : zSt) (ho : zok q) (a : Int32) : zOp 1 (F_X11_look 0 a) (F_X12_look 79 a) zIAE zNSE q := by
  have hY : ∀ M, F_X12_look 79 a M = F_X12_look 79 a (zup M 79 0 0) := fun M => by unfold F_X12_look; rw [zup_idem]
  have hn := qo_n ho
  rcases zca (m := 3) (by omega) a with ⟨k, hk, rfl⟩ | ha
  · have hl := zrf_len ho hk
    obtain ⟨R, hR⟩ : ∃ R, zrf q k = R := ⟨_, rfl⟩
    rw [hR] at hl
    have hcl : ∀ i j, R.countP (fun z => z.2 i == j) ≤ R.length := fun i j => List.countP_le_length
    refine zop_self hY ⟨q, if R.length = 0 then -1 else (zlok R (tS q 0 0) (tS q 0 0)).1, by omega, fun M h => ?_, zm_sl (fun M h h0 => ?_)⟩
    · obtain ⟨-, -, -, -, -, -, c, hc, h15, -⟩ := id h
      obtain ⟨M1, e1, h1, -, h8, ⟨x1, -, x3⟩, t1, o1⟩ := fn_x h hk true hc h15
      rw [hR] at x1 x3
      have x3' : ∀ i j, i < tS q 0 0 → j < tS q 0 0 → M1 77 (8 * i + j) = nI (R.countP (fun z => z.2 i == j)) := by
        rcases x3 with x3 | x3
        · rw [t1 rfl] at x3
          exact absurd x3 (by decide)
        · exact x3.2
      unfold F_X11_look
      rw [show (3 : Int32) = nI 3 from rfl, px_amount_in hk (by omega), zbV_V, gr_0_12, h15]
      rw [if_pos rfl] at e1
      rw [e1, zbV_V]
      refine ⟨M1, ?_, h1, o1⟩
      have key : F_X5_lookNext 73 M1 = zI (if R.length = 0 then -1 else (zlok R (tS q 0 0) (tS q 0 0)).1) M1 := by
        unfold F_X5_lookNext
        by_cases hz : R.length = 0
        · obtain ⟨m, hm⟩ : ∃ m, zN = m + 1 := ⟨999999, rfl⟩
          rw [if_pos hz, hm, F_X5_lookNext_L6, x1, hz]
          by_cases hz0 : M1 (zgr (zgr 73 0) 0) 0 ≤ 0
          · rw [zit_t hz0]
          · rw [zit_f hz0, zit_t (by decide)]
        · rw [if_neg hz]
          refine zfor (i := 0) (f := zN) (a := ()) (tS q 0 0) (fun f i (_ : Unit) => F_X5_lookNext_L6 73 (fun (y2 : Int32) (M4 : zM) => zI y2 M4) f (zlok R (tS q 0 0) i).1 (nI (zlok R (tS q 0 0) i).2) (nI i) M1) (fun _ _ => True) (fun o => o = zI (zlok R (tS q 0 0) (tS q 0 0)).1 M1) ?_ ?_ (by omega) (zN_ge (by omega)) trivial
          · rintro f i _ hi -
            refine Or.inr ⟨(), ?_, trivial⟩
            have inner : ∀ K : Int32 → zM → zO, F_X5_lookNext_L33 73 (zlok R (tS q 0 0) i).1 (nI (zlok R (tS q 0 0) i).2) (nI i) K zN 0 0 M1 = K (nI (zmo R i (tS q 0 0))) M1 := fun K => by
              refine zfor (i := 0) (f := zN) (a := ()) (tS q 0 0) (fun f' j (_ : Unit) => F_X5_lookNext_L33 73 (zlok R (tS q 0 0) i).1 (nI (zlok R (tS q 0 0) i).2) (nI i) K f' (nI (zmo R i j)) (nI j) M1) (fun _ _ => True) (fun o => o = K (nI (zmo R i (tS q 0 0))) M1) ?_ ?_ (by omega) (zN_ge (by omega)) trivial
              · rintro f' j _ hj -
                refine Or.inr ⟨(), ?_, trivial⟩
                have hm1 := zmo_le R i j
                have hm2 := hcl i j
                show F_X5_lookNext_L33 73 _ _ _ K (f' + 1) _ _ M1 = F_X5_lookNext_L33 73 _ _ _ K f' (nI (zmo R i (j + 1))) (nI (j + 1)) M1
                rw [F_X5_lookNext_L33, gr_73_0, gr_40_0, sx_n (qx_S h1), zit_f (nI_ge hj (by omega)), ix8, zin_k (k := i * 8 + j) (n := 64) (by omega) (by omega), zck_t, gr_73_6, zix_k (k := i * 8 + j) (by omega), show i * 8 + j = 8 * i + j from by omega, x3' i j hi hj, z_max (by omega) (by omega), zlt_eq, nI_1]
                rfl
              · rintro f' _ -
                show F_X5_lookNext_L33 73 _ _ _ K (f' + 1) _ _ M1 = _
                rw [F_X5_lookNext_L33, gr_73_0, gr_40_0, sx_n (qx_S h1), zit_t (nI_le (Nat.le_refl _) (by omega))]
            have hm1 := zmo_le R i (tS q 0 0)
            have hm2 := zlok_le R (tS q 0 0) i
            show F_X5_lookNext_L6 73 _ (f + 1) _ _ _ M1 = F_X5_lookNext_L6 73 _ f (zlok R (tS q 0 0) (i + 1)).1 (nI (zlok R (tS q 0 0) (i + 1)).2) (nI (i + 1)) M1
            rw [F_X5_lookNext_L6, gr_73_0, gr_40_0, sx_n (qx_S h1), zit_f (nI_ge hi (by omega)), x1, zit_f (show ¬ nI R.length ≤ (0 : Int32) from (nI_ge (by omega) (by omega) : ¬ nI R.length ≤ nI 0)), inner, zjo_eq, zjo_eq, nI_1, zlok]
            by_cases hz1 : (zlok R (tS q 0 0) i).1 = -1
            · rw [zit_t hz1, if_pos hz1]
            · rw [zit_f hz1, if_neg hz1]
              by_cases hz2 : zmo R i (tS q 0 0) < (zlok R (tS q 0 0) i).2
              · rw [zit_f (nI_ge hz2 (by omega)), if_pos hz2]
              · rw [zit_t (nI_le (by omega) (by omega)), if_neg hz2]
          · rintro f _ -
            show F_X5_lookNext_L6 73 _ (f + 1) _ _ _ M1 = _
            rw [F_X5_lookNext_L6, gr_73_0, gr_40_0, sx_n (qx_S h1), zit_t (nI_le (Nat.le_refl _) (by omega))]
      rw [key, zbI_I]
    · unfold F_X12_look
      rw [zst_eq, zup_same h0, show F_X12_within (nI k) 0 3 M = zI 1 M from pm_within_in (lo := 0) (hi := 3) (by omega) hk (by omega), zbI_I, pm_right1 h0 (by decide), zbI_I, zit_f (by decide)]
      obtain ⟨M1, e1, ⟨x1, -, x3⟩, r1⟩ := sel_m h hk
      rw [hR] at x1 x3
      rw [e1, zbV_V]
      refine ⟨M1, ?_, r1⟩
      have n1 := sm_n (qm_S (zSr_q h r1))
      by_cases hz : R.length = 0
      · obtain ⟨m, hm⟩ : ∃ m, zN = m + 1 := ⟨999999, rfl⟩
        rw [if_pos hz, hm, F_X12_look_L33, x1, hz]
        by_cases hz0 : M1 79 1 ≤ 0
        · rw [zit_t hz0]
        · rw [zit_f hz0, zit_t (by decide)]
      · rw [if_neg hz]
        refine zfor (i := 0) (f := zN) (a := ()) (tS q 0 0) (fun f i (_ : Unit) => F_X12_look_L33 79 (fun (y2 : Int32) (M9 : zM) => zI y2 M9) f (zlok R (tS q 0 0) i).1 (nI (zlok R (tS q 0 0) i).2) (nI i) M1) (fun _ _ => True) (fun o => o = zI (zlok R (tS q 0 0) (tS q 0 0)).1 M1) ?_ ?_ (by omega) (zN_ge (by omega)) trivial
        · rintro f i _ hi -
          refine Or.inr ⟨(), ?_, trivial⟩
          have inner : ∀ K : Int32 → zM → zO, F_X12_look_L55 79 (zlok R (tS q 0 0) i).1 (nI (zlok R (tS q 0 0) i).2) (nI i) K zN 0 0 M1 = K (nI (zmo R i (tS q 0 0))) M1 := fun K => by
            refine zfor (i := 0) (f := zN) (a := ()) (tS q 0 0) (fun f' j (_ : Unit) => F_X12_look_L55 79 (zlok R (tS q 0 0) i).1 (nI (zlok R (tS q 0 0) i).2) (nI i) K f' (nI (zmo R i j)) (nI j) M1) (fun _ _ => True) (fun o => o = K (nI (zmo R i (tS q 0 0))) M1) ?_ ?_ (by omega) (zN_ge (by omega)) trivial
            · rintro f' j _ hj -
              refine Or.inr ⟨(), ?_, trivial⟩
              have hm1 := zmo_le R i j
              have hm2 := hcl i j
              show F_X12_look_L55 79 _ _ _ K (f' + 1) _ _ M1 = F_X12_look_L55 79 _ _ _ K f' (nI (max (zmo R i j) (R.countP (fun z => z.2 i == j)))) (nI (j + 1)) M1
              rw [F_X12_look_L55, n1, zit_f (nI_ge hj (by omega)), show (8 : Int32) = nI 8 from rfl, pk_mul, nI_add, zin_k (k := 8 * i + j) (n := 64) (by omega) (by omega), zck_t, zjo_eq, gr_79_69, zix_k (k := 8 * i + j) (by omega), x3 i j hi hj, nI_1]
              by_cases hz2 : R.countP (fun z => z.2 i == j) ≤ zmo R i j
              · rw [zit_t (nI_le hz2 (by omega)), Nat.max_eq_left hz2]
              · rw [zit_f (nI_ge (by omega) (by omega)), zck_t, Nat.max_eq_right (by omega)]
            · rintro f' _ -
              show F_X12_look_L55 79 _ _ _ K (f' + 1) _ _ M1 = _
              rw [F_X12_look_L55, n1, zit_t (nI_le (Nat.le_refl _) (by omega))]
          have hm1 := zmo_le R i (tS q 0 0)
          have hm2 := zlok_le R (tS q 0 0) i
          show F_X12_look_L33 79 _ (f + 1) _ _ _ M1 = F_X12_look_L33 79 _ f (zlok R (tS q 0 0) (i + 1)).1 (nI (zlok R (tS q 0 0) (i + 1)).2) (nI (i + 1)) M1
          rw [F_X12_look_L33, n1, zit_f (nI_ge hi (by omega)), x1, zit_f (show ¬ nI R.length ≤ (0 : Int32) from (nI_ge (by omega) (by omega) : ¬ nI R.length ≤ nI 0)), inner, zjo_eq, zjo_eq, nI_1, zlok]
          by_cases hz1 : (zlok R (tS q 0 0) i).1 = -1
          · rw [zit_t hz1, if_pos hz1]
          · rw [zit_f hz1, if_neg hz1]
            by_cases hz2 : zmo R i (tS q 0 0) < (zlok R (tS q 0 0) i).2
            · rw [zit_t (nI_lt hz2 (by omega)), if_pos hz2]
            · rw [zit_f (nI_nlt (by omega) (by omega)), if_neg hz2]
        · rintro f _ -
          show F_X12_look_L33 79 _ (f + 1) _ _ _ M1 = _
          rw [F_X12_look_L33, n1, zit_t (nI_le (Nat.le_refl _) (by omega))]
  · refine zop_rf hY 1 (Or.inl rfl) (by omega) (fun M h => ?_) (fun M h h0 => ⟨0, ?_⟩)
    · unfold F_X11_look
      rw [show F_X11_needAmount a 3 M = zE zIAE M from px_amount_out (m := nI 3) ha, zbV_E]
      rfl
    · unfold F_X12_look
      rw [zst_eq, zup_same h0, show F_X12_within a 0 3 M = zI 0 M from pm_within_out (hi := nI 3) ha, zbI_I, pm_right0 h0 (by decide), zbI_I, zit_t rfl]
      rfl
end ZLO
