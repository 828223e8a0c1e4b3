/-! leave, the class's -/
def zfX (S : zSD) (w : zWD) (T s e : Nat) : Bool := zbi s e && (decide (s = 2 ^ e) || (!decide (e = zll s) && (decide (zcb s e < T) && zax (fun k => zE' S w (zcb s e) k && zwt S w k e) (S 0 0))))
def zfY (S : zSD) (w : zWD) (T j s e : Nat) : Bool := zbi s e && (decide (s = 2 ^ e) || (!decide (e = zll s) && ((decide (zcb s e < T) && zax (fun k => zE' S w (zcb s e) k && zwt S w k e) (S 0 0)) || (decide (zcb s e = T) && zax (fun k => zE' S w T k && zwt S w k e) j))))
section ZLV
variable {S : zSD} {w : zWD}
theorem fY_0 {T s e : Nat} (hT : T < 256) (h0 : 0 < T) : zfY S w T (zll T) s e = zfX S w T s e := by
  obtain ⟨l1, l2, l3⟩ := lo_b T hT h0
  unfold zfY zfX
  rw [zax_no (zll T) (fun k hk => by
    cases h : zE' S w T k with
    | false => rfl
    | true =>
      have := zE_in hT (by omega) h
      rw [l3 k (by omega) hk] at this
      cases this)]
  rw [Bool.and_false, Bool.or_false]
theorem fY_n {T s e : Nat} : zfY S w T (S 0 0) s e = zfX S w (T + 1) s e := by
  unfold zfY zfX
  by_cases h : zcb s e = T
  · rw [decide_eq_true h, decide_eq_false (show ¬ zcb s e < T from by omega), decide_eq_true (show zcb s e < T + 1 from by omega), h]
    rfl
  · rw [decide_eq_false h]
    have : decide (zcb s e < T + 1) = decide (zcb s e < T) := decide_eq_decide.mpr ⟨fun _ => by omega, fun _ => by omega⟩
    rw [this, Bool.false_and, Bool.or_false]
theorem fY_T {T j e : Nat} (hT : T < 256) (he : e < 8) : zfY S w T j T e = zE' S w T e := by
  rw [zE_eq hT he]
  unfold zfY
  cases hb : zbi T e with
  | false => rfl
  | true =>
    by_cases hl : e = zll T
    · rw [decide_eq_true hl]
      rfl
    · obtain ⟨-, h2, -⟩ := cutl T hT e he hb hl
      rw [decide_eq_true h2, decide_eq_false (show ¬ zcb T e = T from by omega), Bool.false_and, Bool.or_false]
      simp only [Bool.true_and]
theorem pred_iff {n s T e : Nat} (hn : n < 9) (hs : s < 256) (hsn : s < 2 ^ n) (hT : T < 256) (h0 : 0 < T) (he : e < 8) : (zbi s e = true ∧ e ≠ zll s ∧ zcb s e = T) ↔ (zll T < e ∧ e < n ∧ zbi T e = false ∧ s = zpb T e) := by
  constructor
  · rintro ⟨h1, h2, rfl⟩
    obtain ⟨g1, g2, g3, g4⟩ := cutl s hs e he h1 h2
    obtain ⟨g5, g6⟩ := cut_put s hs e he h1
    exact ⟨by rw [g1]; exact g4, in_lt n hn s hs hsn e he h1, g6, g5.symm⟩
  · rintro ⟨h1, h2, h3, rfl⟩
    obtain ⟨g1, g2, g3, g4⟩ := put_cut T hT h0 e he h3 h1
    exact ⟨g1, by rw [g3]; omega, g2⟩
def zfZ (S : zSD) (w : zWD) (T j c s e : Nat) : Bool := zfY S w T j s e || (decide (zll T < e ∧ e < c ∧ zbi T e = false ∧ s = zpb T e) && zwt S w j e)
theorem fZ_n {T j s e : Nat} (hn : S 0 0 < 9) (hs : s < 256) (hsn : s < 2 ^ S 0 0) (hT : T < 256) (h0 : 0 < T) (he : e < 8) (hE : zE' S w T j = true) : zfZ S w T j (S 0 0) s e = zfY S w T (j + 1) s e := by
  have hp := pred_iff (e := e) hn hs hsn hT h0 he
  unfold zfZ
  by_cases hc : zbi s e = true ∧ e ≠ zll s ∧ zcb s e = T
  · rw [decide_eq_true (hp.mp hc)]
    unfold zfY
    rw [hc.1, decide_eq_false hc.2.1, decide_eq_true hc.2.2, zax_s, hE]
    cases decide (s = 2 ^ e) <;> cases (decide (zcb s e < T) && zax (fun k => zE' S w (zcb s e) k && zwt S w k e) (S 0 0)) <;> cases zax (fun k => zE' S w T k && zwt S w k e) j <;> cases zwt S w j e <;> rfl
  · rw [decide_eq_false (fun z => hc (hp.mpr z)), Bool.false_and, Bool.or_false]
    unfold zfY
    cases hb : zbi s e with
    | false => rfl
    | true =>
      by_cases hl : e = zll s
      · rw [decide_eq_true hl]
        rfl
      · rw [decide_eq_false (show ¬ zcb s e = T from fun z => hc ⟨hb, hl, z⟩)]
        rfl
theorem gw_x1 {M : zM} (hS : zSx S M) (ho : zSok S) (hW : zWx 40 w M) (hk : zWok S w) {T j : Nat} (hT : T < 256) (h0 : 0 < T) (hTn : T < 2 ^ S 0 0) (hj : j < S 0 0) (hb : zTb (S 0 0) (zfY S w T j) (M 66)) (hE : zE' S w T j = true) (x3 : Int32) (K : zM → zO) : ∃ M', F_X1_growWays_L69 63 (nI T) (nI (zll T)) x3 (nI j) K zN (nI (zll T + 1)) M = K M' ∧ (zTb (S 0 0) (zfY S w T (j + 1)) (M' 66) ∧ zoff [66] M M') := by
  have h8 := so_n ho
  obtain ⟨l1, l2, l3⟩ := lo_b T hT h0
  have hln := in_lt (S 0 0) (by omega) T hT hTn (zll T) l2 l1
  have hpw : 2 ^ S 0 0 ≤ 256 := by
    have := Nat.pow_le_pow_right (n := 2) (by decide) h8
    omega
  refine zfor (i := zll T + 1) (f := zN) (a := M) (S 0 0) (fun f c (M1 : zM) => F_X1_growWays_L69 63 (nI T) (nI (zll T)) x3 (nI j) K f (nI c) M1) (fun c M1 => zll T < c ∧ zTb (S 0 0) (zfZ S w T j c) (M1 66) ∧ zoff [66] M M1) (fun o => ∃ M', o = K M' ∧ (zTb (S 0 0) (zfY S w T (j + 1)) (M' 66) ∧ zoff [66] M M')) ?_ ?_ (by omega) (zN_ge (by omega)) ⟨by omega, zTb_ext hb (fun s _ _ k _ => by
    unfold zfZ
    rw [decide_eq_false (fun z => by omega), Bool.false_and, Bool.or_false]), zoff_rfl⟩
  · rintro f c M1 hc ⟨hlc, hb1, o1⟩
    refine Or.inr ?_
    obtain ⟨hS1, hW1⟩ := okx hS hW (zoff_mono o1 (by decide))
    show ∃ M2, F_X1_growWays_L69 63 (nI T) (nI (zll T)) x3 (nI j) K (f + 1) (nI c) M1 = F_X1_growWays_L69 63 (nI T) (nI (zll T)) x3 (nI j) K f (nI (c + 1)) M2 ∧ _
    rw [F_X1_growWays_L69, gr_63_0, sx_n hS1, zit_f (nI_ge hc (by omega)), zjo_eq, nI_1]
    cases hbt : zbi T c with
    | true =>
      rw [zit_f (by rw [bi_0 hT (by omega), hbt]; decide)]
      refine ⟨M1, rfl, by omega, zTb_ext hb1 (fun s _ _ k _ => ?_), o1⟩
      unfold zfZ
      congr 2
      refine decide_eq_decide.mpr ⟨fun z => ⟨z.1, by omega, z.2.2⟩, fun z => ⟨z.1, ?_, z.2.2⟩⟩
      by_cases hkc : k = c
      · rw [hkc, hbt] at z
        exact absurd z.2.2.1 (by decide)
      · omega
    | false =>
      rw [zit_t (by rw [bi_0 hT (by omega), hbt]), wt_x hS1 ho hW1 hk hj hc, zbI_I]
      cases hz : zwt S w j c with
      | false =>
        rw [if_neg (by decide), zit_t (by decide)]
        refine ⟨M1, rfl, by omega, zTb_ext hb1 (fun s _ _ k _ => ?_), o1⟩
        unfold zfZ
        by_cases hkc : k = c
        · rw [hkc, hz, Bool.and_false, Bool.and_false]
        · congr 2
          exact decide_eq_decide.mpr ⟨fun z => ⟨z.1, by omega, z.2.2⟩, fun z => ⟨z.1, by omega, z.2.2⟩⟩
      | true =>
        obtain ⟨p1, p2⟩ := zpb_b T hT c (by omega)
        obtain ⟨q1, q2, q3, q4⟩ := put_cut T hT h0 c (by omega) hbt hlc
        have hin := put_in (S 0 0) (by omega) T hT hTn c (by omega) hc
        rw [if_pos rfl, zit_f (by decide), bset T hT c (by omega), zin_k (k := zpb T c) (n := 256) p1 (by omega), zck_t, zck_t, zst_eq, gr_63_5, zix_k (k := zpb T c) (by omega)]
        refine ⟨_, rfl, by omega, ?_, zoff_up o1 (by decide)⟩
        rw [zup_row]
        refine zTb_ext (zTb_put hb1 (by omega) hin (by omega)) (fun s _ _ k _ => ?_)
        show (zfZ S w T j c s k || (decide (s = zpb T c) && decide (k = c))) = zfZ S w T j (c + 1) s k
        unfold zfZ
        by_cases hkc : k = c
        · subst hkc
          rw [decide_eq_false (show ¬ (zll T < k ∧ k < k ∧ zbi T k = false ∧ s = zpb T k) from fun z => by omega), Bool.false_and, Bool.or_false, hz, Bool.and_true, decide_eq_true (rfl : k = k), Bool.and_true]
          congr 1
          exact decide_eq_decide.mpr ⟨fun z => ⟨hlc, by omega, hbt, z⟩, fun z => z.2.2.2⟩
        · rw [decide_eq_false hkc, Bool.and_false, Bool.or_false]
          congr 2
          exact decide_eq_decide.mpr ⟨fun z => ⟨z.1, by omega, z.2.2⟩, fun z => ⟨z.1, by omega, z.2.2⟩⟩
  · rintro f M1 ⟨hlc, hb1, o1⟩
    obtain ⟨hS1, hW1⟩ := okx hS hW (zoff_mono o1 (by decide))
    show ∃ M', F_X1_growWays_L69 63 (nI T) (nI (zll T)) x3 (nI j) K (f + 1) _ M1 = _ ∧ _
    rw [F_X1_growWays_L69, gr_63_0, sx_n hS1, zit_t (nI_le (Nat.le_refl _) (by omega))]
    exact ⟨M1, rfl, zTb_ext hb1 (fun s _ h2 k hk8 => fZ_n (by omega) (by omega) h2 hT h0 hk8 hE), o1⟩
theorem gw_x {M : zM} (hS : zSx S M) (ho : zSok S) (hW : zWx 40 w M) (hk : zWok S w) {T : Nat} (hT : T < 256) (h0 : 0 < T) (hTn : T < 2 ^ S 0 0) (hb : zTb (S 0 0) (zfX S w T) (M 66)) : ∃ M', F_X1_growWays 63 (nI T) M = zI (if zbk S w T = true then 1 else 0) M' ∧ (zTb (S 0 0) (zfX S w (T + 1)) (M' 66) ∧ zoff [66] M M') := by
  have h8 := so_n ho
  obtain ⟨l1, l2, l3⟩ := lo_b T hT h0
  have hln := in_lt (S 0 0) (by omega) T hT hTn (zll T) l2 l1
  have hz0 : zax (fun e => zE' S w T e && zwt S w e (zll T)) (zll T) = false := zax_no _ (fun k hk' => by
    cases h : zE' S w T k with
    | false => rfl
    | true =>
      have := zE_in hT (by omega) h
      rw [l3 k (by omega) hk'] at this
      cases this)
  unfold F_X1_growWays
  rw [bc_F, zbI_I, lo_x T hT h0]
  have key : ∃ M', F_X1_growWays_L15 63 (nI T) (nI (zll T)) (fun (y1 : Int32) (M10 : zM) => zck (zbo y1) (zI y1 M10)) zN (if zax (fun e => zE' S w T e && zwt S w e (zll T)) (zll T) = true then 1 else 0) (nI (zll T)) M = zI (if zbk S w T = true then 1 else 0) M' ∧ (zTb (S 0 0) (zfX S w (T + 1)) (M' 66) ∧ zoff [66] M M') := by
    refine zfor (i := zll T) (f := zN) (a := M) (S 0 0) (fun f j (M1 : zM) => F_X1_growWays_L15 63 (nI T) (nI (zll T)) (fun (y1 : Int32) (M10 : zM) => zck (zbo y1) (zI y1 M10)) f (if zax (fun e => zE' S w T e && zwt S w e (zll T)) j = true then 1 else 0) (nI j) M1) (fun j M1 => zll T ≤ j ∧ zTb (S 0 0) (zfY S w T j) (M1 66) ∧ zoff [66] M M1) (fun o => ∃ M', o = zI (if zbk S w T = true then 1 else 0) M' ∧ (zTb (S 0 0) (zfX S w (T + 1)) (M' 66) ∧ zoff [66] M M')) ?_ ?_ (by omega) (zN_ge (by omega)) ⟨Nat.le_refl _, zTb_ext hb (fun s _ _ k _ => (fY_0 hT h0).symm), zoff_rfl⟩
    · rintro f j M1 hj ⟨hlj, hb1, o1⟩
      refine Or.inr ?_
      obtain ⟨hS1, hW1⟩ := okx hS hW (zoff_mono o1 (by decide))
      obtain ⟨B, b1, b2, b3⟩ := hb1 T h0 hTn
      have hE : zbi B j = zE' S w T j := by rw [b3 j (by omega), fY_T hT (by omega)]
      show ∃ M2, F_X1_growWays_L15 63 (nI T) (nI (zll T)) _ (f + 1) _ (nI j) M1 = F_X1_growWays_L15 63 (nI T) (nI (zll T)) _ f _ (nI (j + 1)) M2 ∧ _
      rw [F_X1_growWays_L15, gr_63_0, sx_n hS1, zit_f (nI_ge hj (by omega)), zin_k (k := T) (n := 256) hT (by omega), zck_t, zjo_eq, gr_63_5, zix_k (k := T) (by omega), b2, nI_1, zax_s]
      cases hEj : zE' S w T j with
      | false =>
        rw [zit_t (by rw [bi_0 b1 (by omega), hE, hEj]), Bool.false_and, Bool.or_false]
        refine ⟨M1, rfl, by omega, zTb_ext hb1 (fun s _ _ k _ => ?_), o1⟩
        unfold zfY
        rw [zax_s, hEj, Bool.false_and, Bool.or_false]
      | true =>
        rw [zit_f (by rw [bi_0 b1 (by omega), hE, hEj]; decide), Bool.true_and]
        have fin : ∀ v : Int32, ∃ M2, zlt (nI (zll T) + 1) (fun v1 => F_X1_growWays_L69 63 (nI T) (nI (zll T)) v (nI j) (fun (M8 : zM) => F_X1_growWays_L15 63 (nI T) (nI (zll T)) (fun (y1 : Int32) (M10 : zM) => zck (zbo y1) (zI y1 M10)) f v (nI (j + 1)) M8) zN v1 M1) = F_X1_growWays_L15 63 (nI T) (nI (zll T)) (fun (y1 : Int32) (M10 : zM) => zck (zbo y1) (zI y1 M10)) f v (nI (j + 1)) M2 ∧ (zll T ≤ j + 1 ∧ zTb (S 0 0) (zfY S w T (j + 1)) (M2 66) ∧ zoff [66] M M2) := fun v => by
          obtain ⟨M2, e2, g1, g2⟩ := gw_x1 hS1 ho hW1 hk hT h0 hTn hj hb1 hEj v (fun (M8 : zM) => F_X1_growWays_L15 63 (nI T) (nI (zll T)) (fun (y1 : Int32) (M10 : zM) => zck (zbo y1) (zI y1 M10)) f v (nI (j + 1)) M8)
          exact ⟨M2, by rw [zlt_eq, nI_1, e2], by omega, g1, zoff_trans o1 g2⟩
        simp only [zjo_eq]
        rw [wt_x hS1 ho hW1 hk hj hln, zbI_I]
        cases hz : zax (fun e => zE' S w T e && zwt S w e (zll T)) j with
        | true =>
          rw [if_pos rfl, zit_f (by decide), Bool.true_or, if_pos rfl]
          exact fin 1
        | false =>
          rw [if_neg (by decide), zit_t (by decide), Bool.false_or]
          cases hw' : zwt S w j (zll T) with
          | true =>
            rw [if_pos rfl, zit_f (by decide)]
            exact fin 1
          | false =>
            rw [if_neg (by decide), zit_t (by decide)]
            exact fin 0
    · rintro f M1 ⟨-, hb1, o1⟩
      obtain ⟨hS1, hW1⟩ := okx hS hW (zoff_mono o1 (by decide))
      show ∃ M', F_X1_growWays_L15 63 (nI T) (nI (zll T)) _ (f + 1) _ _ M1 = _ ∧ _
      rw [F_X1_growWays_L15, gr_63_0, sx_n hS1, zit_t (nI_le (Nat.le_refl _) (by omega))]
      refine ⟨M1, ?_, zTb_ext hb1 (fun s _ _ k _ => fY_n), o1⟩
      show zck (zbo (if zbk S w T = true then 1 else 0)) (zI (if zbk S w T = true then 1 else 0) M1) = _
      cases zbk S w T <;> rfl
  rw [hz0, if_neg (by decide)] at key
  exact key
theorem zbkI (b : Bool) (x y : zO) : zit ((if b = true then (1 : Int32) else 0) = 0) x y = if b = true then y else x := by
  cases b
  · exact zit_t (by decide)
  · exact zit_f (by decide)
theorem lv_x {M : zM} (hS : zSx S M) (ho : zSok S) (hW : zWx 40 w M) (hk : zWok S w) : ∃ M', F_X1_smallestLeaving 63 M = zI (zlvI (zlv S w (2 ^ S 0 0))) M' ∧ zoff [66] M M' := by
  have h8 := so_n ho
  have hpw : 2 ^ S 0 0 ≤ 256 := by
    have := Nat.pow_le_pow_right (n := 2) (by decide) h8
    omega
  have hp1 : 1 ≤ 2 ^ S 0 0 := Nat.one_le_two_pow
  unfold F_X1_smallestLeaving
  rw [zlt_eq, gr_63_0, sx_n hS, bpow _ (by omega), gr_63_5, fi_x (n := 256) (by decide +kernel) (by omega), zbV_V]
  obtain ⟨M0, hM0⟩ : ∃ M0, zupA M 66 (fun i => if i < 256 then 0 else M 66 i) = M0 := ⟨_, rfl⟩
  rw [hM0]
  have o0 : zoff [66] M M0 := by rw [← hM0]; exact zoff_upA zoff_rfl (by decide)
  have r0 : ∀ s, s < 256 → M0 66 s = nI 0 := fun s hs => by
    rw [← hM0, zupA_eq, if_pos hs]
    rfl
  have key : ∃ M1, F_X1_smallestLeaving_L20 63 (nI (2 ^ S 0 0)) (fun (M3 : zM) => F_X1_smallestLeaving_L52 63 (nI (2 ^ S 0 0)) (fun (y1 : Int32) (M10 : zM) => zI y1 M10) zN (-1) 1 M3) zN 0 M0 = F_X1_smallestLeaving_L52 63 (nI (2 ^ S 0 0)) (fun (y1 : Int32) (M10 : zM) => zI y1 M10) zN (-1) 1 M1 ∧ (zTb (S 0 0) (fun s e => decide (s = 2 ^ e ∧ e < S 0 0)) (M1 66) ∧ zoff [66] M M1) := by
    refine zfor (i := 0) (f := zN) (a := M0) (S 0 0) (fun f i (M1 : zM) => F_X1_smallestLeaving_L20 63 (nI (2 ^ S 0 0)) (fun (M3 : zM) => F_X1_smallestLeaving_L52 63 (nI (2 ^ S 0 0)) (fun (y1 : Int32) (M10 : zM) => zI y1 M10) zN (-1) 1 M3) f (nI i) M1) (fun i M1 => zTb (S 0 0) (fun s e => decide (s = 2 ^ e ∧ e < i)) (M1 66) ∧ zoff [66] M M1) (fun o => ∃ M1, o = F_X1_smallestLeaving_L52 63 (nI (2 ^ S 0 0)) (fun (y1 : Int32) (M10 : zM) => zI y1 M10) zN (-1) 1 M1 ∧ (zTb (S 0 0) (fun s e => decide (s = 2 ^ e ∧ e < S 0 0)) (M1 66) ∧ zoff [66] M M1)) ?_ ?_ (by omega) (zN_ge (by omega)) ⟨fun s h1 h2 => ⟨0, by omega, r0 s (by omega), fun e he => by rw [bzero_b]; exact (decide_eq_false (fun z => absurd z.2 (Nat.not_lt_zero _))).symm⟩, o0⟩
    · rintro f i M1 hi ⟨hb1, o1⟩
      refine Or.inr ?_
      obtain ⟨hS1, hW1⟩ := okx hS hW (zoff_mono o1 (by decide))
      obtain ⟨q1, q2, q3⟩ := pow_bits i (by omega)
      show ∃ M2, F_X1_smallestLeaving_L20 63 (nI (2 ^ S 0 0)) _ (f + 1) (nI i) M1 = F_X1_smallestLeaving_L20 63 (nI (2 ^ S 0 0)) _ f (nI (i + 1)) M2 ∧ _
      rw [F_X1_smallestLeaving_L20, gr_63_0, sx_n hS1, zit_f (nI_ge hi (by omega)), bpow i (by omega), zin_k (k := 2 ^ i) (n := 256) q1 (by omega), zck_t, zst_eq, gr_63_5, zix_k (k := 2 ^ i) (by omega), nI_1]
      refine ⟨_, rfl, fun s h1 h2 => ?_, zoff_up o1 (by decide)⟩
      rw [zup_row]
      obtain ⟨B, b1, b2, b3⟩ := hb1 s h1 h2
      by_cases e : s = 2 ^ i
      · refine ⟨2 ^ i, q1, by rw [e, upd_eq], fun k hk8 => ?_⟩
        rw [q3 k hk8]
        refine decide_eq_decide.mpr ⟨fun z => by rw [z]; exact ⟨e, by omega⟩, fun z => ?_⟩
        have h3 := pow_one s (by omega) k hk8 z.1
        rw [e, q2] at h3
        exact h3
      · refine ⟨B, b1, by rw [upd_ne e]; exact b2, fun k hk8 => ?_⟩
        rw [b3 k hk8]
        refine decide_eq_decide.mpr ⟨fun z => ⟨z.1, by omega⟩, fun z => ⟨z.1, ?_⟩⟩
        by_cases hki : k = i
        · rw [hki] at z
          exact absurd z.1 e
        · omega
    · rintro f M1 ⟨hb1, o1⟩
      obtain ⟨hS1, hW1⟩ := okx hS hW (zoff_mono o1 (by decide))
      show ∃ M2, F_X1_smallestLeaving_L20 63 (nI (2 ^ S 0 0)) _ (f + 1) _ M1 = _ ∧ _
      rw [F_X1_smallestLeaving_L20, gr_63_0, sx_n hS1, zit_t (nI_le (Nat.le_refl _) (by omega))]
      exact ⟨M1, rfl, hb1, o1⟩
  obtain ⟨M1, e1, hb1, o1⟩ := key
  refine (fun h => by rw [e1]; exact h) ?_
  have hb2 : zTb (S 0 0) (zfX S w 1) (M1 66) := zTb_ext hb1 (fun s h1 h2 k hk8 => by
    unfold zfX
    by_cases e : s = 2 ^ k
    · have q3 := (pow_bits k hk8).2.2 k hk8
      have h3 : zbi s k = true := by rw [e, q3, decide_eq_true rfl]
      rw [h3, decide_eq_true e, decide_eq_true ⟨e, in_lt (S 0 0) (by omega) s (by omega) h2 k hk8 h3⟩]
      rfl
    · rw [decide_eq_false (fun z => e z.1), decide_eq_false e, Bool.false_or]
      cases hbk : zbi s k with
      | false => rfl
      | true =>
        by_cases hl : k = zll s
        · rw [decide_eq_true hl]
          rfl
        · obtain ⟨-, -, h4, -⟩ := cutl s (by omega) k hk8 hbk hl
          rw [decide_eq_false (show ¬ zcb s k < 1 from by omega), Bool.false_and, Bool.and_false, Bool.and_false])
  refine zfor (i := 1) (f := zN) (a := M1) (2 ^ S 0 0) (fun f T (M2 : zM) => F_X1_smallestLeaving_L52 63 (nI (2 ^ S 0 0)) (fun (y1 : Int32) (M10 : zM) => zI y1 M10) f (zlvI (zlv S w T)) (nI T) M2) (fun T M2 => 0 < T ∧ zTb (S 0 0) (zfX S w T) (M2 66) ∧ zoff [66] M M2) (fun o => ∃ M', o = zI (zlvI (zlv S w (2 ^ S 0 0))) M' ∧ zoff [66] M M') ?_ ?_ hp1 (zN_ge (by omega)) ⟨by omega, hb2, o1⟩
  · rintro f T M2 hT ⟨hT0, hb3, o2⟩
    refine Or.inr ?_
    obtain ⟨hS2, hW2⟩ := okx hS hW (zoff_mono o2 (by decide))
    obtain ⟨M3, e3, hb4, o3⟩ := gw_x hS2 ho hW2 hk (by omega) hT0 hT hb3
    have hlt := zlv_lt (S := S) (w := w) T
    have hc1 := zcu_le (zbi T) 8
    have hc2 := zcu_le (zbi (zlv S w T)) 8
    have fin : ∀ (b : Bool), b = decide (zlv S w T = 0 ∨ zcu (zbi T) 8 < zcu (zbi (zlv S w T)) 8) → ∃ M4, zbI (F_X1_growWays 63 (nI T) M2) (fun r3 M8 => zit (r3 = 0) (F_X1_smallestLeaving_L52 63 (nI (2 ^ S 0 0)) (fun (y1 : Int32) (M10 : zM) => zI y1 M10) f (zlvI (zlv S w T)) (nI (T + 1)) M8) (zit ((if b = true then (1 : Int32) else 0) = 0) (F_X1_smallestLeaving_L52 63 (nI (2 ^ S 0 0)) (fun (y1 : Int32) (M10 : zM) => zI y1 M10) f (zlvI (zlv S w T)) (nI (T + 1)) M8) (F_X1_smallestLeaving_L52 63 (nI (2 ^ S 0 0)) (fun (y1 : Int32) (M10 : zM) => zI y1 M10) f (nI T) (nI (T + 1)) M8))) = F_X1_smallestLeaving_L52 63 (nI (2 ^ S 0 0)) (fun (y1 : Int32) (M10 : zM) => zI y1 M10) f (zlvI (zlv S w (T + 1))) (nI (T + 1)) M4 ∧ (0 < T + 1 ∧ zTb (S 0 0) (zfX S w (T + 1)) (M4 66) ∧ zoff [66] M M4) := fun b hbb => by
      rw [e3, zbI_I, zlv_s, zbkI, zbkI]
      refine ⟨M3, ?_, by omega, hb4, zoff_trans o2 o3⟩
      cases hz : zbk S w T with
      | false => rw [if_neg (by decide), if_neg (fun z => absurd z.2.1 (by decide))]
      | true =>
        rw [if_pos rfl]
        cases b with
        | false => rw [if_neg (by decide), if_neg (fun z => of_decide_eq_false hbb.symm z.2.2)]
        | true =>
          rw [if_pos rfl, if_pos ⟨by omega, rfl, of_decide_eq_true hbb.symm⟩]
          unfold zlvI
          rw [if_neg (by omega)]
    show ∃ M4, F_X1_smallestLeaving_L52 63 (nI (2 ^ S 0 0)) _ (f + 1) (zlvI (zlv S w T)) (nI T) M2 = F_X1_smallestLeaving_L52 63 (nI (2 ^ S 0 0)) _ f _ (nI (T + 1)) M4 ∧ _
    rw [F_X1_smallestLeaving_L52, zit_f (nI_ge hT (by omega))]
    simp only [zjo_eq, bc_F, zbI_I, nI_1]
    by_cases hz : zlv S w T = 0
    · rw [zit_t (by rw [hz]; rfl)]
      exact fin true (decide_eq_true (Or.inl hz)).symm
    · have hI : zlvI (zlv S w T) = nI (zlv S w T) := if_neg hz
      rw [hI, zit_f (nI_n1 (by omega)), bcnt T (by omega), bcnt _ (by omega), ← hI]
      by_cases hp : zcu (zbi T) 8 < zcu (zbi (zlv S w T)) 8
      · rw [zit_f (nI_ge hp (by omega))]
        exact fin true (decide_eq_true (Or.inr hp)).symm
      · rw [zit_t (nI_le (by omega) (by omega))]
        exact fin false (decide_eq_false (fun z => by omega)).symm
  · rintro f M2 ⟨-, -, o2⟩
    show ∃ M', F_X1_smallestLeaving_L52 63 (nI (2 ^ S 0 0)) _ (f + 1) _ _ M2 = _ ∧ _
    rw [F_X1_smallestLeaving_L52, zit_t (nI_le (Nat.le_refl _) (by omega))]
    exact ⟨M2, rfl, o2⟩
end ZLV
