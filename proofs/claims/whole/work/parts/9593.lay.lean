/-! the SHORTEST word, the class's -/
theorem zcb_2 : ∀ r, r < 256 → ∀ k, k < 8 → zcb (zcb r k) k = zcb r k := by decide +kernel
def zwo (S : zSD) (s : Nat) : Nat → Nat
  | 0 => s
  | k + 1 => if zax (zaq S s k) 8 = true then zcb (zwo S s k) k else zwo S s k
theorem zwo_b {S : zSD} {s : Nat} (hs : s < 256) : ∀ k, k ≤ 8 → zwo S s k < 256 ∧ ∀ j, j < 8 → zbi (zwo S s k) j = (zbi s j && !(decide (j < k) && zax (zaq S s j) 8))
  | 0, _ => ⟨hs, fun j _ => by
    show zbi s j = _
    rw [decide_eq_false (Nat.not_lt_zero j), Bool.false_and, Bool.not_false, Bool.and_true]⟩
  | k + 1, hk => by
    obtain ⟨h1, h2⟩ := zwo_b (S := S) hs k (by omega)
    rw [zwo]
    by_cases hz : zax (zaq S s k) 8 = true
    · rw [if_pos hz]
      refine ⟨Nat.lt_of_le_of_lt (zcb_le _ _) h1, fun j hj => ?_⟩
      rw [zcb_b _ h1 k (by omega) j hj, h2 j hj]
      by_cases e : j = k
      · subst e
        rw [hz, decide_eq_true (rfl : j = j), decide_eq_true (show j < j + 1 from by omega)]
        cases zbi s j <;> simp
      · rw [decide_eq_false e, show decide (j < k + 1) = decide (j < k) from decide_eq_decide.mpr ⟨fun _ => by omega, fun _ => by omega⟩, Bool.not_false, Bool.and_true]
    · rw [if_neg hz]
      refine ⟨h1, fun j hj => ?_⟩
      rw [h2 j hj]
      by_cases e : j = k
      · subst e
        rw [Bool.eq_false_iff.mpr hz, Bool.and_false, Bool.and_false]
      · rw [show decide (j < k + 1) = decide (j < k) from decide_eq_decide.mpr ⟨fun _ => by omega, fun _ => by omega⟩]
theorem zwo_8 {S : zSD} {s : Nat} (hs : s < 256) : zwo S s 8 = zak S s := by
  obtain ⟨h1, h2⟩ := zwo_b (S := S) hs 8 (Nat.le_refl _)
  rw [← zsbt_b _ h1]
  refine zsbt_cg (fun k hk => ?_)
  rw [h2 k hk, decide_eq_true hk, Bool.true_and]
  rfl
section ZLY
variable {S : zSD}
theorem wy_off {M M' : zM} (h : zSx S M) (o : zoff [4, 7, 8] M M') : zSx S M' := by
  unfold zSx at *
  rw [o 3 (by decide), o 5 (by decide), o 6 (by decide), o 13 (by decide), o 14 (by decide), o 15 (by decide), o 17 (by decide), o 18 (by decide), o 19 (by decide), o 20 (by decide), o 23 (by decide)]
  exact h
theorem wi_1 {M : zM} (hS : zSx S M) (ho : zSok S) {s r one : Nat} (hs : s < 256) (hn : s < 2 ^ S 0 0) (hr : r < 256) (h1 : one < 8) (K : Int32 → zM → zO) : F_X9_withoutThoseInside_L13 4 (nI s) (nI one) K zN (nI r) 0 M = K (nI (if zax (zaq S s one) 8 = true then zcb r one else r)) M := by
  have h8 := so_n ho
  refine zfor (i := 0) (f := zN) (a := ()) 8 (fun f o (_ : Unit) => F_X9_withoutThoseInside_L13 4 (nI s) (nI one) K f (nI (if zax (zaq S s one) o = true then zcb r one else r)) (nI o) M) (fun _ _ => True) (fun o => o = K (nI (if zax (zaq S s one) 8 = true then zcb r one else r)) M) ?_ ?_ (by omega) (zN_ge (by omega)) trivial
  · rintro f o _ h2 -
    refine Or.inr ⟨(), ?_, trivial⟩
    show F_X9_withoutThoseInside_L13 4 (nI s) (nI one) K (f + 1) (nI (if zax (zaq S s one) o = true then zcb r one else r)) (nI o) M = F_X9_withoutThoseInside_L13 4 (nI s) (nI one) K f (nI (if zax (zaq S s one) (o + 1) = true then zcb r one else r)) (nI (o + 1)) M
    obtain ⟨r', hr'⟩ : ∃ r', (if zax (zaq S s one) o = true then zcb r one else r) = r' := ⟨_, rfl⟩
    have hr2 : r' < 256 := by
      rw [← hr']
      split
      · exact Nat.lt_of_le_of_lt (zcb_le _ _) hr
      · exact hr
    have hcc : zcb r' one = zcb r one := by
      rw [← hr']
      split
      · exact zcb_2 r hr one h1
      · rfl
    have hno : zaq S s one o = false → (if zax (zaq S s one) (o + 1) = true then zcb r one else r) = r' := fun h => by rw [zax_s, h, Bool.or_false, hr']
    rw [hr', F_X9_withoutThoseInside_L13, zit_f (show ¬ (8 : Int32) ≤ nI o from (nI_ge (by omega) (by omega) : ¬ nI 8 ≤ nI o)), zjo_eq, zjo_eq, nI_1]
    by_cases b1 : zbi s one = true
    · rw [zit_t (show (nI s >>> (nI one &&& 31)) &&& 1 = 1 from by rw [bi_1 hs h1]; exact b1)]
      by_cases b2 : zbi s o = true
      · rw [zit_t (show (nI s >>> (nI o &&& 31)) &&& 1 = 1 from by rw [bi_1 hs h2]; exact b2)]
        try dsimp only
        rw [zjo_eq, zit_f (by decide)]
        by_cases e : one = o
        · rw [zit_t (by rw [e]), hno (by unfold zaq; rw [decide_eq_true e]; simp)]
        · have i1 := in_lt (S 0 0) (by omega) s hs hn one h1 b1
          have i2 := in_lt (S 0 0) (by omega) s hs hn o h2 b2
          rw [zit_f (fun z => e ((nI_eq (by omega) (by omega)).mp z)), ii_x hS ho i1 i2, zbI_I]
          cases hz : zii S one o with
          | false =>
            rw [if_neg (by decide), zit_t rfl, hno (by unfold zaq; rw [hz]; simp)]
          | true =>
            rw [if_pos rfl, zit_f (by decide), zlt_eq, bcl r' hr2 one h1, hcc, if_pos (by rw [zax_s, show zaq S s one o = true from by unfold zaq; rw [hz, b1, b2, decide_eq_false e]; rfl, Bool.or_true])]
      · rw [zit_f (show ¬ (nI s >>> (nI o &&& 31)) &&& 1 = 1 from by rw [bi_1 hs h2]; exact b2)]
        try dsimp only
        rw [zjo_eq, zit_t rfl, hno (by unfold zaq; rw [Bool.eq_false_iff.mpr b2]; simp)]
    · rw [zit_f (show ¬ (nI s >>> (nI one &&& 31)) &&& 1 = 1 from by rw [bi_1 hs h1]; exact b1)]
      try dsimp only
      rw [zjo_eq, zit_t rfl, hno (by unfold zaq; rw [Bool.eq_false_iff.mpr b1]; simp)]
  · rintro f _ -
    show F_X9_withoutThoseInside_L13 4 (nI s) (nI one) K (f + 1) _ (nI 8) M = _
    rw [F_X9_withoutThoseInside_L13, zit_t (by decide)]
theorem wi_x {M : zM} (hS : zSx S M) (ho : zSok S) {s : Nat} (hs : s < 256) (hn : s < 2 ^ S 0 0) : F_X9_withoutThoseInside 4 (nI s) M = zI (nI (zak S s)) M := by
  unfold F_X9_withoutThoseInside
  refine zfor (i := 0) (f := zN) (a := ()) 8 (fun f o (_ : Unit) => F_X9_withoutThoseInside_L4 4 (nI s) (fun (y2 : Int32) (M6 : zM) => zI y2 M6) f (nI (zwo S s o)) (nI o) M) (fun _ _ => True) (fun o => o = zI (nI (zak S s)) M) ?_ ?_ (by omega) (zN_ge (by omega)) trivial
  · rintro f o _ h2 -
    refine Or.inr ⟨(), ?_, trivial⟩
    show F_X9_withoutThoseInside_L4 4 (nI s) _ (f + 1) (nI (zwo S s o)) (nI o) M = F_X9_withoutThoseInside_L4 4 (nI s) _ f (nI (zwo S s (o + 1))) (nI (o + 1)) M
    rw [F_X9_withoutThoseInside_L4, zit_f (show ¬ (8 : Int32) ≤ nI o from (nI_ge (by omega) (by omega) : ¬ nI 8 ≤ nI o)), wi_1 hS ho hs hn (zwo_b hs o (by omega)).1 h2, nI_1]
    rfl
  · rintro f _ -
    show F_X9_withoutThoseInside_L4 4 (nI s) _ (f + 1) (nI (zwo S s 8)) (nI 8) M = _
    rw [F_X9_withoutThoseInside_L4, zit_t (by decide), zwo_8 hs]
/-- what is kept -/
def zYb (b : Nat × List Nat) (M : zM) : Prop := M 4 5 = nI b.1 ∧ M 4 4 = nI b.2.length ∧ b.1 < 100 ∧ b.2.length ≤ 5 ∧ ∀ j, j < b.2.length → M 8 j = nI (b.2.getD j 0)
theorem ap_gD (s : List Nat) (c : Nat) {j : Nat} (h : j < s.length) : (s ++ [c]).getD j 0 = s.getD j 0 := by
  rw [getD_ap _ _ s j (by omega), if_neg (by omega)]
theorem ap_gl (s : List Nat) (c : Nat) : (s ++ [c]).getD s.length 0 = c := by
  rw [getD_ap _ _ s s.length (by omega), if_pos rfl]
theorem zll_ap (S : zSD) (s : List Nat) (c : Nat) : zll' S (s ++ [c]) = zll' S s + (S 3 c - (if s.length = 0 then 0 else zcm S (s.getD (s.length - 1) 0) c)) := by
  unfold zll'
  rw [List.length_append, List.length_singleton, zlf, zlf_cg (o := zgD (s ++ [c])) (o' := zgD s) s.length (fun j hj => ap_gD s c hj)]
  show zlf S (zgD s) s.length + (S 3 ((s ++ [c]).getD s.length 0) - (if s.length = 0 then 0 else zcm S ((s ++ [c]).getD (s.length - 1) 0) ((s ++ [c]).getD s.length 0))) = _
  rw [ap_gl]
  by_cases e : s.length = 0
  · rw [if_pos e, if_pos e]
  · rw [if_neg e, if_neg e, ap_gD s c (by omega)]
/-- orders that begin with s, go on with A -/
def zOs (d A : Nat) (s : List Nat) (c : Nat) : List (List Nat) := ((List.range c).flatMap (zpn d A)).map (fun t => s ++ t)
theorem zOs_s {d A : Nat} {s : List Nat} {c : Nat} : zOs d A s (c + 1) = zOs d A s c ++ (if zbi A c = true then (zpm d (zel (zcb A c))).map (fun t => (s ++ [c]) ++ t) else []) := by
  unfold zOs
  rw [List.range_succ, List.flatMap_append, List.map_append]
  congr 1
  rw [List.flatMap_singleton]
  unfold zpn
  by_cases h : zbi A c = true
  · rw [if_pos h, if_pos h, List.map_map]
    refine List.map_congr_left (fun t _ => ?_)
    show s ++ c :: t = (s ++ [c]) ++ t
    rw [List.append_assoc]
    rfl
  · rw [if_neg h, if_neg h]
    rfl
theorem lay_x (ho : zSok S) : ∀ d n, d < n → ∀ (A : Nat) (s : List Nat) (b : Nat × List Nat) (M : zM), zSx S M → A < 256 → (∀ k, k < 8 → zbi A k = true → k < S 0 0) → (zel A).length = d → s.length + d ≤ 5 → (∀ j, j < s.length → s.getD j 0 < S 0 0) → (∀ j, j < s.length → M 7 j = nI (s.getD j 0)) → zYb b M → ∃ M', Fr_X9_lay n 4 (nI A) (nI s.length) (nI (zll' S s)) M = zV M' ∧ ((∀ j, j < s.length → M' 7 j = M 7 j) ∧ zYb (((zpm d (zel A)).map (fun t => s ++ t)).foldl (zbf S) b) M' ∧ zoff [4, 7, 8] M M') := by
  have h8 := so_n ho
  intro d
  induction d with
  | zero =>
    intro n hn A s b M hS hA hAn hl hs hsn h7 hb
    obtain ⟨n, rfl⟩ : ∃ m, n = m + 1 := ⟨n - 1, by omega⟩
    obtain rfl : A = 0 := zel_0 hA hl
    have hle := zlf_le ho (o := zgD s) s.length hsn
    show ∃ M', F_X9_lay (Fr_X9_lay n) 4 (nI 0) (nI s.length) (nI (zll' S s)) M = zV M' ∧ ((∀ j, j < s.length → M' 7 j = M 7 j) ∧ zYb (zbf S b (s ++ [])) M' ∧ zoff [4, 7, 8] M M')
    rw [List.append_nil]
    obtain ⟨b1, b2, b3, b4, b5⟩ := id hb
    have hll : zll' S s ≤ 45 := by
      show zlf S (zgD s) s.length ≤ 45
      omega
    unfold F_X9_lay
    rw [zjo_eq, zit_t (by decide)]
    try dsimp only
    rw [zjo_eq, b1]
    unfold zbf
    by_cases hc : zll' S s < b.1
    · rw [zit_f (nI_ge hc (by omega)), if_pos hc, zst_eq, zst_eq, show zcpk 0 0 5 5 5 = true from by decide, zck_t, zst_eq]
      refine ⟨_, rfl, fun j hj => ?_, ⟨?_, ?_, by show zll' S s < 100; omega, by show s.length ≤ 5; omega, fun j hj => ?_⟩, ?_⟩
      · rw [gr_4_3, gr_4_2, zupA_ne (by decide), zup_ne (by decide), zup_ne (by decide)]
      · rw [gr_4_3, zupA_ne (by decide), zup_row, upd_ne (by decide), zup_row, upd_eq]
      · rw [gr_4_3, zupA_ne (by decide), zup_row, upd_eq]
      · rw [gr_4_3, gr_4_2, zupA_eq]
        have hj' : j < s.length := hj
        rw [show zix 0 = 0 from by decide, show zix 5 = 5 from by decide, cpy_in (by omega), zup_ne (by decide), zup_ne (by decide)]
        exact h7 j hj
      · rw [gr_4_3]
        exact zoff_upA (zoff_up (zoff_up zoff_rfl (by decide)) (by decide)) (by decide)
    · rw [zit_t (nI_le (by omega) (by omega)), if_neg hc]
      exact ⟨M, rfl, fun _ _ => rfl, hb, zoff_rfl⟩
  | succ d ih =>
    intro n hn A s b M hS hA hAn hl hs hsn h7 hb
    obtain ⟨n, rfl⟩ : ∃ m, n = m + 1 := ⟨n - 1, by omega⟩
    have hA0 : A ≠ 0 := fun z => by
      rw [z] at hl
      have : (zel 0).length = 0 := by decide
      omega
    have hle := zlf_le ho (o := zgD s) s.length hsn
    have hll : zll' S s ≤ 45 := by
      show zlf S (zgD s) s.length ≤ 45
      omega
    show ∃ M', F_X9_lay (Fr_X9_lay n) 4 (nI A) (nI s.length) (nI (zll' S s)) M = zV M' ∧ _
    unfold F_X9_lay
    rw [zjo_eq, zit_f (show ¬ nI A = (0 : Int32) from fun z => hA0 ((nI_eq (b := 0) (by omega) (by omega)).mp z)), zit_t (show nI s.length < (5 : Int32) from nI_lt (b := 5) (by omega) (by omega))]
    rw [zpm_el hA]
    refine zfor (i := 0) (f := zN) (a := M) 8 (fun f c (M1 : zM) => F_X9_lay_L45 (Fr_X9_lay n) 4 (nI A) (nI s.length) (nI (zll' S s)) (fun (M6 : zM) => zV M6) f (nI c) M1) (fun c M1 => (∀ j, j < s.length → M1 7 j = M 7 j) ∧ zYb ((zOs d A s c).foldl (zbf S) b) M1 ∧ zoff [4, 7, 8] M M1) (fun o => ∃ M', o = zV M' ∧ ((∀ j, j < s.length → M' 7 j = M 7 j) ∧ zYb ((zOs d A s 8).foldl (zbf S) b) M' ∧ zoff [4, 7, 8] M M')) ?_ ?_ (by omega) (zN_ge (by omega)) ⟨fun _ _ => rfl, hb, zoff_rfl⟩
    · rintro f c M1 hc ⟨i1, i2, i3⟩
      refine Or.inr ?_
      have hS1 := wy_off hS i3
      show ∃ M2, F_X9_lay_L45 (Fr_X9_lay n) 4 (nI A) (nI s.length) (nI (zll' S s)) (fun (M6 : zM) => zV M6) (f + 1) (nI c) M1 = F_X9_lay_L45 (Fr_X9_lay n) 4 (nI A) (nI s.length) (nI (zll' S s)) (fun (M6 : zM) => zV M6) f (nI (c + 1)) M2 ∧ _
      rw [F_X9_lay_L45, zit_f (show ¬ (8 : Int32) ≤ nI c from (nI_ge (by omega) (by omega) : ¬ nI 8 ≤ nI c)), zjo_eq, zOs_s]
      by_cases hbt : zbi A c = true
      · have hcn := hAn c hc hbt
        rw [zit_t (show (nI A >>> (nI c &&& 31)) &&& 1 = 1 from by rw [bi_1 hA hc]; exact hbt), if_pos hbt, zin_k (k := s.length) (n := 5) (by omega) (by omega), zck_t, zst_eq, gr_4_2, zix_k (k := s.length) (by omega)]
        obtain ⟨M2, hM2⟩ : ∃ M2, zup M1 7 s.length (nI c) = M2 := ⟨_, rfl⟩
        rw [hM2]
        have o2 : zoff [4, 7, 8] M1 M2 := by rw [← hM2]; exact zoff_up zoff_rfl (by decide)
        have hS2 := wy_off hS1 o2
        have h72 : ∀ j, j < (s ++ [c]).length → M2 7 j = nI ((s ++ [c]).getD j 0) := fun j hj => by
          rw [List.length_append, List.length_singleton] at hj
          rw [← hM2, zup_row, getD_ap _ _ s j hj]
          by_cases e : j = s.length
          · rw [e, upd_eq, if_pos rfl]
          · rw [upd_ne e, if_neg e, i1 j (by omega), h7 j (by omega)]
        have hsn2 : ∀ j, j < (s ++ [c]).length → (s ++ [c]).getD j 0 < S 0 0 := fun j hj => by
          rw [List.length_append, List.length_singleton] at hj
          rw [getD_ap _ _ s j hj]
          by_cases e : j = s.length
          · rw [if_pos e]; exact hcn
          · rw [if_neg e]; exact hsn j (by omega)
        have hY2 : zYb ((zOs d A s c).foldl (zbf S) b) M2 := by
          unfold zYb
          rw [← hM2, zup_ne (show 4 ≠ 7 from by decide), zup_ne (show 8 ≠ 7 from by decide)]
          exact i2
        have hAc : zcb A c < 256 := Nat.lt_of_le_of_lt (zcb_le _ _) hA
        have h3c := so_i ho c hcn
        have hcm : (if s.length = 0 then 0 else zcm S (s.getD (s.length - 1) 0) c) ≤ S 3 c := by
          split
          · omega
          · have := (zcm_lt ho (hsn (s.length - 1) (by omega)) hcn).2
            omega
        obtain ⟨M3, e3, j1, j2, j3⟩ := ih n (by omega) (zcb A c) (s ++ [c]) ((zOs d A s c).foldl (zbf S) b) M2 hS2 hAc (fun k hk hz => by
          rw [zcb_b A hA c hc k hk] at hz
          exact hAn k hk (Bool.and_eq_true_iff.mp hz).1) (by have := zel_cb A hA c hc hbt; omega) (by rw [List.length_append, List.length_singleton]; omega) hsn2 h72 hY2
        have fin : ∀ w : Nat, w = (if s.length = 0 then 0 else zcm S (s.getD (s.length - 1) 0) c) → zck (zin (nI c) 8) (zbV (Fr_X9_lay n 4 (nI A &&& (((1 : Int32) <<< (nI c &&& 31)) ^^^ (-1))) (nI s.length + 1) ((nI (zll' S s) + M2 (zgr 4 1) (zix (nI c))) - nI w) M2) (fun M4 => F_X9_lay_L45 (Fr_X9_lay n) 4 (nI A) (nI s.length) (nI (zll' S s)) (fun (M6 : zM) => zV M6) f (nI c + 1) M4)) = F_X9_lay_L45 (Fr_X9_lay n) 4 (nI A) (nI s.length) (nI (zll' S s)) (fun (M6 : zM) => zV M6) f (nI (c + 1)) M3 := fun w hw => by
          have e4 : nI (zll' S s) + nI (S 3 c) - nI w = nI (zll' S (s ++ [c])) := by
            rw [nI_add, s_sub (by omega), zll_ap, ← hw]
            congr 1
            omega
          rw [zin_k (k := c) (n := 8) hc (by omega), zck_t, bcl A hA c hc, gr_4_1, zix_k (k := c) (by omega), sx_3 hS2 c hcn, e4, nI_1, nI_1]
          rw [List.length_append, List.length_singleton] at e3
          rw [e3, zbV_V]
        refine ⟨M3, ?_, fun j hj => ?_, ?_, zoff_trans i3 (zoff_trans o2 j3)⟩
        · rw [zjo_eq]
          by_cases e0 : s.length = 0
          · rw [zit_t (show nI s.length = (0 : Int32) from by rw [e0]; rfl)]
            exact fin 0 (by rw [if_pos e0])
          · rw [zit_f (show ¬ nI s.length = (0 : Int32) from fun z => e0 ((nI_eq (b := 0) (by omega) (by omega)).mp z)), show nI s.length - 1 = nI (s.length - 1) from s_sub (b := 1) (by omega), zin_k (k := s.length - 1) (n := 5) (by omega) (by omega), zck_t, zix_k (k := s.length - 1) (by omega), h72 (s.length - 1) (by rw [List.length_append, List.length_singleton]; omega), ap_gD s c (by omega), ov_x hS2 ho (hsn (s.length - 1) (by omega)) hcn, zbI_I]
            exact fin _ (by rw [if_neg e0])
        · rw [j1 j (by rw [List.length_append, List.length_singleton]; omega), ← hM2, zup_row, upd_ne (by omega), i1 j hj]
        · rw [List.foldl_append]
          exact j2
      · rw [zit_f (show ¬ (nI A >>> (nI c &&& 31)) &&& 1 = 1 from by rw [bi_1 hA hc]; exact hbt), if_neg hbt, List.append_nil, nI_1]
        exact ⟨M1, rfl, i1, i2, i3⟩
    · rintro f M1 ⟨i1, i2, i3⟩
      show ∃ M2, F_X9_lay_L45 (Fr_X9_lay n) 4 (nI A) (nI s.length) (nI (zll' S s)) (fun (M6 : zM) => zV M6) (f + 1) (nI 8) M1 = _ ∧ _
      rw [F_X9_lay_L45, zit_t (by decide)]
      exact ⟨M1, rfl, i1, i2, i3⟩
end ZLY
