/-! the SHORTEST word, the reference's -/
section ZMO
variable {S : zSD}
/-- in cells that may change -/
def zSy (M M' : zM) : Prop := (∀ k, k ≠ 63 → M' 79 k = M 79 k) ∧ zoff [79, 114, 115] M M'
theorem zSy_rfl {M : zM} : zSy M M := ⟨fun _ _ => rfl, zoff_rfl⟩
theorem zSy_tr {M M' M'' : zM} (h : zSy M M') (h' : zSy M' M'') : zSy M M'' := ⟨fun k hk => (h'.1 k hk).trans (h.1 k hk), zoff_trans h.2 h'.2⟩
theorem zSy_o {M M' : zM} (h : zoff [114, 115] M M') : zSy M M' := ⟨fun k _ => by rw [h 79 (by decide)], zoff_mono h (by decide)⟩
theorem zSy_S {M M' : zM} (h : zSm S M) (o : zSy M M') : zSm S M' := by
  obtain ⟨o1, o2⟩ := o
  unfold zSm at *
  rw [o1 1 (by decide), o1 2 (by decide), o1 3 (by decide), o2 80 (by decide), o2 81 (by decide), o2 82 (by decide), o2 83 (by decide), o2 84 (by decide), o2 85 (by decide), o2 86 (by decide), o2 87 (by decide)]
  exact h
/-- is it asked -/
theorem ak_m {M : zM} (hS : zSm S M) (ho : zSok S) {s k : Nat} (hs : s < 256) (hn : s < 2 ^ S 0 0) (hk : k < S 0 0) (x2 : Int32) (K : Int32 → zM → zO) : F_X12_shortest_L94 79 (nI s) x2 (nI k) K zN (if zbi s k = true then 1 else 0) 0 M = K (if zas S s k = true then 1 else 0) M := by
  have h8 := so_n ho
  have e8 : zax (zaq S s k) 8 = zax (zaq S s k) (S 0 0) := by
    have : ∀ m, S 0 0 ≤ m → m ≤ 8 → zax (zaq S s k) m = zax (zaq S s k) (S 0 0) := by
      intro m
      induction m with
      | zero => intro h1 _; rw [show S 0 0 = 0 from by omega]
      | succ m ih =>
        intro h1 h2
        by_cases e : S 0 0 = m + 1
        · rw [e]
        · rw [zax_s, ih (by omega) (by omega)]
          have : zaq S s k m = false := by
            unfold zaq
            cases hb : zbi s m with
            | false => simp
            | true => exact absurd (in_lt (S 0 0) (by omega) s hs hn m (by omega) hb) (by omega)
          rw [this, Bool.or_false]
    exact this 8 h8 (by omega)
  refine zfor (i := 0) (f := zN) (a := ()) (S 0 0) (fun f o (_ : Unit) => F_X12_shortest_L94 79 (nI s) x2 (nI k) K f (if (zbi s k && !zax (zaq S s k) o) = true then 1 else 0) (nI o) M) (fun _ _ => True) (fun o => o = K (if zas S s k = true then 1 else 0) M) ?_ ?_ (by omega) (zN_ge (by omega)) trivial |> fun h => by
    have e0 : (zbi s k && !zax (zaq S s k) 0) = zbi s k := by
      show (zbi s k && !false) = _
      rw [Bool.not_false, Bool.and_true]
    simp only [e0] at h
    exact h
  · rintro f o _ h2 -
    refine Or.inr ⟨(), ?_, trivial⟩
    show F_X12_shortest_L94 79 (nI s) x2 (nI k) K (f + 1) (if (zbi s k && !zax (zaq S s k) o) = true then 1 else 0) (nI o) M = F_X12_shortest_L94 79 (nI s) x2 (nI k) K f (if (zbi s k && !zax (zaq S s k) (o + 1)) = true then 1 else 0) (nI (o + 1)) M
    rw [F_X12_shortest_L94, sm_n hS, zit_f (nI_ge h2 (by omega)), zjo_eq, zjo_eq, nI_1]
    cases hc : (zbi s k && !zax (zaq S s k) o) with
    | false =>
      have : (zbi s k && !zax (zaq S s k) (o + 1)) = false := by
        rw [zax_s]
        cases hb : zbi s k with
        | false => rfl
        | true =>
          rw [hb, Bool.true_and] at hc
          rw [show zax (zaq S s k) o = true from by cases hz : zax (zaq S s k) o with | true => rfl | false => rw [hz] at hc; exact (nomatch hc)]
          rfl
      rw [this, if_neg (by decide), zit_t rfl]
    | true =>
      obtain ⟨hc1, hc2⟩ := Bool.and_eq_true_iff.mp hc
      have hz0 : zax (zaq S s k) o = false := by
        cases hz : zax (zaq S s k) o with
        | false => rfl
        | true => rw [hz] at hc2; exact (nomatch hc2)
      rw [if_pos rfl, zit_f (by decide), zjo_eq, zax_s, hz0, hc1, Bool.false_or, Bool.true_and]
      by_cases e : o = k
      · rw [zit_t (by rw [e]), show zaq S s k o = false from by unfold zaq; rw [decide_eq_true e.symm]; simp]
        rfl
      · rw [zit_f (fun z => e ((nI_eq (by omega) (by omega)).mp z))]
        by_cases b2 : zbi s o = true
        · rw [zit_f (show ¬ (nI s >>> (nI o &&& 31)) &&& 1 = 0 from by rw [bi_0 hs (by omega), b2]; decide), ii_m hS ho hk h2, zbI_I]
          have hq : zaq S s k o = zii S k o := by
            unfold zaq
            rw [hc1, b2, decide_eq_false (fun z : k = o => e z.symm)]
            rfl
          rw [hq]
          cases hz : zii S k o with
          | false => rw [if_neg (by decide), zit_t rfl]; rfl
          | true => rw [if_pos rfl, zit_f (by decide)]; rfl
        · rw [zit_t (show (nI s >>> (nI o &&& 31)) &&& 1 = 0 from by rw [bi_0 hs (by omega)]; exact Bool.eq_false_iff.mpr b2), show zaq S s k o = false from by unfold zaq; rw [Bool.eq_false_iff.mpr b2]; simp]
          rfl
  · rintro f _ -
    show F_X12_shortest_L94 79 (nI s) x2 (nI k) K (f + 1) (if (zbi s k && !zax (zaq S s k) (S 0 0)) = true then 1 else 0) (nI (S 0 0)) M = _
    rw [F_X12_shortest_L94, sm_n hS, zit_t (nI_le (Nat.le_refl _) (by omega)), ← e8]
    rfl
/-- the asked ones in a row -/
def zArw (l : List Nat) (M : zM) : Prop := M 79 63 = nI l.length ∧ ∀ j, j < l.length → M 114 j = nI (l.getD j 0)
theorem ar_m {M : zM} (hS : zSm S M) (ho : zSok S) {s : Nat} (hs : s < 256) (hn : s < 2 ^ S 0 0) (h5 : zcu (zbi s) 8 ≤ 5) (h63 : M 79 63 = 0) (x2 : Int32) (K : zM → zO) : ∃ M', F_X12_shortest_L67 79 (nI s) x2 K zN 0 M = K M' ∧ (zArw (zel (zak S s)) M' ∧ zSy M M') := by
  have h8 := so_n ho
  rw [zak_el h8 hs hn]
  refine zfor (i := 0) (f := zN) (a := M) (S 0 0) (fun f k (M1 : zM) => F_X12_shortest_L67 79 (nI s) x2 K f (nI k) M1) (fun k M1 => zArw ((List.range k).filter (zas S s)) M1 ∧ zSy M M1) (fun o => ∃ M', o = K M' ∧ (zArw ((List.range (S 0 0)).filter (zas S s)) M' ∧ zSy M M')) ?_ ?_ (by omega) (zN_ge (by omega)) ⟨⟨h63, fun j hj => absurd hj (Nat.not_lt_zero _)⟩, zSy_rfl⟩
  · rintro f k M1 hk ⟨⟨i1, i2⟩, i3⟩
    refine Or.inr ?_
    have hS1 := zSy_S hS i3
    have hl5 : ((List.range (k + 1)).filter (zas S s)).length ≤ 5 := by
      rw [flt_cu]
      have h1 := zas_cu (S := S) (s := s) (k + 1)
      have h2 := zcu_up (P := zbi s) (n := k + 1) 8 (by omega)
      omega
    have hlk := flt_cu (zas S s) k
    show ∃ M2, F_X12_shortest_L67 79 (nI s) x2 K (f + 1) (nI k) M1 = F_X12_shortest_L67 79 (nI s) x2 K f (nI (k + 1)) M2 ∧ _
    rw [F_X12_shortest_L67, sm_n hS1, zit_f (nI_ge hk (by omega)), zjo_eq]
    have eb : zit ((nI s >>> (nI k &&& 31)) &&& 1 = 1) ((fun (w3 : Int32) (M9 : zM) => F_X12_shortest_L94 79 (nI s) x2 (nI k) (fun (y1 : Int32) (M14 : zM) => zjo (fun  (M17 : zM) => F_X12_shortest_L67 79 (nI s) x2 K f (nI k + 1) M17) (fun (k9 : zM → zO) => zit (y1 = 0) (k9 M14) (zck (zin (M14 79 63) 5) (zst (zup M14 (zgr 79 61) (zix (M14 79 63)) (nI k)) (fun M15 => zst (zup M15 79 63 ((M15 79 63) + 1)) (fun M16 => k9 M16)))))) zN w3 0 M9) 1 M1) ((fun (w3 : Int32) (M9 : zM) => F_X12_shortest_L94 79 (nI s) x2 (nI k) (fun (y1 : Int32) (M14 : zM) => zjo (fun  (M17 : zM) => F_X12_shortest_L67 79 (nI s) x2 K f (nI k + 1) M17) (fun (k9 : zM → zO) => zit (y1 = 0) (k9 M14) (zck (zin (M14 79 63) 5) (zst (zup M14 (zgr 79 61) (zix (M14 79 63)) (nI k)) (fun M15 => zst (zup M15 79 63 ((M15 79 63) + 1)) (fun M16 => k9 M16)))))) zN w3 0 M9) 0 M1) = F_X12_shortest_L94 79 (nI s) x2 (nI k) (fun (y1 : Int32) (M14 : zM) => zjo (fun  (M17 : zM) => F_X12_shortest_L67 79 (nI s) x2 K f (nI k + 1) M17) (fun (k9 : zM → zO) => zit (y1 = 0) (k9 M14) (zck (zin (M14 79 63) 5) (zst (zup M14 (zgr 79 61) (zix (M14 79 63)) (nI k)) (fun M15 => zst (zup M15 79 63 ((M15 79 63) + 1)) (fun M16 => k9 M16)))))) zN (if zbi s k = true then 1 else 0) 0 M1 := by
      by_cases hb : zbi s k = true
      · rw [zit_t (show (nI s >>> (nI k &&& 31)) &&& 1 = 1 from by rw [bi_1 hs (by omega)]; exact hb), if_pos hb]
      · rw [zit_f (show ¬ (nI s >>> (nI k &&& 31)) &&& 1 = 1 from by rw [bi_1 hs (by omega)]; exact hb), if_neg hb]
    refine (fun (h : ∃ M2, _ = _ ∧ _) => ?_) (?_ : ∃ M2, F_X12_shortest_L94 79 (nI s) x2 (nI k) (fun (y1 : Int32) (M14 : zM) => zjo (fun  (M17 : zM) => F_X12_shortest_L67 79 (nI s) x2 K f (nI k + 1) M17) (fun (k9 : zM → zO) => zit (y1 = 0) (k9 M14) (zck (zin (M14 79 63) 5) (zst (zup M14 (zgr 79 61) (zix (M14 79 63)) (nI k)) (fun M15 => zst (zup M15 79 63 ((M15 79 63) + 1)) (fun M16 => k9 M16)))))) zN (if zbi s k = true then 1 else 0) 0 M1 = F_X12_shortest_L67 79 (nI s) x2 K f (nI (k + 1)) M2 ∧ zArw ((List.range (k + 1)).filter (zas S s)) M2 ∧ zSy M M2)
    · obtain ⟨M2, e2, p2⟩ := h
      exact ⟨M2, eb.trans e2, p2⟩
    rw [ak_m hS1 ho hs hn hk, zjo_eq, nI_1, List.range_succ, List.filter_append]
    rw [List.range_succ, List.filter_append] at hl5
    cases hz : zas S s k with
    | false =>
      rw [if_neg (by decide), zit_t rfl]
      refine ⟨M1, rfl, ?_, i3⟩
      have : [k].filter (zas S s) = [] := by simp [hz]
      rw [this, List.append_nil]
      exact ⟨i1, i2⟩
    | true =>
      have ek : [k].filter (zas S s) = [k] := by simp [hz]
      rw [ek] at hl5 ⊢
      obtain ⟨l, hl⟩ : ∃ l, (List.range k).filter (zas S s) = l := ⟨_, rfl⟩
      rw [hl] at hl5 i1 i2 ⊢
      rw [List.length_append, List.length_singleton] at hl5
      rw [if_pos rfl, zit_f (by decide), i1, zin_k (k := l.length) (n := 5) (by omega) (by omega), zck_t, gr_79_61, zix_k (k := l.length) (by omega), zst_eq, zst_eq]
      have e63 : zup M1 114 l.length (nI k) 79 63 = nI l.length := by rw [zup_ne (by decide), i1]
      rw [e63, nI_1]
      refine ⟨_, rfl, ⟨?_, fun j hj => ?_⟩, zSy_tr i3 ⟨fun z hz => ?_, ?_⟩⟩
      · rw [zup_row, upd_eq, List.length_append, List.length_singleton]
      · rw [List.length_append, List.length_singleton] at hj
        rw [zup_ne (by decide), zup_row, getD_ap _ _ l j hj]
        by_cases e : j = l.length
        · rw [e, upd_eq, if_pos rfl]
        · rw [upd_ne e, if_neg e, i2 j (by omega)]
      · rw [zup_row, upd_ne hz, zup_ne (by decide)]
      · exact zoff_up (zoff_up zoff_rfl (by decide)) (by decide)
  · rintro f M1 ⟨i1, i3⟩
    show ∃ M2, F_X12_shortest_L67 79 (nI s) x2 K (f + 1) (nI (S 0 0)) M1 = _ ∧ _
    rw [F_X12_shortest_L67, sm_n (zSy_S hS i3), zit_t (nI_le (Nat.le_refl _) (by omega))]
    exact ⟨M1, rfl, i1, i3⟩
/-- one order's length -/
theorem lf_m {M : zM} (hS : zSm S M) (ho : zSok S) {m : Nat} (hm : m ≤ 5) {u : Nat → Nat} (h63 : M 79 63 = nI m) (hu : ∀ j, j < m → M 114 j = nI (u j)) (hn : ∀ j, j < m → u j < S 0 0) (x2 x3 : Int32) (K : Int32 → zM → zO) : F_X12_shortest_L196 79 x2 x3 K zN 0 0 M = K (nI (zlf S u m)) M := by
  have h8 := so_n ho
  refine zfor (i := 0) (f := zN) (a := ()) m (fun f k (_ : Unit) => F_X12_shortest_L196 79 x2 x3 K f (nI (zlf S u k)) (nI k) M) (fun _ _ => True) (fun o => o = K (nI (zlf S u m)) M) ?_ ?_ (by omega) (zN_ge (by omega)) trivial
  · rintro f k _ hk -
    refine Or.inr ⟨(), ?_, trivial⟩
    have huk := hn k hk
    have h3 := so_i ho (u k) huk
    show F_X12_shortest_L196 79 x2 x3 K (f + 1) (nI (zlf S u k)) (nI k) M = F_X12_shortest_L196 79 x2 x3 K f (nI (zlf S u (k + 1))) (nI (k + 1)) M
    rw [F_X12_shortest_L196, h63, zit_f (nI_ge hk (by omega)), zin_k (k := k) (n := 5) (by omega) (by omega), zck_t, gr_79_61, zix_k (k := k) (by omega), hu k hk, zin_k (k := u k) (n := 8) (by omega) (by omega), zck_t, zjo_eq, zlf]
    by_cases e : k = 0
    · rw [zit_t (show nI k = (0 : Int32) from by rw [e]; rfl), if_pos e]
      try dsimp only
      rw [zlt_eq, gr_79_6, zix_k (k := u k) (by omega), sm_3 hS _ huk, show nI (S 3 (u k)) - (0 : Int32) = nI (S 3 (u k) - 0) from s_sub (b := 0) (by omega), nI_add, nI_1]
    · have huk1 := hn (k - 1) (by omega)
      have hc := (zcm_lt ho huk1 huk).2
      rw [zit_f (show ¬ nI k = (0 : Int32) from fun z => e ((nI_eq (b := 0) (by omega) (by omega)).mp z)), show nI k - 1 = nI (k - 1) from s_sub (b := 1) (by omega), zin_k (k := k - 1) (n := 5) (by omega) (by omega), zck_t, zck_t, zix_k (k := k - 1) (by omega), hu (k - 1) (by omega), cm_m hS ho huk1 huk, zbI_I, if_neg e]
      try dsimp only
      rw [zlt_eq, gr_79_6, zix_k (k := u k) (by omega), sm_3 hS _ huk, s_sub (by omega), nI_add, nI_1]
  · rintro f _ -
    show F_X12_shortest_L196 79 x2 x3 K (f + 1) (nI (zlf S u m)) (nI m) M = _
    rw [F_X12_shortest_L196, h63, zit_t (nI_le (Nat.le_refl _) (by omega))]
/-- the order that comes next -/
theorem t0_m {M : zM} {m x y : Nat} (hm : m ≤ 5) (hx : x < m) (hy : y < m) {u : Nat → Nat} (hu : ∀ j, j < m → M 114 j = nI (u j)) : ∃ M', F_X12_turns0 79 (nI x) (nI y) M = zV M' ∧ ((∀ j, j < m → M' 114 j = nI (zsw x y u j)) ∧ zoff [114] M M') := by
  unfold F_X12_turns0
  rw [zin_k (k := x) (n := 5) (by omega) (by omega), zck_t, zlt_eq, zin_k (k := y) (n := 5) (by omega) (by omega), zck_t, zck_t, zst_eq, zck_t, zst_eq, gr_79_61, zix_k (k := x) (by omega), zix_k (k := y) (by omega)]
  refine ⟨_, rfl, fun j hj => ?_, zoff_up (zoff_up zoff_rfl (by decide)) (by decide)⟩
  rw [zup_row, zup_row]
  unfold zsw
  by_cases e1 : j = y
  · rw [e1, upd_eq]
    by_cases e2 : y = x
    · rw [if_pos e2, hu x hx, e2]
    · rw [if_neg e2, if_pos rfl, hu x hx]
  · rw [upd_ne e1]
    by_cases e2 : j = x
    · rw [e2, upd_eq, if_pos rfl, hu y hy]
    · rw [upd_ne e2, if_neg e2, if_neg e1, hu j hj]
theorem rv_m {m : Nat} (hm : m ≤ 5) (K : zM → zO) : ∀ d f x y (u : Nat → Nat) (M : zM), d < f → y < m → y ≤ x + 2 * d → (∀ j, j < m → M 114 j = nI (u j)) → x ≤ 10 → ∃ M', F_X12_nextOrder_L86 79 K f (nI x) (nI y) M = K M' ∧ ((∀ j, j < m → M' 114 j = nI (zrv d x y u j)) ∧ zoff [114] M M') := by
  intro d
  induction d with
  | zero =>
    intro f x y u M hf hy hxy hu hx
    obtain ⟨f, rfl⟩ : ∃ g, f = g + 1 := ⟨f - 1, by omega⟩
    rw [F_X12_nextOrder_L86, zit_t (nI_le (by omega) (by omega))]
    exact ⟨M, rfl, hu, zoff_rfl⟩
  | succ d ih =>
    intro f x y u M hf hy hxy hu hx
    obtain ⟨f, rfl⟩ : ∃ g, f = g + 1 := ⟨f - 1, by omega⟩
    rw [F_X12_nextOrder_L86, zrv]
    by_cases h : y ≤ x
    · rw [zit_t (nI_le h (by omega)), if_pos h]
      exact ⟨M, rfl, hu, zoff_rfl⟩
    · rw [zit_f (nI_ge (by omega) (by omega)), if_neg h]
      obtain ⟨M1, e1, h1, o1⟩ := t0_m hm (x := x) (y := y) (by omega) hy hu
      rw [e1, zbV_V, nI_1, show nI y + (-1) = nI (y - 1) from s_addn (b := 1) (by omega)]
      obtain ⟨M2, e2, h2, o2⟩ := ih f (x + 1) (y - 1) (zsw x y u) M1 (by omega) (by omega) (by omega) h1 (by omega)
      exact ⟨M2, e2, h2, zoff_trans o1 o2⟩
theorem k1_m {M : zM} {m : Nat} (hm : m ≤ 4) {u : Nat → Nat} (hu : ∀ j, j ≤ m → M 114 j = nI (u j)) (h8 : ∀ j, j ≤ m → u j < 8) (K : Int32 → zM → zO) : F_X12_nextOrder_L7 79 K zN (nI m - 1) M = match zk1 (fun i j => decide (u i ≤ u j)) m with
    | none => K (-1) M
    | some k => K (nI k) M := by
  refine zdown (i := m) (f := zN) (a := ()) (fun f i (_ : Unit) => F_X12_nextOrder_L7 79 K f (nI i - 1) M) (fun i _ => i ≤ m ∧ zk1 (fun i j => decide (u i ≤ u j)) m = zk1 (fun i j => decide (u i ≤ u j)) i) (fun o => o = match zk1 (fun i j => decide (u i ≤ u j)) m with
    | none => K (-1) M
    | some k => K (nI k) M) ?_ ?_ (zN_ge (by omega)) ⟨Nat.le_refl _, rfl⟩
  · rintro f i _ ⟨hi, he⟩
    have e1 : nI (i + 1) - 1 = nI i := s_sub (a := i + 1) (b := 1) (by omega)
    have stp : F_X12_nextOrder_L7 79 K (f + 1) (nI (i + 1) - 1) M = zit (nI (u i) ≤ nI (u (i + 1))) (K (nI i) M) (F_X12_nextOrder_L7 79 K f (nI i - 1) M) := by
      rw [e1, F_X12_nextOrder_L7, zit_f (show ¬ nI i < (0 : Int32) from (nI_nlt (Nat.zero_le _) (by omega) : ¬ nI i < nI 0)), nI_1, zin_k (k := i) (n := 5) (by omega) (by omega), zck_t, zin_k (k := i + 1) (n := 5) (by omega) (by omega), zck_t, gr_79_61, zix_k (k := i) (by omega), zix_k (k := i + 1) (by omega), hu i (by omega), hu (i + 1) hi, Int32.sub_eq_add_neg (nI i) 1]
    have a1 := h8 i (by omega)
    have a2 := h8 (i + 1) hi
    rw [zk1] at he
    show F_X12_nextOrder_L7 79 K (f + 1) (nI (i + 1) - 1) M = _ ∨ _
    rw [stp]
    by_cases hc : u i ≤ u (i + 1)
    · refine Or.inl ?_
      rw [if_pos (decide_eq_true hc)] at he
      rw [zit_t (nI_le hc (by omega)), he]
    · refine Or.inr ⟨(), ?_, by omega, ?_⟩
      · rw [zit_f (nI_ge (by omega) (by omega))]
      · rw [if_neg (by rw [decide_eq_false hc]; decide)] at he
        exact he
  · rintro f _ ⟨-, he⟩
    rw [zk1] at he
    show F_X12_nextOrder_L7 79 K (f + 1) (nI 0 - 1) M = _
    rw [he, F_X12_nextOrder_L7, zit_t (by decide)]
    rfl
theorem j1_m {M : zM} {m k : Nat} (hm : m ≤ 4) (hk : k < m) {u : Nat → Nat} (hu : ∀ j, j ≤ m → M 114 j = nI (u j)) (h8 : ∀ j, j ≤ m → u j < 8) (hc : u k ≤ u (k + 1)) (K : Int32 → zM → zO) : k < zj1 (fun i j => decide (u i ≤ u j)) k m ∧ F_X12_nextOrder_L47 79 (nI k) K zN (nI m) M = K (nI (zj1 (fun i j => decide (u i ≤ u j)) k m)) M := by
  refine zdown (i := m) (f := zN) (a := ()) (fun f i (_ : Unit) => F_X12_nextOrder_L47 79 (nI k) K f (nI i) M) (fun i _ => i ≤ m ∧ k + 1 ≤ i ∧ zj1 (fun i j => decide (u i ≤ u j)) k m = zj1 (fun i j => decide (u i ≤ u j)) k i) (fun o => k < zj1 (fun i j => decide (u i ≤ u j)) k m ∧ o = K (nI (zj1 (fun i j => decide (u i ≤ u j)) k m)) M) ?_ ?_ (zN_ge (by omega)) ⟨Nat.le_refl _, hk, rfl⟩
  · rintro f i _ ⟨hi, hki, he⟩
    have a1 := h8 k (by omega)
    have a2 := h8 (i + 1) hi
    have stp : F_X12_nextOrder_L47 79 (nI k) K (f + 1) (nI (i + 1)) M = zit (nI (u k) ≤ nI (u (i + 1))) (K (nI (i + 1)) M) (F_X12_nextOrder_L47 79 (nI k) K f (nI i) M) := by
      rw [F_X12_nextOrder_L47, zin_k (k := i + 1) (n := 5) (by omega) (by omega), zck_t, zin_k (k := k) (n := 5) (by omega) (by omega), zck_t, gr_79_61, zix_k (k := k) (by omega), zix_k (k := i + 1) (by omega), hu k (by omega), hu (i + 1) hi, show nI (i + 1) + (-1) = nI i from s_addn (a := i + 1) (b := 1) (by omega)]
    rw [zj1] at he
    show (k < _ ∧ F_X12_nextOrder_L47 79 (nI k) K (f + 1) (nI (i + 1)) M = _) ∨ _
    rw [stp]
    by_cases hd : u k ≤ u (i + 1)
    · refine Or.inl ?_
      rw [if_pos (decide_eq_true hd)] at he
      rw [zit_t (nI_le hd (by omega)), he]
      exact ⟨by omega, rfl⟩
    · refine Or.inr ⟨(), ?_, by omega, ?_, ?_⟩
      · rw [zit_f (nI_ge (by omega) (by omega))]
      · by_cases e : i = k
        · rw [e] at hd
          exact absurd hc hd
        · omega
      · rw [if_neg (by rw [decide_eq_false hd]; decide)] at he
        exact he
  · rintro f _ ⟨-, h, -⟩
    omega
theorem nxo_m {M : zM} {m : Nat} (hm : m ≤ 5) {u : Nat → Nat} (h63 : M 79 63 = nI m) (hu : ∀ j, j < m → M 114 j = nI (u j)) (h8 : ∀ j, j < m → u j < 8) : (zno m u = none → F_X12_nextOrder 79 M = zI 0 M) ∧ (∀ a, zno m u = some a → ∃ M', F_X12_nextOrder 79 M = zI 1 M' ∧ ((∀ j, j < m → M' 114 j = nI (a j)) ∧ zoff [114] M M')) := by
  cases m with
  | zero =>
    have e0 : zno 0 u = none := rfl
    refine ⟨fun _ => ?_, fun a ha => by rw [e0] at ha; exact (nomatch ha)⟩
    unfold F_X12_nextOrder
    obtain ⟨f, hf⟩ : ∃ f, zN = f + 1 := ⟨999999, rfl⟩
    rw [zlt_eq, h63, hf, F_X12_nextOrder_L7, zit_t (by decide), zit_f (by decide), zbo_0, zck_t]
  | succ m =>
    have hu' : ∀ j, j ≤ m → M 114 j = nI (u j) := fun j hj => hu j (by omega)
    have h8' : ∀ j, j ≤ m → u j < 8 := fun j hj => h8 j (by omega)
    have start : F_X12_nextOrder 79 M = match zk1 (fun i j => decide (u i ≤ u j)) m with
        | none => zI 0 M
        | some k => zbV (F_X12_turns0 79 (nI k) (nI (zj1 (fun i j => decide (u i ≤ u j)) k m)) M) (fun M3 => zlt (nI k + 1) (fun v3 => zlt ((M3 79 63) - 1) (fun v4 => F_X12_nextOrder_L86 79 (fun  (M5 : zM) => zck (zbo 1) (zI 1 M5)) zN v3 v4 M3))) := by
      unfold F_X12_nextOrder
      rw [zlt_eq, h63, show nI (m + 1) - 2 = nI m - 1 from by
        rw [show (2 : Int32) = nI 2 from rfl, show (1 : Int32) = nI 1 from rfl]
        cases m with
        | zero => decide
        | succ m => rw [s_sub (by omega), s_sub (by omega)]; rfl, k1_m (m := m) (by omega) hu' h8']
      cases hk : zk1 (fun i j => decide (u i ≤ u j)) m with
      | none =>
        dsimp only
        rw [zit_f (by decide), zbo_0, zck_t]
      | some k =>
        obtain ⟨l1, l2⟩ := zk1_lt _ hk
        dsimp only
        rw [zit_t (show (0 : Int32) ≤ nI k from (nI_le (Nat.zero_le _) (by omega) : nI 0 ≤ nI k)), zlt_eq, h63, show nI (m + 1) - 1 = nI m from s_sub (a := m + 1) (b := 1) (by omega), (j1_m (m := m) (by omega) l1 hu' h8' (of_decide_eq_true l2) _).2]
    have hz : zno (m + 1) u = match zk1 (fun i j => decide (u i ≤ u j)) m with
      | none => none
      | some k => some (zrv 5 (k + 1) m (zsw k (zj1 (fun i j => decide (u i ≤ u j)) k m) u)) := rfl
    rw [start, hz]
    cases hk : zk1 (fun i j => decide (u i ≤ u j)) m with
    | none => exact ⟨fun _ => rfl, fun a ha => (nomatch ha)⟩
    | some k =>
      obtain ⟨l1, l2⟩ := zk1_lt _ hk
      have hj := zj1_le (c := fun i j => decide (u i ≤ u j)) (k := k) m
      refine ⟨fun z => (nomatch z), fun a ha => ?_⟩
      dsimp only at ha ⊢
      have ha := Option.some.inj ha
      obtain ⟨M1, e1, h1, o1⟩ := t0_m hm (x := k) (y := zj1 (fun i j => decide (u i ≤ u j)) k m) (by omega) (by omega) hu
      rw [e1, zbV_V, zlt_eq, zlt_eq, o1 79 (by decide), h63, nI_1, show nI (m + 1) - 1 = nI m from s_sub (a := m + 1) (b := 1) (by omega)]
      obtain ⟨M2, e2, h2, o2⟩ := rv_m hm (fun (M5 : zM) => zck (zbo 1) (zI 1 M5)) 5 zN (k + 1) m _ M1 (zN_ge (by omega)) (by omega) (by omega) h1 (by omega)
      rw [e2, ha] at *
      exact ⟨M2, rfl, h2, zoff_trans o1 o2⟩
end ZMO
