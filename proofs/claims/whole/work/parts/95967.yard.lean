/-! the LAW is read by the reference: what it puts, what waits -/
def zenc1 (s : Nat × Nat) : List Nat := if s.1 = 0 then [1, s.2] else if s.1 = 1 then [2, s.2] else [zco s.2]
def zenc : List (Nat × Nat) → List Nat
  | [] => []
  | s :: r => zenc1 s ++ zenc r
theorem zenc_ap : ∀ a b : List (Nat × Nat), zenc (a ++ b) = zenc a ++ zenc b
  | [], _ => rfl
  | s :: a, b => by
    show zenc1 s ++ zenc (a ++ b) = (zenc1 s ++ zenc a) ++ zenc b
    rw [zenc_ap a b, List.append_assoc]
theorem zenc_1 (s : Nat × Nat) : zenc [s] = zenc1 s := by
  show zenc1 s ++ [] = _
  rw [List.append_nil]
/-- numbers from the row's beginning on -/
def zrow (row : Nat → Int32) (o : List Nat) : Prop := ∀ j, j < o.length → row j = nI (o.getD j 0)
theorem zrow_ap {row : Nat → Int32} {o : List Nat} {v : Nat} (h : zrow row o) : zrow (upd row o.length (nI v)) (o ++ [v]) := fun j hj => by
  rw [List.length_append, List.length_singleton] at hj
  rw [getD_ap _ _ o j hj]
  by_cases e : j = o.length
  · rw [e, upd_eq, if_pos rfl]
  · rw [upd_ne e, if_neg e]
    exact h j (by omega)
theorem zrow_pre {row : Nat → Int32} {a b : List Nat} (h : zrow row (a ++ b)) : zrow row a := fun j hj => by
  rw [h j (by rw [List.length_append]; omega)]
  congr 1
  rw [List.getD_eq_getElem?_getD, List.getD_eq_getElem?_getD, List.getElem?_append_left hj]
theorem zrow_mid {row : Nat → Int32} {a b : List Nat} {v : Nat} (h : zrow row (a ++ v :: b)) : row a.length = nI v := by
  rw [h a.length (by simp)]
  congr 1
  rw [List.getD_eq_getElem?_getD]
  simp
theorem zat_enc {row : Nat → Int32} : ∀ (s : List (Nat × Nat)) (a : List Nat), zrow row (a ++ (zenc s ++ [0])) → zat row a.length s
  | [], a, h => by
    show row a.length = 0
    exact zrow_mid (b := []) h
  | s :: r, a, h => by
    rw [zat]
    have h' : zrow row (a ++ ((zenc1 s ++ zenc r) ++ [0])) := h
    by_cases c0 : s.1 = 0
    · rw [if_pos c0]
      unfold zenc1 at h'
      rw [if_pos c0] at h'
      have e1 : a ++ (([1, s.2] ++ zenc r) ++ [0]) = a ++ 1 :: (s.2 :: (zenc r ++ [0])) := by simp
      have e2 : a ++ (([1, s.2] ++ zenc r) ++ [0]) = (a ++ [1]) ++ s.2 :: (zenc r ++ [0]) := by simp
      have e3 : a ++ (([1, s.2] ++ zenc r) ++ [0]) = (a ++ [1, s.2]) ++ (zenc r ++ [0]) := by simp
      refine ⟨zrow_mid (by rw [← e1]; exact h'), ?_, ?_⟩
      · have := zrow_mid (row := row) (by rw [← e2]; exact h')
        rw [List.length_append, List.length_singleton] at this
        exact this
      · have := zat_enc r (a ++ [1, s.2]) (by rw [← e3]; exact h')
        rw [List.length_append] at this
        exact this
    · rw [if_neg c0]
      by_cases c1 : s.1 = 1
      · rw [if_pos c1]
        unfold zenc1 at h'
        rw [if_neg c0, if_pos c1] at h'
        have e1 : a ++ (([2, s.2] ++ zenc r) ++ [0]) = a ++ 2 :: (s.2 :: (zenc r ++ [0])) := by simp
        have e2 : a ++ (([2, s.2] ++ zenc r) ++ [0]) = (a ++ [2]) ++ s.2 :: (zenc r ++ [0]) := by simp
        have e3 : a ++ (([2, s.2] ++ zenc r) ++ [0]) = (a ++ [2, s.2]) ++ (zenc r ++ [0]) := by simp
        refine ⟨zrow_mid (by rw [← e1]; exact h'), ?_, ?_⟩
        · have := zrow_mid (row := row) (by rw [← e2]; exact h')
          rw [List.length_append, List.length_singleton] at this
          exact this
        · have := zat_enc r (a ++ [2, s.2]) (by rw [← e3]; exact h')
          rw [List.length_append] at this
          exact this
      · rw [if_neg c1]
        unfold zenc1 at h'
        rw [if_neg c0, if_neg c1] at h'
        have e1 : a ++ (([zco s.2] ++ zenc r) ++ [0]) = a ++ zco s.2 :: (zenc r ++ [0]) := by simp
        have e3 : a ++ (([zco s.2] ++ zenc r) ++ [0]) = (a ++ [zco s.2]) ++ (zenc r ++ [0]) := by simp
        refine ⟨zrow_mid (by rw [← e1]; exact h'), ?_⟩
        have := zat_enc r (a ++ [zco s.2]) (by rw [← e3]; exact h')
        rw [List.length_append] at this
        exact this
theorem zcl_enc : ∀ s : List (Nat × Nat), zcl s = (zenc s).length + 1
  | [] => rfl
  | s :: r => by
    show (if s.1 = 0 then 2 else if s.1 = 1 then 2 else 1) + zcl r = (zenc1 s ++ zenc r).length + 1
    rw [zcl_enc r, List.length_append]
    unfold zenc1
    split
    · simp; omega
    · split
      · simp; omega
      · simp; omega
def zsth (a : Nat) : Nat := if a = 5 then 1 else if a = 4 then 2 else if a = 3 then 3 else if a = 6 ∨ a = 7 then 4 else if a = 8 ∨ a = 9 then 5 else 6
theorem sth_m (M : zM) : ∀ a, a < 12 → F_X12_strength (nI a) M = zI (nI (zsth a)) M := fun a ha => by
  rcases (by omega : a = 0 ∨ a = 1 ∨ a = 2 ∨ a = 3 ∨ a = 4 ∨ a = 5 ∨ a = 6 ∨ a = 7 ∨ a = 8 ∨ a = 9 ∨ a = 10 ∨ a = 11) with rfl | rfl | rfl | rfl | rfl | rfl | rfl | rfl | rfl | rfl | rfl | rfl <;> rfl
theorem opn_m {a : Nat} (ha : a < 1000) (M : zM) : F_X12_isOpen (nI a) M = zI (if a < 14 then 0 else 1) M := by
  unfold F_X12_isOpen
  rw [zjo_eq]
  by_cases c : a < 14
  · rw [zit_t (show nI a < (14 : Int32) from nI_lt (b := 14) c (by omega)), if_pos c]
    try dsimp only
    rw [zbo_0, zck_t]
  · rw [zit_f (show ¬ nI a < (14 : Int32) from (nI_nlt (by omega) (by omega) : ¬ nI a < nI 14)), if_neg c]
    try dsimp only
    rw [zbo_1, zck_t]
section ZYD
variable {B : Nat → Nat} {n : Nat}
/-- the reference's cells that a LAW writes -/
def zEo (M M' : zM) : Prop := (∀ k, k < 16 ∨ k = 18 ∨ k = 19 ∨ (27 ≤ k ∧ k ≤ 32) ∨ 36 ≤ k → k ≠ 1026 → M' 79 k = M 79 k) ∧ zoff [79, 99, 100, 101] M M'
theorem zEo_rfl {M : zM} : zEo M M := ⟨fun _ _ _ => rfl, zoff_rfl⟩
theorem zEo_tr {M M' M'' : zM} (h : zEo M M') (h' : zEo M' M'') : zEo M M'' := ⟨fun k hk h2 => (h'.1 k hk h2).trans (h.1 k hk h2), zoff_trans h.2 h'.2⟩
theorem zEo_o {M M' : zM} (h : zMo M M') : zEo M M' := ⟨fun k hk h2 => h.1 k (by omega) h2, zoff_mono h.2 (by decide)⟩
theorem zEo_w {M M' : zM} (h : ∀ k, k ≠ 16 → k ≠ 17 → M' 79 k = M 79 k) (o : zoff [79] M M') : zEo M M' := ⟨fun k hk _ => h k (by omega) (by omega), zoff_mono o (by decide)⟩
/-- the token stays -/
theorem zTmx_cg {p : Nat × Nat} {M M' : zM} (h : zTmx B n p M) (h1 : ∀ k, (16 ≤ k ∧ k ≤ 26) ∨ k = 1026 → M' 79 k = M 79 k) (h2 : M' 89 = M 89) : zTmx B n p M' := by
  obtain ⟨⟨a1, a2⟩, b1, b2, b3, c1, c2, c3, c4, c5, c6, c7⟩ := h
  refine ⟨⟨by rw [h1 19 (by omega)]; exact a1, fun k hk => by rw [h2]; exact a2 k hk⟩, by rw [h1 16 (by omega)]; exact b1, b2, by rw [h1 17 (by omega)]; exact b3, by rw [h1 20 (by omega)]; exact c1, by rw [h1 21 (by omega)]; exact c2, by rw [h1 22 (by omega)]; exact c3, by rw [h1 23 (by omega)]; exact c4, fun z => by rw [h1 24 (by omega)]; exact c5 z, by rw [h1 25 (by omega)]; exact c6, fun z => by rw [← c7 z]; exact zgL_cg (h1 26 (by omega)) (h1 1026 (by omega))⟩
/-- fields 33 to 35 and the rows only -/
def zEy (M M' : zM) : Prop := (∀ k, k < 33 ∨ 35 < k → M' 79 k = M 79 k) ∧ zoff [79, 99, 100, 101] M M'
theorem zEy_rfl {M : zM} : zEy M M := ⟨fun _ _ => rfl, zoff_rfl⟩
theorem zEy_tr {M M' M'' : zM} (h : zEy M M') (h' : zEy M' M'') : zEy M M'' := ⟨fun k hk => (h'.1 k hk).trans (h.1 k hk), zoff_trans h.2 h'.2⟩
theorem zEy_o {M M' : zM} (h : zEy M M') : zEo M M' := ⟨fun k hk _ => h.1 k (by omega), h.2⟩
theorem zEy_t {p : Nat × Nat} {M M' : zM} (h : zTmx B n p M) (o : zEy M M') : zTmx B n p M' := zTmx_cg h (fun k hk => o.1 k (by omega)) (o.2 89 (by decide))
theorem pts_m {M : zM} {t : Nat} (h : M 79 33 = nI t) (ht : t < 1900) (v : Int32) : F_X12_puts 79 v M = zV (zup (zup M 99 t v) 79 33 (nI (t + 1))) := by
  unfold F_X12_puts
  rw [h, zin_k (k := t) (n := 1900) ht (by omega), zck_t, zst_eq, zst_eq, gr_79_44, zix_k (k := t) (by omega), show zup M 99 t v 79 33 = nI t from by rw [zup_ne (by decide), h], nI_1]
theorem wf_m {M : zM} {t : Nat} (h : M 79 34 = nI t) (ht : t < 950) (v : Int32) : F_X12_waitsFor 79 v M = zV (zup (zup M 100 t v) 79 34 (nI (t + 1))) := by
  unfold F_X12_waitsFor
  rw [h, zin_k (k := t) (n := 950) ht (by omega), zck_t, zst_eq, zst_eq, gr_79_45, zix_k (k := t) (by omega), show zup M 100 t v 79 34 = nI t from by rw [zup_ne (by decide), h], nI_1]
/-- the two rows: steps c, below what waits W and P -/
def zYs (c : List (Nat × Nat)) (W P : List Nat) (D bd : Nat) (M : zM) : Prop := (∃ o, M 79 33 = nI o.length ∧ zrow (M 99) o ∧ o ++ P.reverse = zenc c ∧ o.length + (W ++ P).length ≤ 2 * bd) ∧ M 79 34 = nI (W ++ P).length ∧ zrow (M 100) (W ++ P) ∧ (W ++ P).length ≤ bd ∧ bd ≤ 701 ∧ M 79 35 = nI D
theorem zYs_cg {c : List (Nat × Nat)} {W P : List Nat} {D bd : Nat} {M M' : zM} (h : zYs c W P D bd M) (h1 : ∀ k, 33 ≤ k → k ≤ 35 → M' 79 k = M 79 k) (h2 : M' 99 = M 99) (h3 : M' 100 = M 100) : zYs c W P D bd M' := by
  unfold zYs at *
  rw [h1 33 (by omega) (by omega), h1 34 (by omega) (by omega), h1 35 (by omega) (by omega), h2, h3]
  exact h
theorem zYs_o {c : List (Nat × Nat)} {W P : List Nat} {D bd : Nat} {M M' : zM} (h : zYs c W P D bd M) (o : zMo M M') : zYs c W P D bd M' := zYs_cg h (fun k h1 h2 => o.1 k (by omega) (by omega)) (o.2 99 (by decide)) (o.2 100 (by decide))
theorem zYs_up {c : List (Nat × Nat)} {W P : List Nat} {D bd bd' : Nat} {M : zM} (h : zYs c W P D bd M) (h1 : bd ≤ bd') (h2 : bd' ≤ 701) : zYs c W P D bd' M := by
  obtain ⟨⟨o, a1, a2, a3, a4⟩, b1, b2, b3, b4, b5⟩ := h
  exact ⟨⟨o, a1, a2, a3, by omega⟩, b1, b2, by omega, h2, b5⟩
/-- pending ones of at least k -/
def zpd (k : Nat) (P : List Nat) : Prop := ∀ a ∈ P, 3 ≤ a ∧ a ≤ 11 ∧ k ≤ zsth a
/-- below: what holds pending ones of k back -/
def zbs (k : Nat) (W : List Nat) : Prop := W = [] ∨ ∃ V a, W = V ++ [a] ∧ a < 1000 ∧ (14 ≤ a ∨ a ≤ 11 ∧ zsth a < k)
theorem zsth_6 (a : Nat) : 1 ≤ zsth a ∧ zsth a ≤ 6 := by
  unfold zsth
  split
  · omega
  · split
    · omega
    · split
      · omega
      · split
        · omega
        · split <;> omega
theorem zbs_up {k k' : Nat} {W : List Nat} (h : zbs k W) (hk : k ≤ k') : zbs k' W := by
  rcases h with h | ⟨V, a, h1, h2, h3⟩
  · exact Or.inl h
  · exact Or.inr ⟨V, a, h1, h2, h3.imp id (fun z => ⟨z.1, by omega⟩)⟩
theorem dr_m {c : List (Nat × Nat)} {W : List Nat} {D bd k : Nat} (hk : k ≤ 6) (hW : zbs k W) : ∀ (Q P : List Nat) (M : zM) (f : Nat), P = Q.reverse → Q.length < f → zpd k P → zYs c W P D bd M → ∃ M', F_X12_drops_L0 79 (nI k) (fun (M5 : zM) => zV M5) f M = zV M' ∧ (zYs c W [] D bd M' ∧ M' 101 = M 101 ∧ zEy M M')
  | [], P, M, f, hP, hf, hp, h => by
    obtain ⟨f, rfl⟩ : ∃ g, f = g + 1 := ⟨f - 1, by omega⟩
    obtain rfl : P = [] := hP
    obtain ⟨a1, b1, b2, b3, b4, b5⟩ := id h
    rw [List.append_nil] at b1 b2 b3
    have key : F_X12_drops_L0 79 (nI k) (fun (M5 : zM) => zV M5) (f + 1) M = zV M := by
      rw [F_X12_drops_L0, b1]
      rcases hW with hW | ⟨V, a, h1, h2, h3⟩
      · rw [hW, zit_t (by decide)]
      · have hl : W.length = V.length + 1 := by rw [h1, List.length_append, List.length_singleton]
        have hv : M 100 V.length = nI a := by
          rw [h1] at b2
          exact zrow_mid (b := []) b2
        rw [zit_f (show ¬ nI W.length ≤ (0 : Int32) from (nI_ge (by omega) (by omega) : ¬ nI W.length ≤ nI 0)), show nI W.length - 1 = nI (W.length - 1) from s_sub (b := 1) (by omega), hl, show V.length + 1 - 1 = V.length from by omega, zin_k (k := V.length) (n := 950) (by omega) (by omega), zck_t, gr_79_45, zix_k (k := V.length) (by omega), hv, opn_m h2, zbI_I]
        by_cases c14 : a < 14
        · have h3' := h3.resolve_left (by omega)
          have := zsth_6 a
          rw [if_pos c14, zit_t rfl, b1, hl, show nI (V.length + 1) - 1 = nI V.length from s_sub (a := V.length + 1) (b := 1) (by omega), zin_k (k := V.length) (n := 950) (by omega) (by omega), zck_t, zix_k (k := V.length) (by omega), hv, sth_m M a (by omega), zbI_I, zit_t (nI_lt h3'.2 (by omega))]
        · rw [if_neg c14, zit_f (by decide)]
    rw [key]
    exact ⟨M, rfl, h, rfl, zEy_rfl⟩
  | a :: Q, P, M, f, hP, hf, hp, h => by
    obtain ⟨f, rfl⟩ : ∃ g, f = g + 1 := ⟨f - 1, by omega⟩
    have hP' : P = Q.reverse ++ [a] := by rw [hP, List.reverse_cons]
    obtain ⟨p1, p2, p3⟩ := hp a (by rw [hP']; simp)
    obtain ⟨⟨o, a1, a2, a3, a4⟩, b1, b2, b3, b4, b5⟩ := id h
    have hl : (W ++ P).length = (W ++ Q.reverse).length + 1 := by rw [hP']; simp only [List.length_append, List.length_singleton]; omega
    have hv : M 100 (W ++ Q.reverse).length = nI a := by
      rw [hP', ← List.append_assoc] at b2
      exact zrow_mid (b := []) b2
    have h6 := zsth_6 a
    obtain ⟨L, hL⟩ : ∃ L, (W ++ Q.reverse).length = L := ⟨_, rfl⟩
    rw [hL] at hl hv
    have stp : F_X12_drops_L0 79 (nI k) (fun (M5 : zM) => zV M5) (f + 1) M = F_X12_drops_L0 79 (nI k) (fun (M5 : zM) => zV M5) f (zup (zup (zup M 79 34 (nI L)) 99 o.length (nI a)) 79 33 (nI (o.length + 1))) := by
      rw [F_X12_drops_L0, b1, hl, zit_f (show ¬ nI (L + 1) ≤ (0 : Int32) from (nI_ge (by omega) (by omega) : ¬ nI (L + 1) ≤ nI 0)), show nI (L + 1) - 1 = nI L from s_sub (a := L + 1) (b := 1) (by omega), zin_k (k := L) (n := 950) (by omega) (by omega), zck_t, gr_79_45, zix_k (k := L) (by omega), hv, opn_m (by omega), zbI_I, if_pos (by omega), zit_t rfl, b1, hl, show nI (L + 1) - 1 = nI L from s_sub (a := L + 1) (b := 1) (by omega), zin_k (k := L) (n := 950) (by omega) (by omega), zck_t, zix_k (k := L) (by omega), hv, sth_m M a (by omega), zbI_I, zit_f (nI_nlt p3 (by omega)), b1, hl, show nI (L + 1) - 1 = nI L from s_sub (a := L + 1) (b := 1) (by omega), zst_eq, show zup M 79 34 (nI L) 79 34 = nI L from by rw [zup_row, upd_eq], zin_k (k := L) (n := 950) (by omega) (by omega), zck_t, zix_k (k := L) (by omega), show zup M 79 34 (nI L) 100 L = nI a from by rw [zup_ne (by decide), hv], pts_m (t := o.length) (by rw [zup_row, upd_ne (by decide), a1]) (by omega), zbV_V]
    rw [stp]
    obtain ⟨M1, hM1⟩ : ∃ M1, zup (zup (zup M 79 34 (nI L)) 99 o.length (nI a)) 79 33 (nI (o.length + 1)) = M1 := ⟨_, rfl⟩
    rw [hM1]
    have o1 : zEy M M1 := by
      rw [← hM1]
      exact ⟨fun k hk => by rw [zup_row, upd_ne (by omega), zup_ne (by decide), zup_row, upd_ne (by omega)], zoff_up (zoff_up (zoff_up zoff_rfl (by decide)) (by decide)) (by decide)⟩
    have h1 : zYs c W Q.reverse D bd M1 := by
      refine ⟨⟨o ++ [a], ?_, ?_, ?_, ?_⟩, ?_, ?_, ?_, b4, ?_⟩
      · rw [← hM1, zup_row, upd_eq, List.length_append, List.length_singleton]
      · rw [← hM1, zup_ne (by decide), zup_row, zup_ne (by decide)]
        exact zrow_ap a2
      · rw [← a3, hP', List.reverse_append, List.append_assoc]
        rfl
      · rw [hL, List.length_append, List.length_singleton]
        omega
      · rw [← hM1, zup_row, upd_ne (by decide), zup_ne (by decide), zup_row, upd_eq, hL]
      · rw [← hM1, zup_ne (by decide), zup_ne (by decide), zup_ne (by decide)]
        rw [hP', ← List.append_assoc] at b2
        exact zrow_pre b2
      · rw [hL]; omega
      · rw [← hM1, zup_row, upd_ne (by decide), zup_ne (by decide), zup_row, upd_ne (by decide), b5]
    obtain ⟨M2, e2, y2, t2, o2⟩ := dr_m hk hW Q Q.reverse M1 f rfl (by simp only [List.length_cons] at hf; omega) (fun x hx => hp x (by rw [hP']; simp [List.mem_reverse.mp hx])) h1
    refine ⟨M2, e2, y2, ?_, zEy_tr o1 o2⟩
    rw [t2, ← hM1, zup_ne (by decide), zup_ne (by decide), zup_ne (by decide)]
theorem drp_m {c : List (Nat × Nat)} {W P : List Nat} {D bd k : Nat} {M : zM} (hk : k ≤ 6) (hW : zbs k W) (hp : zpd k P) (h : zYs c W P D bd M) : ∃ M', F_X12_drops 79 (nI k) M = zV M' ∧ (zYs c W [] D bd M' ∧ M' 101 = M 101 ∧ zEy M M') := by
  have hl : P.length ≤ 701 := by
    obtain ⟨-, -, -, b3, b4, -⟩ := h
    rw [List.length_append] at b3
    omega
  unfold F_X12_drops
  exact dr_m hk hW P.reverse P M zN (by rw [List.reverse_reverse]) (zN_ge (by rw [List.length_reverse]; omega)) hp h
/-- behind a fault -/
def zEf (B : Nat → Nat) (n : Nat) (p : Nat × Nat) (M : zM) : Prop := zTmx B n p M ∧ p.1 ≠ 0 ∧ ∃ a b, M 79 33 = nI a ∧ M 79 34 = nI b ∧ a + b ≤ 1500 ∧ b ≤ 900
theorem sth_any (v : Int32) (M : zM) : ∃ k, 1 ≤ k ∧ k ≤ 6 ∧ F_X12_strength v M = zI (nI k) M := by
  unfold F_X12_strength
  rw [zjo_eq]
  by_cases c1 : v = 5
  · exact ⟨1, by omega, by omega, by rw [zit_t c1]; rfl⟩
  rw [zit_f c1]
  by_cases c2 : v = 4
  · exact ⟨2, by omega, by omega, by rw [zit_t c2]; rfl⟩
  rw [zit_f c2]
  by_cases c3 : v = 3
  · exact ⟨3, by omega, by omega, by rw [zit_t c3]; rfl⟩
  rw [zit_f c3, zjo_eq]
  by_cases c4 : v = 6
  · exact ⟨4, by omega, by omega, by rw [zit_t c4]; rfl⟩
  rw [zit_f c4]
  by_cases c5 : v = 7
  · exact ⟨4, by omega, by omega, by rw [zit_t c5]; rfl⟩
  rw [zit_f c5, zjo_eq]
  by_cases c6 : v = 8
  · exact ⟨5, by omega, by omega, by rw [zit_t c6]; rfl⟩
  rw [zit_f c6]
  by_cases c7 : v = 9
  · exact ⟨5, by omega, by omega, by rw [zit_t c7]; rfl⟩
  rw [zit_f c7]
  exact ⟨6, by omega, by omega, rfl⟩
theorem drf_m {p : Nat × Nat} (hp : p.1 ≠ 0) : ∀ (b a : Nat) (M : zM) (f : Nat), b < f → zTmx B n p M → M 79 33 = nI a → M 79 34 = nI b → a + b ≤ 1500 → b ≤ 900 → ∃ M', F_X12_drops_L0 79 0 (fun (M5 : zM) => zV M5) f M = zV M' ∧ (zEf B n p M' ∧ zEy M M') := by
  intro b
  induction b with
  | zero =>
    intro a M f hf h h33 h34 hab hb
    obtain ⟨f, rfl⟩ : ∃ g, f = g + 1 := ⟨f - 1, by omega⟩
    rw [F_X12_drops_L0, h34, zit_t (by decide)]
    exact ⟨M, rfl, ⟨h, hp, a, 0, h33, h34, hab, hb⟩, zEy_rfl⟩
  | succ b ih =>
    intro a M f hf h h33 h34 hab hb
    obtain ⟨f, rfl⟩ : ∃ g, f = g + 1 := ⟨f - 1, by omega⟩
    have e1 : nI (b + 1) - 1 = nI b := s_sub (a := b + 1) (b := 1) (by omega)
    rw [F_X12_drops_L0, h34, zit_f (show ¬ nI (b + 1) ≤ (0 : Int32) from (nI_ge (by omega) (by omega) : ¬ nI (b + 1) ≤ nI 0)), e1, zin_k (k := b) (n := 950) (by omega) (by omega), zck_t, gr_79_45, zix_k (k := b) (by omega)]
    have hop : F_X12_isOpen (M 100 b) M = zI (if M 100 b < 14 then 0 else 1) M := by
      unfold F_X12_isOpen
      rw [zjo_eq]
      by_cases c : M 100 b < 14
      · rw [zit_t c, if_pos c]
        try dsimp only
        rw [zbo_0, zck_t]
      · rw [zit_f c, if_neg c]
        try dsimp only
        rw [zbo_1, zck_t]
    rw [hop, zbI_I]
    by_cases c : M 100 b < 14
    · obtain ⟨k, k1, k2, ek⟩ := sth_any (M 100 b) M
      rw [if_pos c, zit_t rfl, h34, e1, zin_k (k := b) (n := 950) (by omega) (by omega), zck_t, zix_k (k := b) (by omega), ek, zbI_I, zit_f (show ¬ nI k < (0 : Int32) from (nI_nlt (Nat.zero_le _) (by omega) : ¬ nI k < nI 0)), h34, e1, zst_eq, show zup M 79 34 (nI b) 79 34 = nI b from by rw [zup_row, upd_eq], zin_k (k := b) (n := 950) (by omega) (by omega), zck_t, pts_m (t := a) (by rw [zup_row, upd_ne (by decide), h33]) (by omega), zbV_V]
      obtain ⟨M1, hM1⟩ : ∃ M1, zup (zup (zup M 79 34 (nI b)) 99 a (zup M 79 34 (nI b) 100 (zix (nI b)))) 79 33 (nI (a + 1)) = M1 := ⟨_, rfl⟩
      rw [hM1]
      have o1 : zEy M M1 := by
        rw [← hM1]
        exact ⟨fun k hk => by rw [zup_row, upd_ne (by omega), zup_ne (by decide), zup_row, upd_ne (by omega)], zoff_up (zoff_up (zoff_up zoff_rfl (by decide)) (by decide)) (by decide)⟩
      obtain ⟨M2, e2, x2, o2⟩ := ih (a + 1) M1 f (by omega) (zEy_t h o1) (by rw [← hM1, zup_row, upd_eq]) (by rw [← hM1, zup_row, upd_ne (by decide), zup_ne (by decide), zup_row, upd_eq]) (by omega) (by omega)
      exact ⟨M2, e2, x2, zEy_tr o1 o2⟩
    · rw [if_neg c, zit_f (by decide)]
      exact ⟨M, rfl, ⟨h, hp, a, b + 1, h33, h34, hab, hb⟩, zEy_rfl⟩
end ZYD
