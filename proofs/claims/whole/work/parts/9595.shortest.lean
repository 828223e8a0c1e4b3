/-! the SHORTEST word: both alike -/
theorem fold_take {α β : Type} (f : β → α → β) (d : α) : ∀ (P : List α) (b : β) (i : Nat), i < P.length → (P.take (i + 1)).foldl f b = f ((P.take i).foldl f b) (P.getD i d)
  | [], _, i, h => absurd h (Nat.not_lt_zero _)
  | a :: P, b, 0, _ => by simp
  | a :: P, b, i + 1, h => by
    show (P.take (i + 1)).foldl f (f b a) = f ((P.take i).foldl f (f b a)) (P.getD i d)
    exact fold_take f d P (f b a) i (by simp only [List.length_cons] at h; omega)
theorem zpm_l0 : ∀ m, m < 6 → (zpm m (List.range m)).getD 0 [] = List.range m := by decide +kernel
theorem zpm_l1 : ∀ m, m < 6 → (zpm m (List.range m)).length ≤ 120 := by decide +kernel
theorem zpm_fst {m : Nat} (hm : m ≤ 5) {l : List Nat} (hl : l.length = m) (h0 : zpm m l ≠ []) : (zpm m l).getD 0 [] = l ∧ (zpm m l).length ≤ 120 := by
  have e := zpm_rng m l
  rw [hl] at e
  have hp : 0 < (zpm m (List.range m)).length := by
    rcases Nat.eq_zero_or_pos (zpm m (List.range m)).length with z | z
    · rw [List.eq_nil_of_length_eq_zero z] at e
      exact absurd e h0
    · exact z
  constructor
  · have : (zpm m l).getD 0 [] = ((zpm m (List.range m)).getD 0 []).map (fun k => l.getD k 0) := by
      rw [e]
      simp [List.getD_eq_getElem?_getD, hp]
    rw [this, zpm_l0 m (by omega), ← hl, lst_rng]
  · rw [e, List.length_map]
    exact zpm_l1 m (by omega)
theorem zbst {S : zSD} {m : Nat} {P : List (List Nat)} (h : ∀ t ∈ P, t.length = m ∧ zll' S t ≤ 45) : ∀ i, 0 < i → i ≤ P.length → ((P.take i).foldl (zbf S) (46, [])).1 ≤ 45 ∧ ((P.take i).foldl (zbf S) (46, [])).2.length = m
  | 0, h0, _ => absurd h0 (by omega)
  | i + 1, _, hi => by
    obtain ⟨t1, t2⟩ := h (P.getD i []) (getD_in [] P i (by omega))
    rw [fold_take (zbf S) [] P (46, []) i (by omega), zbf]
    by_cases hc : zll' S (P.getD i []) < ((P.take i).foldl (zbf S) (46, [])).1
    · rw [if_pos hc]
      exact ⟨t2, t1⟩
    · rw [if_neg hc]
      cases i with
      | zero => exact absurd (show zll' S (P.getD 0 []) < 46 from by omega) hc
      | succ i => exact zbst h (i + 1) (by omega) (by omega)
section ZSO
variable {S : zSD}
/-- all orders, one after another -/
theorem be_m {M : zM} (hS : zSm S M) (ho : zSok S) {l : List Nat} {m : Nat} (hm : m ≤ 5) (hlm : l.length = m) (hup : ∀ i, i < m → ∀ j, j < m → decide (l.getD i 0 ≤ l.getD j 0) = decide (i ≤ j)) (hln : ∀ v ∈ l, v < S 0 0) (hA : zArw l M) (x2 : Int32) (K : Int32 → zM → zO) : ∃ M', F_X12_shortest_L185 79 x2 K zN (-1) 1 M = K (nI ((zpm m l).foldl (zbf S) (46, [])).1) M' ∧ (M' 79 63 = nI m ∧ ((zpm m l).foldl (zbf S) (46, [])).1 ≤ 45 ∧ ((zpm m l).foldl (zbf S) (46, [])).2.length = m ∧ (∀ j, j < m → M' 115 j = nI (((zpm m l).foldl (zbf S) (46, [])).2.getD j 0)) ∧ zSy M M') := by
  have h8 := so_n ho
  obtain ⟨p0, p1, p2⟩ := zpm_next hm hlm hup
  obtain ⟨f0, f1⟩ := zpm_fst hm hlm p0
  obtain ⟨P, hP⟩ : ∃ P, zpm m l = P := ⟨_, rfl⟩
  rw [hP] at p0 p1 p2 f0 f1 ⊢
  have hP0 : 0 < P.length := List.length_pos_iff.mpr p0
  have hin : ∀ i, i < P.length → (P.getD i []).length = m ∧ ∀ j, j < m → (P.getD i []).getD j 0 < S 0 0 := fun i hi => by
    obtain ⟨a1, a2⟩ := p1 _ (getD_in [] P i hi)
    exact ⟨a1, fun j hj => hln _ (a2 j hj)⟩
  have hall : ∀ t ∈ P, t.length = m ∧ zll' S t ≤ 45 := fun t ht => by
    obtain ⟨a1, a2⟩ := p1 t ht
    have := zlf_le ho (o := zgD t) t.length (fun j hj => hln _ (a2 j (by omega)))
    exact ⟨a1, by show zlf S (zgD t) t.length ≤ 45; omega⟩
  have hbst := zbst hall
  have htk : P.take P.length = P := List.take_length
  refine zfor (i := 0) (f := zN) (a := ((-1 : Int32), (1 : Int32), M)) P.length (fun f _ (p : Int32 × Int32 × zM) => F_X12_shortest_L185 79 x2 K f p.1 p.2.1 p.2.2) (fun i p => p.2.1 = (if i < P.length then 1 else 0) ∧ p.2.2 79 63 = nI m ∧ (i < P.length → ∀ j, j < m → p.2.2 114 j = nI ((P.getD i []).getD j 0)) ∧ (i = 0 → p.1 = -1) ∧ (0 < i → p.1 = nI ((P.take i).foldl (zbf S) (46, [])).1 ∧ ∀ j, j < m → p.2.2 115 j = nI (((P.take i).foldl (zbf S) (46, [])).2.getD j 0)) ∧ zSy M p.2.2) (fun o => ∃ M', o = K (nI (P.foldl (zbf S) (46, [])).1) M' ∧ (M' 79 63 = nI m ∧ (P.foldl (zbf S) (46, [])).1 ≤ 45 ∧ (P.foldl (zbf S) (46, [])).2.length = m ∧ (∀ j, j < m → M' 115 j = nI ((P.foldl (zbf S) (46, [])).2.getD j 0)) ∧ zSy M M')) ?_ ?_ (by omega) (zN_ge (by omega)) ⟨by rw [if_pos hP0], by rw [← hlm]; exact hA.1, fun _ j hj => by rw [f0]; exact hA.2 j (by omega), fun _ => rfl, fun z => absurd z (by omega), zSy_rfl⟩
  · rintro f i ⟨x3, x4, M1⟩ hi ⟨i1, i2, i3, i4, i5, i6⟩
    refine Or.inr ?_
    dsimp only at i1 i2 i3 i4 i5 i6
    rw [if_pos hi] at i1
    have i3 := i3 hi
    obtain ⟨n1, n2⟩ := hin i hi
    have hS1 := zSy_S hS i6
    have hl45 := (hall _ (getD_in [] P i hi)).2
    have hll : zll' S (P.getD i []) = zlf S (zgD (P.getD i [])) m := by
      show zlf S (zgD (P.getD i [])) (P.getD i []).length = _
      rw [n1]
    show ∃ p' : Int32 × Int32 × zM, F_X12_shortest_L185 79 x2 K (f + 1) x3 x4 M1 = F_X12_shortest_L185 79 x2 K f p'.1 p'.2.1 p'.2.2 ∧ _
    rw [i1, F_X12_shortest_L185, zit_f (by decide), lf_m hS1 ho hm (u := zgD (P.getD i [])) i2 i3 n2, ← hll, zjo_eq, zjo_eq]
    obtain ⟨u, u1, u2, u3⟩ := p2 i hi
    -- the next one
    have fin : ∀ (y : Int32) (M2 : zM), zoff [115] M1 M2 → y = nI ((P.take (i + 1)).foldl (zbf S) (46, [])).1 → (∀ j, j < m → M2 115 j = nI (((P.take (i + 1)).foldl (zbf S) (46, [])).2.getD j 0)) → ∃ p' : Int32 × Int32 × zM, zbI (F_X12_nextOrder 79 M2) (fun r6 M25 => F_X12_shortest_L185 79 x2 K f y r6 M25) = F_X12_shortest_L185 79 x2 K f p'.1 p'.2.1 p'.2.2 ∧ (p'.2.1 = (if i + 1 < P.length then 1 else 0) ∧ p'.2.2 79 63 = nI m ∧ (i + 1 < P.length → ∀ j, j < m → p'.2.2 114 j = nI ((P.getD (i + 1) []).getD j 0)) ∧ (i + 1 = 0 → p'.1 = -1) ∧ (0 < i + 1 → p'.1 = nI ((P.take (i + 1)).foldl (zbf S) (46, [])).1 ∧ ∀ j, j < m → p'.2.2 115 j = nI (((P.take (i + 1)).foldl (zbf S) (46, [])).2.getD j 0)) ∧ zSy M p'.2.2) := fun y M2 o2 hy hb => by
      have o2' : zSy M1 M2 := zSy_o (zoff_mono o2 (by decide))
      have h63 : M2 79 63 = nI m := by rw [o2 79 (by decide), i2]
      obtain ⟨q1, q2⟩ := nxo_m (M := M2) hm (u := u) h63 (fun j hj => by rw [o2 114 (by decide), i3 j hj, u1 j hj]) (fun j hj => by rw [u1 j hj]; have := n2 j hj; omega)
      by_cases he : i + 1 = P.length
      · rw [q1 (u2 he), zbI_I]
        exact ⟨(y, 0, M2), rfl, by rw [if_neg (by omega)], h63, fun z => absurd z (by omega), fun z => absurd z (by omega), fun _ => ⟨hy, hb⟩, zSy_tr i6 o2'⟩
      · obtain ⟨a, a1, a2⟩ := u3 (by omega)
        obtain ⟨M3, e3, g3, o3⟩ := q2 a a1
        rw [e3, zbI_I]
        refine ⟨(y, 1, M3), rfl, by rw [if_pos (by omega)], ?_, fun _ j hj => ?_, fun z => absurd z (by omega), fun _ => ⟨hy, fun j hj => ?_⟩, zSy_tr i6 (zSy_tr o2' (zSy_o (zoff_mono o3 (by decide))))⟩
        · show M3 79 63 = nI m
          rw [o3 79 (by decide), h63]
        · show M3 114 j = _
          rw [g3 j hj, a2 j hj]
        · show M3 115 j = _
          rw [o3 115 (by decide), hb j hj]
    have upd' : (0 < i → zll' S (P.getD i []) < ((P.take i).foldl (zbf S) (46, [])).1) → ∃ p' : Int32 × Int32 × zM, zbV (F_X12_copies 79 (zgr 79 61) (zgr 79 62) M1) (fun M23 => zbI (F_X12_nextOrder 79 M23) (fun r6 M25 => F_X12_shortest_L185 79 x2 K f (nI (zll' S (P.getD i []))) r6 M25)) = F_X12_shortest_L185 79 x2 K f p'.1 p'.2.1 p'.2.2 ∧ (p'.2.1 = (if i + 1 < P.length then 1 else 0) ∧ p'.2.2 79 63 = nI m ∧ (i + 1 < P.length → ∀ j, j < m → p'.2.2 114 j = nI ((P.getD (i + 1) []).getD j 0)) ∧ (i + 1 = 0 → p'.1 = -1) ∧ (0 < i + 1 → p'.1 = nI ((P.take (i + 1)).foldl (zbf S) (46, [])).1 ∧ ∀ j, j < m → p'.2.2 115 j = nI (((P.take (i + 1)).foldl (zbf S) (46, [])).2.getD j 0)) ∧ zSy M p'.2.2) := fun hlt => by
      have hlt' : zll' S (P.getD i []) < ((P.take i).foldl (zbf S) (46, [])).1 := by
        rcases Nat.eq_zero_or_pos i with z | z
        · subst z
          show zll' S (P.getD 0 []) < 46
          omega
        · exact hlt z
      have ef : (P.take (i + 1)).foldl (zbf S) (46, []) = (zll' S (P.getD i []), P.getD i []) := by
        rw [fold_take (zbf S) [] P (46, []) i hi, zbf, if_pos hlt']
      rw [gr_79_61, gr_79_62, cp_m (n := 5) (by decide) (by decide) (by omega) (by decide), zbV_V]
      refine fin _ _ (zoff_upA zoff_rfl (by decide)) (by rw [ef]) (fun j hj => ?_)
      rw [ef, zupA_eq, if_pos (by omega), i3 j hj]
    rcases Nat.eq_zero_or_pos i with z | z
    · rw [zit_t (i4 z)]
      exact upd' (fun h => absurd h (by omega))
    · obtain ⟨j1, j2⟩ := i5 z
      obtain ⟨b1, b2⟩ := hbst i z (by omega)
      rw [zit_f (by rw [j1]; exact nI_n1 (by omega))]
      by_cases hc : zll' S (P.getD i []) < ((P.take i).foldl (zbf S) (46, [])).1
      · rw [zit_f (by rw [j1]; exact nI_ge hc (by omega))]
        exact upd' (fun _ => hc)
      · rw [zit_t (by rw [j1]; exact nI_le (by omega) (by omega))]
        have ef : (P.take (i + 1)).foldl (zbf S) (46, []) = (P.take i).foldl (zbf S) (46, []) := by
          rw [fold_take (zbf S) [] P (46, []) i hi, zbf, if_neg hc]
        exact fin x3 M1 zoff_rfl (by rw [ef]; exact j1) (fun j hj => by rw [ef]; exact j2 j hj)
  · rintro f ⟨x3, x4, M1⟩ ⟨i1, i2, i3, i4, i5, i6⟩
    dsimp only at i1 i2 i3 i4 i5 i6
    rw [if_neg (by omega)] at i1
    obtain ⟨j1, j2⟩ := i5 hP0
    obtain ⟨b1, b2⟩ := hbst P.length hP0 (Nat.le_refl _)
    rw [htk] at j1 j2 b1 b2
    show ∃ M', F_X12_shortest_L185 79 x2 K (f + 1) x3 x4 M1 = _ ∧ _
    rw [F_X12_shortest_L185, zit_t i1, j1]
    exact ⟨M1, rfl, i2, b1, b2, j2, i6⟩
end ZSO
def zsans (b : Nat × List Nat) (i : Int32) : Int32 := if i = -1 then nI b.1 else if nI b.2.length ≤ i then -1 else nI (b.2.getD (zix i) 0)
theorem op_shortest (q : zSt) (ho : zok q) (a b : Int32) : zOp 2 (F_X11_shortest 0 a b) (F_X12_shortest 79 a b) zNSE zIAE q := by
  have hY : ∀ M, F_X12_shortest 79 a b M = F_X12_shortest 79 a b (zup M 79 0 0) := fun M => by unfold F_X12_shortest; rw [zup_idem]
  have hn := qo_n ho
  have hs := qo_S ho
  have hpw : 2 ^ tS q 0 0 ≤ 256 := by
    have := Nat.pow_le_pow_right (n := 2) (by decide) hn
    omega
  have hp1 : 0 < 2 ^ tS q 0 0 := Nat.pow_pos (by decide)
  -- what is refused at once
  have bad : (∀ M, zQx q M → F_X11_shortest 0 a b M = zE zIAE M) → (∀ M, zQm q M → M 79 0 = 0 → F_X12_shortest 79 a b M = zbI (F_X12_right 79 0 2 M) (fun r2 M5 => zjo (fun  (M28 : zM) => zI 0 M28) (fun (k3 : zM → zO) => zit (r2 = 0) (k3 M5) (zjo (fun (w2 : Int32) (M6 : zM) => zbI (F_X12_right 79 w2 1 M6) (fun r3 M7 => zit (r3 = 0) (k3 M7) (zst (zup M7 79 63 0) (fun M8 => F_X12_shortest_L67 79 a b (fun  (M18 : zM) => F_X12_shortest_L185 79 b (fun (y3 : Int32) (M26 : zM) => zjo (fun (w7 : Int32) (M27 : zM) => zI w7 M27) (fun (k13 : Int32 → zM → zO) => zit (b = (-1)) (k13 y3 M26) (zit ((M26 79 63) ≤ b) (k13 (-1) M26) (zck (zin b 5) (k13 (M26 (zgr 79 62) (zix b)) M26))))) zN (-1) 1 M18) zN 0 M8)))) (fun (k4 : Int32 → zM → zO) => zit (b < (-1)) (k4 0 M5) (k4 1 M5)))))) → zOp 2 (F_X11_shortest 0 a b) (F_X12_shortest 79 a b) zNSE zIAE q := fun hX hY2 => by
    refine zop_rf hY 2 (Or.inr rfl) (by omega) (fun M h => by rw [hX M h]; rfl) (fun M h h0 => ⟨0, ?_⟩)
    rw [hY2 M h h0, pm_right0 h0 (by decide), zbI_I, zjo_eq, zit_t rfl]
    rfl
  rcases zca (m := 2 ^ tS q 0 0 - 1) (by omega) a with ⟨s, hk, rfl⟩ | ha
  · have hs256 : s < 256 := by omega
    have hsn : s < 2 ^ tS q 0 0 := by omega
    have na : ¬ nI s < (0 : Int32) := (nI_nlt (Nat.zero_le _) (by omega) : ¬ nI s < nI 0)
    have nb : ¬ nI (2 ^ tS q 0 0) ≤ nI s := nI_ge hsn (by omega)
    have hcu := zcu_le (zbi s) 8
    by_cases h5 : zcu (zbi s) 8 ≤ 5
    · -- the set stands
      have hyy : ∀ M, zQm q M → M 79 0 = 0 → F_X12_shortest 79 (nI s) b M = zjo (fun  (M28 : zM) => zI 0 M28) (fun (k3 : zM → zO) => (zjo (fun (w2 : Int32) (M6 : zM) => zbI (F_X12_right 79 w2 1 M6) (fun r3 M7 => zit (r3 = 0) (k3 M7) (zst (zup M7 79 63 0) (fun M8 => F_X12_shortest_L67 79 (nI s) b (fun  (M18 : zM) => F_X12_shortest_L185 79 b (fun (y3 : Int32) (M26 : zM) => zjo (fun (w7 : Int32) (M27 : zM) => zI w7 M27) (fun (k13 : Int32 → zM → zO) => zit (b = (-1)) (k13 y3 M26) (zit ((M26 79 63) ≤ b) (k13 (-1) M26) (zck (zin b 5) (k13 (M26 (zgr 79 62) (zix b)) M26))))) zN (-1) 1 M18) zN 0 M8)))) (fun (k4 : Int32 → zM → zO) => zit (b < (-1)) (k4 0 M) (k4 1 M)))) := fun M h h0 => by
        unfold F_X12_shortest
        rw [zst_eq, zup_same h0, zjo_eq, zjo_eq, zit_f na, sm_n (qm_S h), bpow _ (by omega), zit_f nb, bt_m hs256, zbI_I, zit_f (show ¬ (5 : Int32) < nI (zcu (zbi s) 8) from (nI_nlt h5 (by omega) : ¬ nI 5 < nI (zcu (zbi s) 8)))]
        try dsimp only
        rw [pm_right1 h0 (by decide), zbI_I, zjo_eq, zit_f (by decide)]
        rfl
      have hxx : ∀ M, zQx q M → F_X11_shortest 0 (nI s) b M = zbV (F_X11_needNoneOrMore b M) (fun M2 => zbV (F_X9_findShortest 4 (nI s) M2) (fun M3 => zjo (fun (w1 : Int32) (M5 : zM) => zI w1 M5) (fun (k2 : Int32 → zM → zO) => zit (b = (-1)) (k2 (M3 4 5) M3) (zbI (F_X9_shortestOrder 4 b M3) (fun r2 M4 => k2 r2 M4))))) := fun M h => by
        unfold F_X11_shortest
        rw [zjo_eq, zit_f na, gr_0_1, gr_3_4, sx_n (qx_S h), bpow _ (by omega), zit_f nb, bc_F, zbI_I, bcnt s hs256, zit_t (show nI (zcu (zbi s) 8) ≤ (5 : Int32) from nI_le (b := 5) h5 (by omega))]
      by_cases hb : b < -1
      · refine zop_rf hY 1 (Or.inl rfl) (by omega) (fun M h => ?_) (fun M h h0 => ⟨0, ?_⟩)
        · rw [hxx M h]
          unfold F_X11_needNoneOrMore
          rw [zit_f (m1_nle hb), zbV_E]
          rfl
        · rw [hyy M h h0, zjo_eq, zjo_eq, zit_t hb]
          dsimp only
          rw [pm_right0 h0 (by decide), zbI_I, zit_t rfl]
          rfl
      · obtain ⟨l, hl⟩ : ∃ l, zel (zak (tS q) s) = l := ⟨_, rfl⟩
        obtain ⟨m, hm⟩ : ∃ m, l.length = m := ⟨_, rfl⟩
        have hm5 : m ≤ 5 := by
          rw [← hm, ← hl, zak_el hn hs256 hsn, flt_cu]
          have h1 := zas_cu (S := tS q) (s := s) (tS q 0 0)
          have h2 := zcu_up (P := zbi s) (n := tS q 0 0) 8 hn
          omega
        have hbits : ∀ k, k < 8 → zbi (zak (tS q) s) k = true → k < tS q 0 0 := fun k hk hz => by
          rw [zak_b _ _ hk] at hz
          exact in_lt (tS q 0 0) (by omega) s hs256 hsn k hk (zas_b hz)
        have hln : ∀ v ∈ l, v < tS q 0 0 := fun v hv => by
          rw [← hl] at hv
          obtain ⟨h1, h2⟩ := zel_in hv
          exact hbits v h1 h2
        have hup : ∀ i, i < m → ∀ j, j < m → decide (l.getD i 0 ≤ l.getD j 0) = decide (i ≤ j) := fun i hi j hj => by
          rw [← hl]
          exact zel_up _ (zak_lt _ _) i (by omega) j (by omega) (by rw [hl]; omega) (by rw [hl]; omega)
        obtain ⟨B, hB⟩ : ∃ B, (zpm m l).foldl (zbf (tS q)) (46, []) = B := ⟨_, rfl⟩
        refine zop_self hY (zop0_ret2 (r := zsans B b) (fun M h => ?_) (fun M h h0 => ?_))
        · rw [hxx M h]
          unfold F_X11_needNoneOrMore
          rw [zit_t (m1_le hb), zbV_V]
          unfold F_X9_findShortest
          rw [zst_eq, zst_eq]
          obtain ⟨M2, hM2⟩ : ∃ M2, zup (zup M 4 5 46) 4 4 0 = M2 := ⟨_, rfl⟩
          rw [hM2]
          have o2 : zoff [4, 7, 8] M M2 := by rw [← hM2]; exact zoff_up (zoff_up zoff_rfl (by decide)) (by decide)
          have hS2 := wy_off (qx_S h) o2
          have hYb : zYb (46, []) M2 := by
            refine ⟨?_, ?_, by decide, by decide, fun j hj => absurd hj (Nat.not_lt_zero _)⟩
            · rw [← hM2, zup_row, upd_ne (by decide), zup_row, upd_eq]
              rfl
            · rw [← hM2, zup_row, upd_eq]
              rfl
          rw [wi_x hS2 hs hs256 hsn, zbI_I]
          obtain ⟨M3, e3, -, j2, j3⟩ := lay_x hs m 9 (by omega) (zak (tS q) s) [] (46, []) M2 hS2 (zak_lt _ _) hbits (by rw [hl, hm]) (by simp only [List.length_nil]; omega) (fun j hj => absurd hj (Nat.not_lt_zero _)) (fun j hj => absurd hj (Nat.not_lt_zero _)) hYb
          have em : (zpm m (zel (zak (tS q) s))).map (fun t => [] ++ t) = zpm m l := by
            rw [hl]
            simp
          rw [em, hB] at j2
          obtain ⟨b1, b2, b3, b4, b5⟩ := j2
          rw [show Fr_X9_lay 9 4 (nI (zak (tS q) s)) 0 0 M2 = zV M3 from e3, zbV_V, zbV_V, zjo_eq]
          refine ⟨M3, ?_, zoff_mono (zoff_trans o2 j3) (by decide)⟩
          unfold zsans
          by_cases hb1 : b = -1
          · rw [zit_t hb1, if_pos hb1, b1]
          · rw [zit_f hb1, if_neg hb1]
            have hb0 := m1_lt hb hb1
            unfold F_X9_shortestOrder
            rw [zjo_eq, zjo_eq, zit_f hb0, b2]
            by_cases hkb : nI B.2.length ≤ b
            · rw [zit_t hkb, zbI_I, if_pos hkb]
            · obtain ⟨j, hj, rfl⟩ := nI_of hb0
              have hjk : j < B.2.length := by
                rcases Nat.lt_or_ge j B.2.length with z | z
                · exact z
                · exact absurd (nI_le z hj) hkb
              rw [zit_f hkb, zin_k (k := j) (n := 5) (by omega) (by omega), zck_t, gr_4_3, zix_k (k := j) (by omega), b5 j hjk, zbI_I, if_neg hkb]
        · rw [hyy M h h0, zjo_eq, zjo_eq, zit_f hb]
          dsimp only
          rw [pm_right1 h0 (by decide), zbI_I, zit_f (by decide), zst_eq]
          obtain ⟨M1, hM1⟩ : ∃ M1, zup M 79 63 0 = M1 := ⟨_, rfl⟩
          rw [hM1]
          have o1 : zSy M M1 := by
            rw [← hM1]
            exact ⟨fun k hk => by rw [zup_row, upd_ne hk], zoff_up zoff_rfl (by decide)⟩
          have hS1 := zSy_S (qm_S h) o1
          obtain ⟨M2, e2, A2, o2⟩ := ar_m hS1 hs hs256 hsn h5 (by rw [← hM1, zup_row, upd_eq]) b (fun  (M18 : zM) => F_X12_shortest_L185 79 b (fun (y3 : Int32) (M26 : zM) => zjo (fun (w7 : Int32) (M27 : zM) => zI w7 M27) (fun (k13 : Int32 → zM → zO) => zit (b = (-1)) (k13 y3 M26) (zit ((M26 79 63) ≤ b) (k13 (-1) M26) (zck (zin b 5) (k13 (M26 (zgr 79 62) (zix b)) M26))))) zN (-1) 1 M18)
          rw [hl] at A2
          obtain ⟨M3, e3, c1, c2, c3, c4, o3⟩ := be_m (zSy_S hS1 o2) hs hm5 hm hup hln A2 b (fun (y3 : Int32) (M26 : zM) => zjo (fun (w7 : Int32) (M27 : zM) => zI w7 M27) (fun (k13 : Int32 → zM → zO) => zit (b = (-1)) (k13 y3 M26) (zit ((M26 79 63) ≤ b) (k13 (-1) M26) (zck (zin b 5) (k13 (M26 (zgr 79 62) (zix b)) M26)))))
          rw [hB] at e3 c2 c3 c4
          have o13 := zSy_tr o1 (zSy_tr o2 o3)
          refine ⟨M3, (e2.trans e3).trans ?_, fun k hk => o13.1 k (fun z => ?_), zoff_mono o13.2 (by decide)⟩
          · rw [zjo_eq, c1]
            unfold zsans
            by_cases hb1 : b = -1
            · rw [zit_t hb1, if_pos hb1]
            · rw [zit_f hb1, if_neg hb1, c3]
              have hb0 := m1_lt hb hb1
              by_cases hkb : nI m ≤ b
              · rw [zit_t hkb, if_pos hkb]
              · obtain ⟨j, hj, rfl⟩ := nI_of hb0
                have hjk : j < m := by
                  rcases Nat.lt_or_ge j m with z | z
                  · exact z
                  · exact absurd (nI_le z hj) hkb
                rw [zit_f hkb, zin_k (k := j) (n := 5) (by omega) (by omega), zck_t, gr_79_62, zix_k (k := j) (by omega), c4 j hjk, if_neg hkb]
          · rw [z] at hk
            revert hk
            decide
    · refine bad (fun M h => ?_) (fun M h h0 => ?_)
      · unfold F_X11_shortest
        rw [zjo_eq, zit_f na, gr_0_1, sx_n (qx_S h), bpow _ (by omega), zit_f nb, bc_F, zbI_I, bcnt s hs256, zit_f (show ¬ nI (zcu (zbi s) 8) ≤ (5 : Int32) from (nI_ge (by omega) (by omega) : ¬ nI (zcu (zbi s) 8) ≤ nI 5))]
      · unfold F_X12_shortest
        rw [zst_eq, zup_same h0, zjo_eq, zjo_eq, zit_f na, sm_n (qm_S h), bpow _ (by omega), zit_f nb, bt_m hs256, zbI_I, zit_t (show (5 : Int32) < nI (zcu (zbi s) 8) from nI_lt (a := 5) (by omega) (by omega))]
  · have hge : ¬ a < 0 → nI (2 ^ tS q 0 0) ≤ a := fun h => by
      have h2 := ha.resolve_left h
      obtain ⟨j, hj, rfl⟩ := nI_of h
      have : 2 ^ tS q 0 0 - 1 < j := (nI_ltI (by omega) hj).mp h2
      exact nI_le (by omega) hj
    by_cases h : a < 0
    · refine bad (fun M hq => ?_) (fun M hq h0 => ?_)
      · unfold F_X11_shortest
        rw [zjo_eq, zit_t h]
      · unfold F_X12_shortest
        rw [zst_eq, zup_same h0, zjo_eq, zjo_eq, zit_t h]
    · refine bad (fun M hq => ?_) (fun M hq h0 => ?_)
      · unfold F_X11_shortest
        rw [zjo_eq, zit_f h, gr_0_1, sx_n (qx_S hq), bpow _ (by omega), zit_t (hge h)]
      · unfold F_X12_shortest
        rw [zst_eq, zup_same h0, zjo_eq, zjo_eq, zit_f h, sm_n (qm_S hq), bpow _ (by omega), zit_t (hge h)]
