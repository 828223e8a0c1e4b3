/-! SALES, the reference's: rows of couples by numbers -/
theorem rng_mul (m : Nat) : ∀ c, List.range (c * m) = (List.range c).flatMap (fun i => (List.range m).map (fun j => i * m + j))
  | 0 => by simp
  | c + 1 => by
    rw [Nat.add_mul, Nat.one_mul, List.range_add, rng_mul m c, List.range_succ, List.flatMap_append]
    simp
theorem lst_rng {α : Type} (d : α) : ∀ l : List α, (List.range l.length).map (fun i => l.getD i d) = l
  | [] => rfl
  | a :: l => by
    rw [List.length_cons, List.range_succ_eq_map, List.map_cons, List.map_map]
    exact congrArg (a :: ·) (lst_rng d l)
theorem flat_cg {α β : Type} {f g : α → List β} : ∀ l : List α, (∀ a ∈ l, f a = g a) → l.flatMap f = l.flatMap g
  | [], _ => rfl
  | a :: l, h => by
    rw [List.flatMap_cons, List.flatMap_cons, h a List.mem_cons_self, flat_cg l (fun b hb => h b (List.mem_cons_of_mem _ hb))]
theorem fmap_cg {α β : Type} {f g : α → Option β} : ∀ l : List α, (∀ a ∈ l, f a = g a) → l.filterMap f = l.filterMap g
  | [], _ => rfl
  | a :: l, h => by
    rw [List.filterMap_cons, List.filterMap_cons, h a List.mem_cons_self, fmap_cg l (fun b hb => h b (List.mem_cons_of_mem _ hb))]
def zdg (P : List (Nat × Nat)) : Nat → Nat → List (Nat × Nat)
  | 0, _ => []
  | k + 1, x => P.getD (x / P.length ^ k) (0, 0) :: zdg P k (x % P.length ^ k)
theorem zdg_len (P : List (Nat × Nat)) : ∀ k x, (zdg P k x).length = k
  | 0, _ => rfl
  | k + 1, x => congrArg (· + 1) (zdg_len P k _)
theorem zdg_get (P : List (Nat × Nat)) : ∀ k x j, x < P.length ^ k → j < k → (zdg P k x).getD j (0, 0) = P.getD (x / P.length ^ (k - 1 - j) % P.length) (0, 0)
  | 0, _, _, _, hj => absurd hj (Nat.not_lt_zero _)
  | k + 1, x, 0, hx, _ => by
    show P.getD (x / P.length ^ k) (0, 0) = _
    rw [show k + 1 - 1 - 0 = k from rfl, Nat.mod_eq_of_lt (Nat.div_lt_of_lt_mul (by rw [Nat.pow_succ] at hx; exact hx))]
  | k + 1, x, j + 1, hx, hj => by
    have h0 : 0 < P.length ^ k := by
      rcases Nat.eq_zero_or_pos P.length with h | h
      · rw [h, Nat.zero_pow (by omega)] at hx
        omega
      · exact Nat.pow_pos h
    show (zdg P k (x % P.length ^ k)).getD j (0, 0) = _
    rw [zdg_get P k _ j (Nat.mod_lt _ h0) (by omega)]
    congr 1
    have e : P.length ^ k = P.length ^ (k - 1 - j) * P.length ^ (j + 1) := by
      rw [← Nat.pow_add]
      congr 1
      omega
    rw [show k + 1 - 1 - (j + 1) = k - 1 - j from by omega, e, Nat.mod_mul_right_div_self, Nat.mod_mod_of_dvd _ ⟨P.length ^ j, by rw [Nat.pow_succ, Nat.mul_comm]⟩]
theorem zdg_in (P : List (Nat × Nat)) : ∀ k x, x < P.length ^ k → ∀ s ∈ zdg P k x, s ∈ P
  | 0, _, _, s, h => (nomatch h)
  | k + 1, x, hx, s, h => by
    have h0 : 0 < P.length ^ k := by
      rcases Nat.eq_zero_or_pos P.length with h | h
      · rw [h, Nat.zero_pow (by omega)] at hx
        omega
      · exact Nat.pow_pos h
    rcases List.mem_cons.mp h with rfl | h
    · exact getD_in _ P _ (Nat.div_lt_of_lt_mul (by rw [Nat.pow_succ] at hx; exact hx))
    · exact zdg_in P k _ (Nat.mod_lt _ h0) s h
section ZTU
variable (S : zSD) (L : zLw) (w : zWD)
/-- couples one after another; how it ends, if each may -/
def zgx : List (Nat × Nat) → (Nat → Nat) → Option (Nat → Nat)
  | [], p => some p
  | s :: l, p => if zmw S L w s.1 s.2 (p s.1) (p s.2) = true then zgx l (zsw s.1 s.2 p) else none
def zrx (k : Nat) (p : Nat → Nat) (x : Nat) : Option (List Nat × (Nat → Nat)) := (zgx S L w (zdg (zpr (S 0 0)) k x) p).map (fun r => ((zdg (zpr (S 0 0)) k x).map (fun s => 10 * s.1 + s.2), r))
theorem zrw_x : ∀ k p, zrw S L w k p = (List.range ((zpr (S 0 0)).length ^ k)).filterMap (zrx S L w k p)
  | 0, p => rfl
  | k + 1, p => by
    have e1 : zrw S L w (k + 1) p = (zpr (S 0 0)).flatMap (zgq S L w k p) := rfl
    have e2 : (zpr (S 0 0)).flatMap (zgq S L w k p) = (List.range (zpr (S 0 0)).length).flatMap (fun i => zgq S L w k p ((zpr (S 0 0)).getD i (0, 0))) := by
      conv => lhs; rw [← lst_rng (0, 0) (zpr (S 0 0))]
      rw [List.flatMap_map]
    have e3 : (zpr (S 0 0)).length ^ (k + 1) = (zpr (S 0 0)).length * (zpr (S 0 0)).length ^ k := by rw [Nat.pow_succ, Nat.mul_comm]
    rw [e1, e2, e3, rng_mul, List.filterMap_flatMap]
    refine flat_cg _ (fun i hi => ?_)
    rw [List.mem_range] at hi
    rw [List.filterMap_map]
    unfold zgq
    have e4 : ∀ j, j < (zpr (S 0 0)).length ^ k → zdg (zpr (S 0 0)) (k + 1) (i * (zpr (S 0 0)).length ^ k + j) = (zpr (S 0 0)).getD i (0, 0) :: zdg (zpr (S 0 0)) k j := fun j hj => by
      show (zpr (S 0 0)).getD ((i * (zpr (S 0 0)).length ^ k + j) / (zpr (S 0 0)).length ^ k) (0, 0) :: zdg (zpr (S 0 0)) k ((i * (zpr (S 0 0)).length ^ k + j) % (zpr (S 0 0)).length ^ k) = _
      rw [Nat.mul_comm i, Nat.mul_add_div (by omega), Nat.mul_add_mod, Nat.div_eq_of_lt hj, Nat.mod_eq_of_lt hj, Nat.add_zero]
    by_cases hz : zmw S L w ((zpr (S 0 0)).getD i (0, 0)).1 ((zpr (S 0 0)).getD i (0, 0)).2 (p ((zpr (S 0 0)).getD i (0, 0)).1) (p ((zpr (S 0 0)).getD i (0, 0)).2) = true
    · rw [if_pos hz, zrw_x k, List.map_filterMap]
      refine fmap_cg _ (fun j hj => ?_)
      rw [List.mem_range] at hj
      show _ = zrx S L w (k + 1) p (i * (zpr (S 0 0)).length ^ k + j)
      unfold zrx
      rw [e4 j hj, zgx, if_pos hz, Option.map_map]
      rfl
    · rw [if_neg hz]
      symm
      rw [List.filterMap_eq_nil_iff]
      intro j hj
      rw [List.mem_range] at hj
      show zrx S L w (k + 1) p (i * (zpr (S 0 0)).length ^ k + j) = none
      unfold zrx
      rw [e4 j hj, zgx, if_neg hz]
      rfl
end ZTU
/-- rows by numbers below x that fit -/
def zRx (q : zSt) (k x : Nat) : List (List Nat × (Nat → Nat)) := ((List.range x).filterMap (zrx (tS q) (tL q) (tW q) k (tW q).1)).filter (fun z => zfit (tV q) z.2)
theorem zRx_rf (q : zSt) (k : Nat) : zRx q k ((zpr (tS q 0 0)).length ^ k) = zrf q k := by
  rw [zrf_eq, zrw_x]
  rfl
theorem zRx_none {q : zSt} {k x : Nat} (h : zrx (tS q) (tL q) (tW q) k (tW q).1 x = none) : zRx q k (x + 1) = zRx q k x := by
  unfold zRx
  rw [List.range_succ, List.filterMap_append]
  simp [h]
theorem zRx_out {q : zSt} {k x : Nat} {z : List Nat × (Nat → Nat)} (h : zrx (tS q) (tL q) (tW q) k (tW q).1 x = some z) (hz : ¬ zfit (tV q) z.2 = true) : zRx q k (x + 1) = zRx q k x := by
  unfold zRx
  rw [List.range_succ, List.filterMap_append, List.filter_append]
  simp [h, hz]
theorem zRx_some {q : zSt} {k x : Nat} {z : List Nat × (Nat → Nat)} (h : zrx (tS q) (tL q) (tW q) k (tW q).1 x = some z) (hz : zfit (tV q) z.2 = true) : zRx q k (x + 1) = zRx q k x ++ [z] := by
  unfold zRx
  rw [List.range_succ, List.filterMap_append, List.filter_append]
  simp [h, hz]
theorem zRx_len (q : zSt) (k x : Nat) : (zRx q k x).length ≤ x := by
  unfold zRx
  refine Nat.le_trans (List.length_filter_le _ _) (Nat.le_trans (List.length_filterMap_le _ _) ?_)
  rw [List.length_range]
  exact Nat.le_refl _
