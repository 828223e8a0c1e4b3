/-! THOSE THAT SWAPS REACH: the row grows -/
abbrev zQe : Type := Nat × Nat × Int32
theorem getD_l {α : Type} (d : α) : ∀ (l l' : List α) (i : Nat), i < l.length → (l ++ l').getD i d = l.getD i d
  | [], _, i, h => absurd h (Nat.not_lt_zero _)
  | a :: l, l', 0, _ => rfl
  | a :: l, l', i + 1, h => getD_l d l l' i (by simp only [List.length_cons] at h; omega)
theorem mem_getD {α : Type} (d : α) {x : α} : ∀ (l : List α), x ∈ l → ∃ i, i < l.length ∧ l.getD i d = x
  | [], h => (nomatch h)
  | a :: l, h => by
    rcases List.mem_cons.mp h with rfl | h
    · exact ⟨0, by simp only [List.length_cons]; omega, rfl⟩
    · obtain ⟨i, hi, e⟩ := mem_getD d l h
      exact ⟨i + 1, by simp only [List.length_cons]; omega, e⟩
/-- rows in order: codes of all names, no code twice, how far -/
def zQo (n : Nat) (Q : List zQe) : Prop := (∀ e ∈ Q, zAr n e.1) ∧ (∀ a b, a < b → b < Q.length → (Q.getD a (0, 0, 0)).1 ≠ (Q.getD b (0, 0, 0)).1) ∧ ∀ j, j < Q.length → (Q.getD j (0, 0, 0)).2.1 ≤ j ∧ (0 < j → 0 < (Q.getD j (0, 0, 0)).2.1)
theorem zQo_len {n : Nat} (hn : n ≤ 6) {Q : List zQe} (h : zQo n Q) : Q.length ≤ 720 := by
  by_cases hl : Q.length ≤ 720
  · exact hl
  · have hin : ∀ i, i ≤ 720 → zAr n (Q.getD i (0, 0, 0)).1 := fun i hi => h.1 _ (getD_in _ Q i (by omega))
    obtain ⟨a, b, hab, hb, e⟩ := zpig 720 (fun i => zK n (Q.getD i (0, 0, 0)).1) (fun i hi => zK_lt hn (hin i hi))
    exact absurd (zK_inj hn (hin a (by omega)) (hin b hb) e) (h.2.1 a b hab (by omega))
theorem zQo_one {n : Nat} {Q : List zQe} (h : zQo n Q) {e e' : zQe} (he : e ∈ Q) (he' : e' ∈ Q) (h1 : e.1 = e'.1) : e = e' := by
  obtain ⟨i, hi, ei⟩ := mem_getD (0, 0, 0) Q he
  obtain ⟨j, hj, ej⟩ := mem_getD (0, 0, 0) Q he'
  rcases Nat.lt_trichotomy i j with hij | hij | hij
  · exact absurd (by rw [ei, ej, h1]) (h.2.1 i j hij hj)
  · rw [← ei, ← ej, hij]
  · exact absurd (by rw [ei, ej, h1]) (h.2.1 j i hij hi)
theorem zQo_add {n : Nat} {Q : List zQe} (h : zQo n Q) {e : zQe} (he : zAr n e.1) (hnew : ∀ z ∈ Q, z.1 ≠ e.1) (h1 : e.2.1 ≤ Q.length) (h2 : 0 < Q.length → 0 < e.2.1) : zQo n (Q ++ [e]) := by
  have hl : (Q ++ [e]).length = Q.length + 1 := by rw [List.length_append]; rfl
  refine ⟨fun z hz => ?_, fun a b hab hb => ?_, fun j hj => ?_⟩
  · rcases List.mem_append.mp hz with hz | hz
    · exact h.1 z hz
    · rw [List.mem_singleton.mp hz]
      exact he
  · rw [hl] at hb
    rw [getD_l _ Q _ a (by omega), getD_ap _ _ Q b (by omega)]
    by_cases eb : b = Q.length
    · rw [if_pos eb]
      exact hnew _ (getD_in _ Q a (by omega))
    · rw [if_neg eb]
      exact h.2.1 a b hab (by omega)
  · rw [hl] at hj
    rw [getD_ap _ _ Q j (by omega)]
    by_cases ej : j = Q.length
    · rw [if_pos ej, ej]
      exact ⟨h1, h2⟩
    · rw [if_neg ej]
      exact h.2.2 j (by omega)
section ZRE
variable (S : zSD) (L : zLw) (w : zWD)
/-- one couple from one of the row -/
def zgs (e : zQe) (Q : List zQe) (s : Nat × Nat) : List zQe := if (zmw S L w s.1 s.2 (zfg e.1 s.1) (zfg e.1 s.2) && !(Q.any (fun z => z.1 == zcd (zsw s.1 s.2 (zfg e.1)) (S 0 0)))) = true then Q ++ [(zcd (zsw s.1 s.2 (zfg e.1)) (S 0 0), e.2.1 + 1, if e.2.1 = 0 then nI (10 * s.1 + s.2) else e.2.2)] else Q
theorem zgo_c (e : zQe) (Q : List zQe) (s : Nat × Nat) (r : List (Nat × Nat)) : zgo S L w e Q (s :: r) = zgo S L w e (zgs S L w e Q s) r := rfl
theorem zgo_ap (e : zQe) (s : Nat × Nat) : ∀ (P : List (Nat × Nat)) (Q : List zQe), zgo S L w e Q (P ++ [s]) = zgs S L w e (zgo S L w e Q P) s
  | [], Q => rfl
  | t :: P, Q => by rw [List.cons_append, zgo_c, zgo_c, zgo_ap e s P]
theorem zgs_pre (e : zQe) (Q : List zQe) (s : Nat × Nat) : ∃ T, zgs S L w e Q s = Q ++ T := by
  unfold zgs
  split
  · exact ⟨_, rfl⟩
  · exact ⟨[], (List.append_nil _).symm⟩
theorem zgo_pre (e : zQe) : ∀ (P : List (Nat × Nat)) (Q : List zQe), ∃ T, zgo S L w e Q P = Q ++ T
  | [], Q => ⟨[], (List.append_nil _).symm⟩
  | s :: P, Q => by
    obtain ⟨T, hT⟩ := zgs_pre S L w e Q s
    obtain ⟨U, hU⟩ := zgo_pre e P (zgs S L w e Q s)
    exact ⟨T ++ U, by rw [zgo_c, hU, hT, List.append_assoc]⟩
/-- more couples keep what stands -/
theorem zgo_split (e : zQe) : ∀ (P P' : List (Nat × Nat)) (Q : List zQe), zgo S L w e Q (P ++ P') = zgo S L w e (zgo S L w e Q P) P'
  | [], _, _ => rfl
  | s :: P, P', Q => by rw [List.cons_append, zgo_c, zgo_c, zgo_split e P]
end ZRE
section ZRF
variable {S : zSD} {L : zLw} {w : zWD}
theorem zgs_ok (h8 : S 0 0 ≤ 8) {Q : List zQe} (h : zQo (S 0 0) Q) {k : Nat} (hk : k < Q.length) {s : Nat × Nat} (hs : s.1 < S 0 0 ∧ s.2 < S 0 0) : zQo (S 0 0) (zgs S L w (Q.getD k (0, 0, 0)) Q s) := by
  have he := h.1 _ (getD_in (0, 0, 0) Q k hk)
  have hf := (h.2.2 k hk).1
  unfold zgs
  split
  · rename_i hc
    have hc2 := (Bool.and_eq_true_iff.mp hc).2
    refine zQo_add h (zAr_of h8 (zar_sw he.2 hs.1 hs.2)) (fun z hz e => ?_) (show _ + 1 ≤ _ from by omega) (fun _ => Nat.succ_pos _)
    have : Q.any (fun z => z.1 == zcd (zsw s.1 s.2 (zfg (Q.getD k (0, 0, 0)).1)) (S 0 0)) = true := List.any_eq_true.mpr ⟨z, hz, beq_iff_eq.mpr e⟩
    rw [this] at hc2
    exact absurd hc2 (by decide)
  · exact h
theorem zgo_ok (h8 : S 0 0 ≤ 8) {Q0 : List zQe} {k : Nat} (hk : k < Q0.length) : ∀ (P : List (Nat × Nat)) (Q : List zQe), (∃ T, Q = Q0 ++ T) → zQo (S 0 0) Q → (∀ s ∈ P, s.1 < S 0 0 ∧ s.2 < S 0 0) → zQo (S 0 0) (zgo S L w (Q0.getD k (0, 0, 0)) Q P)
  | [], _, _, h, _ => h
  | s :: P, Q, ⟨T, hT⟩, h, hP => by
    have e : Q0.getD k (0, 0, 0) = Q.getD k (0, 0, 0) := by rw [hT, getD_l _ Q0 T k hk]
    obtain ⟨U, hU⟩ := zgs_pre S L w (Q0.getD k (0, 0, 0)) Q s
    rw [zgo_c]
    refine zgo_ok h8 hk P _ ⟨T ++ U, by rw [hU, hT, List.append_assoc]⟩ ?_ (fun t ht => hP t (List.mem_cons_of_mem _ ht))
    rw [e]
    exact zgs_ok h8 h (by rw [hT, List.length_append]; omega) (hP s List.mem_cons_self)
theorem zbq_s {k : Nat} (hk : k < (zbq S L w k).length) : zbq S L w (k + 1) = zgo S L w ((zbq S L w k).getD k (0, 0, 0)) (zbq S L w k) (zpr (S 0 0)) := by
  have e : (zbq S L w k)[k]? = some ((zbq S L w k).getD k (0, 0, 0)) := by
    rw [List.getD_eq_getElem?_getD, List.getElem?_eq_getElem hk]
    rfl
  rw [zbq, e]
theorem zbq_f {k : Nat} (hk : (zbq S L w k).length ≤ k) : zbq S L w (k + 1) = zbq S L w k := by
  have e : (zbq S L w k)[k]? = none := List.getElem?_eq_none hk
  rw [zbq, e]
theorem zbq_fix {k : Nat} (hk : (zbq S L w k).length ≤ k) : ∀ j, zbq S L w (k + j) = zbq S L w k
  | 0 => rfl
  | j + 1 => by
    have ih := zbq_fix hk j
    rw [← Nat.add_assoc, zbq_f (by rw [ih]; omega), ih]
theorem zbq_pre (k : Nat) : ∀ j, ∃ T, zbq S L w (k + j) = zbq S L w k ++ T
  | 0 => ⟨[], (List.append_nil _).symm⟩
  | j + 1 => by
    obtain ⟨T, hT⟩ := zbq_pre k j
    rcases Nat.lt_or_ge (k + j) (zbq S L w (k + j)).length with h | h
    · obtain ⟨U, hU⟩ := zgo_pre S L w ((zbq S L w (k + j)).getD (k + j) (0, 0, 0)) (zpr (S 0 0)) (zbq S L w (k + j))
      refine ⟨T ++ U, ?_⟩
      rw [← Nat.add_assoc, zbq_s h, hU, hT, List.append_assoc]
    · exact ⟨T, by rw [← Nat.add_assoc, zbq_f h, hT]⟩
theorem zbq_in {k k' : Nat} (h : k ≤ k') {e : zQe} (he : e ∈ zbq S L w k) : e ∈ zbq S L w k' := by
  obtain ⟨T, hT⟩ := zbq_pre (S := S) (L := L) (w := w) k (k' - k)
  rw [show k + (k' - k) = k' from by omega] at hT
  rw [hT]
  exact List.mem_append_left _ he
theorem zbq_ok (h8 : S 0 0 ≤ 8) (hw : zWok S w) : ∀ k, zQo (S 0 0) (zbq S L w k)
  | 0 => ⟨fun e he => by
    rw [List.mem_singleton.mp he]
    exact zAr_of h8 ⟨hw.2.2.1, hw.2.1⟩, fun a b hab hb => by
    have : (zbq S L w 0).length = 1 := rfl
    omega, fun j hj => by
    have : (zbq S L w 0).length = 1 := rfl
    obtain rfl : j = 0 := by omega
    exact ⟨Nat.le_refl _, fun z => absurd z (Nat.lt_irrefl _)⟩⟩
  | k + 1 => by
    have ih := zbq_ok h8 hw k
    rcases Nat.lt_or_ge k (zbq S L w k).length with h | h
    · rw [zbq_s h]
      exact zgo_ok h8 h _ _ ⟨[], (List.append_nil _).symm⟩ ih (fun s hs => by
        have := zpr_in (S 0 0) (by omega) s hs
        exact ⟨this.1, this.2.1⟩)
    · rw [zbq_f h]
      exact ih
end ZRF
/-- what is told of a code -/
def zsr (Q : List zQe) (g : Nat) (b : Bool) : Int32 := match Q.find? (fun e => e.1 == g) with
  | none => -1
  | some e => if b = true then nI e.2.1 else e.2.2
theorem zsr_some {n : Nat} {Q : List zQe} (h : zQo n Q) {e : zQe} (he : e ∈ Q) {g : Nat} (hg : e.1 = g) (b : Bool) : zsr Q g b = if b = true then nI e.2.1 else e.2.2 := by
  unfold zsr
  cases hf : Q.find? (fun e => e.1 == g) with
  | none => exact absurd (beq_iff_eq.mpr hg) (List.find?_eq_none.mp hf e he)
  | some e' =>
    have h1 := List.mem_of_find?_eq_some hf
    have h2' := List.find?_some hf
    have h2 : e'.1 = g := eq_of_beq h2'
    rw [zQo_one h h1 he (by rw [h2, hg])]
theorem zsr_none {Q : List zQe} {g : Nat} (h : ∀ e ∈ Q, e.1 ≠ g) (b : Bool) : zsr Q g b = -1 := by
  unfold zsr
  have : Q.find? (fun e => e.1 == g) = none := List.find?_eq_none.mpr (fun e he z => h e he (eq_of_beq z))
  rw [this]
