/-! ORDERS of names: all of them, one after another -/
def zpm : Nat → List Nat → List (List Nat)
  | 0, _ => [[]]
  | d + 1, l => (List.range l.length).flatMap (fun i => (zpm d (l.eraseIdx i)).map (fun t => l.getD i 0 :: t))
theorem map_er (g : Nat → Nat) : ∀ (l : List Nat) (i : Nat), (l.map g).eraseIdx i = (l.eraseIdx i).map g
  | [], _ => rfl
  | a :: l, 0 => rfl
  | a :: l, i + 1 => congrArg (g a :: ·) (map_er g l i)
theorem map_gD (g : Nat → Nat) : ∀ (l : List Nat) (i : Nat), i < l.length → (l.map g).getD i 0 = g (l.getD i 0)
  | [], i, h => absurd h (Nat.not_lt_zero _)
  | a :: l, 0, _ => rfl
  | a :: l, i + 1, h => map_gD g l i (by simp only [List.length_cons] at h; omega)
theorem zpm_map (g : Nat → Nat) : ∀ d l, zpm d (l.map g) = (zpm d l).map (List.map g)
  | 0, _ => rfl
  | d + 1, l => by
    show (List.range (l.map g).length).flatMap (fun i => (zpm d ((l.map g).eraseIdx i)).map (fun t => (l.map g).getD i 0 :: t)) = ((List.range l.length).flatMap (fun i => (zpm d (l.eraseIdx i)).map (fun t => l.getD i 0 :: t))).map (List.map g)
    rw [List.length_map, List.map_flatMap]
    refine flat_cg _ (fun i hi => ?_)
    rw [map_er, zpm_map g d, map_gD g l i (List.mem_range.mp hi), List.map_map, List.map_map]
    rfl
theorem zpm_rng (d : Nat) (l : List Nat) : zpm d l = (zpm d (List.range l.length)).map (List.map (fun i => l.getD i 0)) := by
  rw [← zpm_map, lst_rng]
/-- the order that comes next -/
def zk1 (c : Nat → Nat → Bool) : Nat → Option Nat
  | 0 => none
  | k + 1 => if c k (k + 1) = true then some k else zk1 c k
def zj1 (c : Nat → Nat → Bool) (k : Nat) : Nat → Nat
  | 0 => 0
  | j + 1 => if c k (j + 1) = true then j + 1 else zj1 c k j
def zrv : Nat → Nat → Nat → (Nat → Nat) → (Nat → Nat)
  | 0, _, _, a => a
  | d + 1, x, y, a => if y ≤ x then a else zrv d (x + 1) (y - 1) (zsw x y a)
def zno (m : Nat) (a : Nat → Nat) : Option (Nat → Nat) := match zk1 (fun i j => decide (a i ≤ a j)) (m - 1) with
  | none => none
  | some k => some (zrv 5 (k + 1) (m - 1) (zsw k (zj1 (fun i j => decide (a i ≤ a j)) k (m - 1)) a))
theorem zk1_cg {c c' : Nat → Nat → Bool} : ∀ d, (∀ i, i ≤ d → ∀ j, j ≤ d → c i j = c' i j) → zk1 c d = zk1 c' d
  | 0, _ => rfl
  | d + 1, h => by
    show (if c d (d + 1) = true then some d else zk1 c d) = (if c' d (d + 1) = true then some d else zk1 c' d)
    rw [h d (by omega) (d + 1) (by omega), zk1_cg d (fun i hi j hj => h i (by omega) j (by omega))]
theorem zk1_lt {c : Nat → Nat → Bool} {k : Nat} : ∀ d, zk1 c d = some k → k < d ∧ c k (k + 1) = true
  | 0, h => (nomatch h)
  | d + 1, h => by
    rw [zk1] at h
    by_cases hc : c d (d + 1) = true
    · rw [if_pos hc] at h
      rw [← Option.some.inj h]
      exact ⟨by omega, hc⟩
    · rw [if_neg hc] at h
      have := zk1_lt d h
      exact ⟨by omega, this.2⟩
theorem zj1_cg {c c' : Nat → Nat → Bool} {k : Nat} : ∀ d, (∀ j, j ≤ d → c k j = c' k j) → zj1 c k d = zj1 c' k d
  | 0, _ => rfl
  | d + 1, h => by
    show (if c k (d + 1) = true then d + 1 else zj1 c k d) = (if c' k (d + 1) = true then d + 1 else zj1 c' k d)
    rw [h (d + 1) (by omega), zj1_cg d (fun j hj => h j (by omega))]
theorem zj1_le {c : Nat → Nat → Bool} {k : Nat} : ∀ d, zj1 c k d ≤ d
  | 0 => Nat.le_refl _
  | d + 1 => by
    rw [zj1]
    split
    · exact Nat.le_refl _
    · have := zj1_le (c := c) (k := k) d
      omega
theorem zsw_co (g a : Nat → Nat) (x y : Nat) : zsw x y (fun i => g (a i)) = fun i => g (zsw x y a i) := by
  funext i
  unfold zsw
  by_cases h1 : i = x
  · rw [if_pos h1, if_pos h1]
  · rw [if_neg h1, if_neg h1]
    by_cases h2 : i = y
    · rw [if_pos h2, if_pos h2]
    · rw [if_neg h2, if_neg h2]
theorem zrv_co (g : Nat → Nat) : ∀ d x y (a : Nat → Nat), zrv d x y (fun i => g (a i)) = fun i => g (zrv d x y a i)
  | 0, _, _, _ => rfl
  | d + 1, x, y, a => by
    rw [zrv, zrv]
    split
    · rfl
    · rw [zsw_co]
      exact zrv_co g d _ _ _
theorem zno_co {m : Nat} {g a : Nat → Nat} (h : ∀ i, i < m → ∀ j, j < m → decide (g (a i) ≤ g (a j)) = decide (a i ≤ a j)) : zno m (fun i => g (a i)) = (zno m a).map (fun b i => g (b i)) := by
  cases m with
  | zero => rfl
  | succ m =>
    unfold zno
    have e1 : zk1 (fun i j => decide (g (a i) ≤ g (a j))) (m + 1 - 1) = zk1 (fun i j => decide (a i ≤ a j)) (m + 1 - 1) := zk1_cg _ (fun i hi j hj => h i (by omega) j (by omega))
    rw [e1]
    cases hk : zk1 (fun i j => decide (a i ≤ a j)) (m + 1 - 1) with
    | none => rfl
    | some k =>
      have hkl := (zk1_lt _ hk).1
      have e2 : zj1 (fun i j => decide (g (a i) ≤ g (a j))) k (m + 1 - 1) = zj1 (fun i j => decide (a i ≤ a j)) k (m + 1 - 1) := zj1_cg _ (fun j hj => h k (by omega) j (by omega))
      show some (zrv 5 (k + 1) (m + 1 - 1) (zsw k (zj1 (fun i j => decide (g (a i) ≤ g (a j))) k (m + 1 - 1)) (fun i => g (a i)))) = _
      rw [e2, zsw_co, zrv_co]
      rfl
/-- rows, each the one that comes next -/
def zchn (m : Nat) : List (List Nat) → Bool
  | [] => false
  | l :: r => match r with
    | [] => (zno m (fun i => l.getD i 0)).isNone
    | l' :: _ => (match zno m (fun i => l.getD i 0) with
      | none => false
      | some a => decide ((List.range m).map a = l')) && zchn m r
theorem zchn_all : ∀ m, m < 6 → zchn m (zpm m (List.range m)) = true := by decide +kernel
theorem zpm_len : ∀ m, m < 6 → (zpm m (List.range m)).all (fun l => decide (l.length = m) && l.all (fun v => decide (v < m))) = true := by decide +kernel
theorem zchn_get {m : Nat} : ∀ (P : List (List Nat)), zchn m P = true → ∀ i, i < P.length → (i + 1 = P.length → zno m (fun j => (P.getD i []).getD j 0) = none) ∧ (i + 1 < P.length → ∃ a, zno m (fun j => (P.getD i []).getD j 0) = some a ∧ (List.range m).map a = P.getD (i + 1) [])
  | [], h, _, _ => (nomatch h)
  | [l], h, i, hi => by
    obtain rfl : i = 0 := by simp only [List.length_cons, List.length_nil] at hi; omega
    refine ⟨fun _ => ?_, fun z => absurd z (by simp)⟩
    exact Option.isNone_iff_eq_none.mp h
  | l :: l' :: r, h, i, hi => by
    have h' : ((match zno m (fun i => l.getD i 0) with
      | none => false
      | some a => decide ((List.range m).map a = l')) && zchn m (l' :: r)) = true := h
    obtain ⟨h1, h2⟩ := Bool.and_eq_true_iff.mp h'
    cases i with
    | zero =>
      refine ⟨fun z => absurd z (by simp), fun _ => ?_⟩
      show ∃ a, zno m (fun j => l.getD j 0) = some a ∧ (List.range m).map a = l'
      cases hz : zno m (fun j => l.getD j 0) with
      | none => rw [hz] at h1; exact (nomatch h1)
      | some a =>
        rw [hz] at h1
        exact ⟨a, rfl, of_decide_eq_true h1⟩
    | succ i =>
      have := zchn_get (l' :: r) h2 i (by simp only [List.length_cons] at hi ⊢; omega)
      refine ⟨fun z => this.1 (by simp only [List.length_cons] at z ⊢; omega), fun z => this.2 (by simp only [List.length_cons] at z ⊢; omega)⟩
/-- the same for names in a row that goes up -/
theorem zpm_next {m : Nat} (hm : m ≤ 5) {l : List Nat} (hl : l.length = m) (hup : ∀ i, i < m → ∀ j, j < m → decide (l.getD i 0 ≤ l.getD j 0) = decide (i ≤ j)) : zpm m l ≠ [] ∧ (∀ t ∈ zpm m l, t.length = m ∧ ∀ j, j < m → t.getD j 0 ∈ l) ∧ ∀ i, i < (zpm m l).length → ∃ u : Nat → Nat, (∀ j, j < m → u j = ((zpm m l).getD i []).getD j 0) ∧ (i + 1 = (zpm m l).length → zno m u = none) ∧ (i + 1 < (zpm m l).length → ∃ a, zno m u = some a ∧ ∀ j, j < m → a j = ((zpm m l).getD (i + 1) []).getD j 0) := by
  have e := zpm_rng m l
  rw [hl] at e
  have hall := List.all_eq_true.mp (zpm_len m (by omega))
  have hc := zchn_all m (by omega)
  have hin : ∀ t ∈ zpm m (List.range m), t.length = m ∧ ∀ j, j < m → t.getD j 0 < m := fun t ht => by
    obtain ⟨h1, h2⟩ := Bool.and_eq_true_iff.mp (hall t ht)
    have h1 := of_decide_eq_true h1
    exact ⟨h1, fun j hj => of_decide_eq_true (List.all_eq_true.mp h2 _ (getD_in 0 t j (by omega)))⟩
  have hlen : (zpm m l).length = (zpm m (List.range m)).length := by rw [e, List.length_map]
  have hget : ∀ i, i < (zpm m (List.range m)).length → (zpm m l).getD i [] = ((zpm m (List.range m)).getD i []).map (fun k => l.getD k 0) := fun i hi => by
    rw [e]
    simp [List.getD_eq_getElem?_getD, hi]
  have hgg : ∀ i, i < (zpm m (List.range m)).length → ∀ j, j < m → ((zpm m l).getD i []).getD j 0 = l.getD (((zpm m (List.range m)).getD i []).getD j 0) 0 := fun i hi j hj => by
    rw [hget i hi, map_gD _ _ _ (by rw [(hin _ (getD_in [] _ i hi)).1]; exact hj)]
  refine ⟨fun z => ?_, fun t ht => ?_, fun i hi => ?_⟩
  · have h0 : (zpm m (List.range m)).length = 0 := by rw [← hlen, z]; rfl
    have h1 := List.eq_nil_of_length_eq_zero h0
    rw [h1] at hc
    exact (nomatch hc)
  · rw [e] at ht
    obtain ⟨s, hs, rfl⟩ := List.mem_map.mp ht
    obtain ⟨h1, h2⟩ := hin s hs
    refine ⟨by rw [List.length_map]; exact h1, fun j hj => ?_⟩
    rw [map_gD _ _ _ (by omega)]
    exact getD_in 0 l _ (by rw [hl]; exact h2 j hj)
  · rw [hlen] at hi ⊢
    obtain ⟨n1, n2⟩ := zchn_get _ hc i hi
    obtain ⟨σ, hσ⟩ : ∃ σ, (zpm m (List.range m)).getD i [] = σ := ⟨_, rfl⟩
    have hσl := hin σ (by rw [← hσ]; exact getD_in [] _ i hi)
    rw [hσ] at n1 n2
    have hcmp : ∀ u, u < m → ∀ v, v < m → decide (l.getD (σ.getD u 0) 0 ≤ l.getD (σ.getD v 0) 0) = decide (σ.getD u 0 ≤ σ.getD v 0) := fun u hu v hv => hup _ (hσl.2 u hu) _ (hσl.2 v hv)
    have ez : zno m (fun j => l.getD (σ.getD j 0) 0) = (zno m (fun j => σ.getD j 0)).map (fun b j => l.getD (b j) 0) := zno_co (g := fun k => l.getD k 0) hcmp
    refine ⟨fun j => l.getD (σ.getD j 0) 0, fun j hj => by rw [hgg i hi j hj, hσ], fun z => by rw [ez, n1 z]; rfl, fun z => ?_⟩
    obtain ⟨a, ha1, ha2⟩ := n2 z
    refine ⟨fun j => l.getD (a j) 0, by rw [ez, ha1]; rfl, fun j hj => ?_⟩
    rw [hgg (i + 1) z j hj, ← ha2, map_getD hj]
