/-! the SHORTEST word: which names are asked, what an order is long, the best of some -/
def zel (A : Nat) : List Nat := (List.range 8).filter (zbi A)
theorem zel_er : ∀ A, A < 256 → ∀ i, i < 8 → i < (zel A).length → zel (zcb A ((zel A).getD i 0)) = (zel A).eraseIdx i := by decide +kernel
theorem zel_up : ∀ A, A < 256 → ∀ i, i < 8 → ∀ j, j < 8 → i < (zel A).length → j < (zel A).length → decide ((zel A).getD i 0 ≤ (zel A).getD j 0) = decide (i ≤ j) := by decide +kernel
theorem zel_ln : ∀ A, A < 256 → (zel A).length = zcu (zbi A) 8 := by decide +kernel
theorem zel_cb : ∀ A, A < 256 → ∀ c, c < 8 → zbi A c = true → (zel (zcb A c)).length + 1 = (zel A).length := by decide +kernel
theorem zel_8 (A : Nat) : (zel A).length ≤ 8 := Nat.le_trans (List.length_filter_le _ _) (by decide)
theorem zel_in {A v : Nat} (h : v ∈ zel A) : v < 8 ∧ zbi A v = true := by
  obtain ⟨h1, h2⟩ := List.mem_filter.mp h
  exact ⟨List.mem_range.mp h1, h2⟩
theorem zel_0 {A : Nat} (hA : A < 256) (h : (zel A).length = 0) : A = 0 := bzero A hA (fun k hk => by
  cases hb : zbi A k with
  | false => rfl
  | true =>
    have : k ∈ zel A := List.mem_filter.mpr ⟨List.mem_range.mpr hk, hb⟩
    rw [List.eq_nil_of_length_eq_zero h] at this
    exact absurd this (by simp))
theorem flat_if {α β : Type} (P : α → Bool) (H : α → List β) : ∀ l : List α, (l.filter P).flatMap H = l.flatMap (fun c => if P c = true then H c else [])
  | [] => rfl
  | a :: l => by
    rw [List.filter_cons, List.flatMap_cons, ← flat_if P H l]
    cases P a <;> simp
def zpn (d A c : Nat) : List (List Nat) := if zbi A c = true then (zpm d (zel (zcb A c))).map (fun t => c :: t) else []
theorem zpm_el {d A : Nat} (hA : A < 256) : zpm (d + 1) (zel A) = (List.range 8).flatMap (zpn d A) := by
  show (List.range (zel A).length).flatMap (fun i => (zpm d ((zel A).eraseIdx i)).map (fun t => (zel A).getD i 0 :: t)) = _
  have e1 : (List.range (zel A).length).flatMap (fun i => (zpm d ((zel A).eraseIdx i)).map (fun t => (zel A).getD i 0 :: t)) = (List.range (zel A).length).flatMap (fun i => (fun c => (zpm d (zel (zcb A c))).map (fun t => c :: t)) ((zel A).getD i 0)) := flat_cg _ (fun i hi => by
    have hi := List.mem_range.mp hi
    have h8 := zel_8 A
    show _ = (zpm d (zel (zcb A ((zel A).getD i 0)))).map (fun t => (zel A).getD i 0 :: t)
    rw [zel_er A hA i (by omega) hi])
  have e2 := List.flatMap_map (f := fun i => (zel A).getD i 0) (g := fun c => (zpm d (zel (zcb A c))).map (fun t => c :: t)) (l := List.range (zel A).length)
  rw [lst_rng 0 (zel A)] at e2
  rw [e1, ← e2]
  exact flat_if (zbi A) _ _
/-- a set from its bits -/
def zsbt (P : Nat → Bool) : Nat := (P 0).toNat + 2 * (P 1).toNat + 4 * (P 2).toNat + 8 * (P 3).toNat + 16 * (P 4).toNat + 32 * (P 5).toNat + 64 * (P 6).toNat + 128 * (P 7).toNat
theorem zsbt_b : ∀ r, r < 256 → zsbt (zbi r) = r := by decide +kernel
theorem zsbt_cg {P Q : Nat → Bool} (h : ∀ k, k < 8 → P k = Q k) : zsbt P = zsbt Q := by
  unfold zsbt
  rw [h 0 (by omega), h 1 (by omega), h 2 (by omega), h 3 (by omega), h 4 (by omega), h 5 (by omega), h 6 (by omega), h 7 (by omega)]
theorem zsbt_al : ∀ b0 b1 b2 b3 b4 b5 b6 b7 : Bool, ∀ r, r = b0.toNat + 2 * b1.toNat + 4 * b2.toNat + 8 * b3.toNat + 16 * b4.toNat + 32 * b5.toNat + 64 * b6.toNat + 128 * b7.toNat → r < 256 ∧ zbi r 0 = b0 ∧ zbi r 1 = b1 ∧ zbi r 2 = b2 ∧ zbi r 3 = b3 ∧ zbi r 4 = b4 ∧ zbi r 5 = b5 ∧ zbi r 6 = b6 ∧ zbi r 7 = b7 := by
  intro b0 b1 b2 b3 b4 b5 b6 b7 r h
  subst h
  revert b0 b1 b2 b3 b4 b5 b6 b7
  decide +kernel
theorem zsbt_is (P : Nat → Bool) : zsbt P < 256 ∧ ∀ k, k < 8 → zbi (zsbt P) k = P k := by
  obtain ⟨h, h0, h1, h2, h3, h4, h5, h6, h7⟩ := zsbt_al (P 0) (P 1) (P 2) (P 3) (P 4) (P 5) (P 6) (P 7) (zsbt P) rfl
  refine ⟨h, fun k hk => ?_⟩
  rcases (by omega : k = 0 ∨ k = 1 ∨ k = 2 ∨ k = 3 ∨ k = 4 ∨ k = 5 ∨ k = 6 ∨ k = 7) with rfl | rfl | rfl | rfl | rfl | rfl | rfl | rfl
  · exact h0
  · exact h1
  · exact h2
  · exact h3
  · exact h4
  · exact h5
  · exact h6
  · exact h7
/-- the names that lie in no other one of the set -/
def zaq (S : zSD) (s k o : Nat) : Bool := zbi s k && (zbi s o && (!decide (k = o) && zii S k o))
def zas (S : zSD) (s k : Nat) : Bool := zbi s k && !zax (zaq S s k) 8
def zak (S : zSD) (s : Nat) : Nat := zsbt (zas S s)
theorem zas_b {S : zSD} {s k : Nat} (h : zas S s k = true) : zbi s k = true := (Bool.and_eq_true_iff.mp h).1
theorem zak_lt (S : zSD) (s : Nat) : zak S s < 256 := (zsbt_is _).1
theorem zak_b (S : zSD) (s : Nat) {k : Nat} (hk : k < 8) : zbi (zak S s) k = zas S s k := (zsbt_is _).2 k hk
theorem flt_cu (P : Nat → Bool) : ∀ n, ((List.range n).filter P).length = zcu P n
  | 0 => rfl
  | n + 1 => by
    rw [List.range_succ, List.filter_append, List.length_append, flt_cu P n]
    cases h : P n with
    | true => rw [zcu_t h]; simp [h]
    | false => rw [zcu_f h]; simp [h]
theorem flt_up {P : Nat → Bool} {n : Nat} : ∀ m, n ≤ m → (∀ k, n ≤ k → k < m → P k = false) → (List.range m).filter P = (List.range n).filter P
  | 0, h, _ => by
    obtain rfl : n = 0 := by omega
    rfl
  | m + 1, h, hp => by
    by_cases e : n = m + 1
    · rw [e]
    · rw [List.range_succ, List.filter_append, flt_up m (by omega) (fun k h1 h2 => hp k h1 (by omega))]
      simp [hp m (by omega) (by omega)]
theorem zak_el {S : zSD} {s : Nat} (h8 : S 0 0 ≤ 8) (hs : s < 256) (hn : s < 2 ^ S 0 0) : zel (zak S s) = (List.range (S 0 0)).filter (zas S s) := by
  have e1 : zel (zak S s) = (List.range 8).filter (zas S s) := List.filter_congr (fun k hk => zak_b S s (List.mem_range.mp hk))
  rw [e1]
  refine flt_up 8 h8 (fun k h1 h2 => ?_)
  cases hz : zas S s k with
  | false => rfl
  | true => exact absurd (in_lt (S 0 0) (by omega) s hs hn k h2 (zas_b hz)) (by omega)
theorem zas_cu {S : zSD} {s : Nat} (n : Nat) : zcu (zas S s) n ≤ zcu (zbi s) n := zcu_mono n (fun _ _ h => zas_b h)
theorem zcu_up {P : Nat → Bool} {n : Nat} : ∀ m, n ≤ m → zcu P n ≤ zcu P m
  | 0, h => by
    obtain rfl : n = 0 := by omega
    exact Nat.le_refl _
  | m + 1, h => by
    by_cases e : n = m + 1
    · rw [e]; exact Nat.le_refl _
    · refine Nat.le_trans (zcu_up (P := P) m (by omega)) ?_
      cases hp : P m with
      | true => rw [zcu_t hp]; omega
      | false => rw [zcu_f hp]; omega
/-- how long -/
def zlf (S : zSD) (o : Nat → Nat) : Nat → Nat
  | 0 => 0
  | k + 1 => zlf S o k + (S 3 (o k) - (if k = 0 then 0 else zcm S (o (k - 1)) (o k)))
theorem zlf_cg {S : zSD} {o o' : Nat → Nat} : ∀ k, (∀ j, j < k → o j = o' j) → zlf S o k = zlf S o' k
  | 0, _ => rfl
  | k + 1, h => by
    show zlf S o k + (S 3 (o k) - (if k = 0 then 0 else zcm S (o (k - 1)) (o k))) = zlf S o' k + (S 3 (o' k) - (if k = 0 then 0 else zcm S (o' (k - 1)) (o' k)))
    rw [zlf_cg k (fun j hj => h j (by omega)), h k (by omega), h (k - 1) (by omega)]
theorem zlf_le {S : zSD} (ho : zSok S) {o : Nat → Nat} : ∀ k, (∀ j, j < k → o j < S 0 0) → zlf S o k ≤ 9 * k
  | 0, _ => Nat.le_refl _
  | k + 1, h => by
    have h1 := zlf_le ho k (fun j hj => h j (by omega))
    have h2 := so_i ho (o k) (h k (by omega))
    show zlf S o k + (S 3 (o k) - (if k = 0 then 0 else zcm S (o (k - 1)) (o k))) ≤ 9 * (k + 1)
    omega
abbrev zgD (l : List Nat) : Nat → Nat := fun j => l.getD j 0
def zll' (S : zSD) (l : List Nat) : Nat := zlf S (zgD l) l.length
/-- the first of the shortest -/
def zbf (S : zSD) (b : Nat × List Nat) (l : List Nat) : Nat × List Nat := if zll' S l < b.1 then (zll' S l, l) else b
