/-! NUMBERS, ROUNDS -/
theorem li_0 : (0 : Int32) = nI 0 := id rfl
theorem li_1 : (1 : Int32) = nI 1 := id rfl
theorem li_2 : (2 : Int32) = nI 2 := id rfl
theorem li_3 : (3 : Int32) = nI 3 := id rfl
theorem li_4 : (4 : Int32) = nI 4 := id rfl
theorem li_5 : (5 : Int32) = nI 5 := id rfl
theorem li_6 : (6 : Int32) = nI 6 := id rfl
theorem li_7 : (7 : Int32) = nI 7 := id rfl
theorem li_8 : (8 : Int32) = nI 8 := id rfl
theorem li_9 : (9 : Int32) = nI 9 := id rfl
theorem li_10 : (10 : Int32) = nI 10 := id rfl
theorem li_11 : (11 : Int32) = nI 11 := id rfl
theorem li_12 : (12 : Int32) = nI 12 := id rfl
theorem li_13 : (13 : Int32) = nI 13 := id rfl
theorem li_14 : (14 : Int32) = nI 14 := id rfl
theorem li_15 : (15 : Int32) = nI 15 := id rfl
theorem li_16 : (16 : Int32) = nI 16 := id rfl
theorem li_17 : (17 : Int32) = nI 17 := id rfl
theorem li_18 : (18 : Int32) = nI 18 := id rfl
theorem li_19 : (19 : Int32) = nI 19 := id rfl
theorem li_20 : (20 : Int32) = nI 20 := id rfl
theorem li_21 : (21 : Int32) = nI 21 := id rfl
theorem li_22 : (22 : Int32) = nI 22 := id rfl
theorem li_23 : (23 : Int32) = nI 23 := id rfl
theorem li_24 : (24 : Int32) = nI 24 := id rfl
theorem li_25 : (25 : Int32) = nI 25 := id rfl
theorem li_26 : (26 : Int32) = nI 26 := id rfl
theorem li_27 : (27 : Int32) = nI 27 := id rfl
theorem li_28 : (28 : Int32) = nI 28 := id rfl
theorem li_29 : (29 : Int32) = nI 29 := id rfl
theorem li_30 : (30 : Int32) = nI 30 := id rfl
theorem li_31 : (31 : Int32) = nI 31 := id rfl
theorem li_32 : (32 : Int32) = nI 32 := id rfl
theorem li_36 : (36 : Int32) = nI 36 := id rfl
theorem li_39 : (39 : Int32) = nI 39 := id rfl
theorem li_40 : (40 : Int32) = nI 40 := id rfl
theorem li_45 : (45 : Int32) = nI 45 := id rfl
theorem li_46 : (46 : Int32) = nI 46 := id rfl
theorem li_48 : (48 : Int32) = nI 48 := id rfl
theorem li_50 : (50 : Int32) = nI 50 := id rfl
theorem li_57 : (57 : Int32) = nI 57 := id rfl
theorem li_60 : (60 : Int32) = nI 60 := id rfl
theorem li_63 : (63 : Int32) = nI 63 := id rfl
theorem li_64 : (64 : Int32) = nI 64 := id rfl
theorem li_72 : (72 : Int32) = nI 72 := id rfl
theorem li_73 : (73 : Int32) = nI 73 := id rfl
theorem li_90 : (90 : Int32) = nI 90 := id rfl
theorem li_96 : (96 : Int32) = nI 96 := id rfl
theorem li_97 : (97 : Int32) = nI 97 := id rfl
theorem li_99 : (99 : Int32) = nI 99 := id rfl
theorem li_100 : (100 : Int32) = nI 100 := id rfl
theorem li_120 : (120 : Int32) = nI 120 := id rfl
theorem li_122 : (122 : Int32) = nI 122 := id rfl
theorem li_200 : (200 : Int32) = nI 200 := id rfl
theorem li_255 : (255 : Int32) = nI 255 := id rfl
theorem li_256 : (256 : Int32) = nI 256 := id rfl
theorem li_257 : (257 : Int32) = nI 257 := id rfl
theorem li_258 : (258 : Int32) = nI 258 := id rfl
theorem li_259 : (259 : Int32) = nI 259 := id rfl
theorem li_700 : (700 : Int32) = nI 700 := id rfl
theorem li_720 : (720 : Int32) = nI 720 := id rfl
theorem li_950 : (950 : Int32) = nI 950 := id rfl
theorem li_1900 : (1900 : Int32) = nI 1900 := id rfl
theorem li_2920 : (2920 : Int32) = nI 2920 := id rfl
theorem li_9999 : (9999 : Int32) = nI 9999 := id rfl
theorem li_4096 : (4096 : Int32) = nI 4096 := id rfl
theorem li_12345 : (12345 : Int32) = nI 12345 := id rfl
theorem li_32767 : (32767 : Int32) = nI 32767 := id rfl
theorem zin_k {k n : Nat} (h : k < n) (hn : n < 2 ^ 31) : zin (nI k) n = true := zin_nI h hn
theorem zix_k {k : Nat} (h : k < 2 ^ 31) : zix (nI k) = k := nI_clamp h
theorem s_sub {a b : Nat} (h : b ≤ a) : nI a - nI b = nI (a - b) := by
  obtain ⟨c, rfl⟩ : ∃ c, a = c + b := ⟨a - b, by omega⟩
  rw [← nI_add, Nat.add_sub_cancel, Int32.add_sub_cancel]
theorem s_addn {a b : Nat} (h : b ≤ a) : nI a + -nI b = nI (a - b) := by
  rw [← Int32.sub_eq_add_neg, s_sub h]
section ZCM
variable {a b : Nat} {x y : zO}
theorem c_lt_t (h : a < b) (hb : b < 2 ^ 31) : zit (nI a < nI b) x y = x := zit_t (nI_lt h hb)
theorem c_lt_f (h : b ≤ a) (hb : a < 2 ^ 31) : zit (nI a < nI b) x y = y := zit_f (nI_nlt h hb)
theorem c_le_t (h : a ≤ b) (hb : b < 2 ^ 31) : zit (nI a ≤ nI b) x y = x := zit_t (nI_le h hb)
theorem c_le_f (h : b < a) (hb : a < 2 ^ 31) : zit (nI a ≤ nI b) x y = y := zit_f (nI_ge h hb)
theorem c_eq_t (h : a = b) : zit (nI a = nI b) x y = x := zit_t (by rw [h])
theorem c_eq_f (h : a ≠ b) (ha : a < 2 ^ 31) (hb : b < 2 ^ 31) : zit (nI a = nI b) x y = y := zit_f (fun e => h ((nI_eq ha hb).mp e))
theorem c_T {d : Decidable True} : @zit True d x y = x := if_pos trivial
theorem c_F {d : Decidable False} : @zit False d x y = y := if_neg (fun z => z)
end ZCM
theorem zup_upA {M : zM} {a k : Nat} {f : Nat → Int32} {v : Int32} : zup (zupA M a f) a k v = zupA M a (upd f k v) := by
  funext i j
  unfold zup zupA upd
  by_cases h : i = a
  · simp [h]
  · simp [h]
theorem zup_isA (M : zM) (a k : Nat) (v : Int32) : zup M a k v = zupA M a (upd (M a) k v) := by
  funext i j
  unfold zup zupA upd
  by_cases h : i = a
  · subst h; simp
  · simp [h]
theorem zupA_self (M : zM) (a : Nat) : zupA M a (M a) = M := by
  funext i
  unfold zupA
  by_cases h : i = a
  · rw [if_pos h, h]
  · rw [if_neg h]
theorem zupA_A {M : zM} {a : Nat} {f g : Nat → Int32} : zupA (zupA M a f) a g = zupA M a g := by
  funext i
  unfold zupA
  by_cases h : i = a
  · rw [if_pos h, if_pos h]
  · rw [if_neg h, if_neg h, if_neg h]
theorem upd_eq {f : Nat → Int32} {k : Nat} {v : Int32} : upd f k v k = v := if_pos rfl
theorem upd_ne {f : Nat → Int32} {k j : Nat} {v : Int32} (h : j ≠ k) : upd f k v j = f j := if_neg h
/-- a loop: rounds of a measure -/
theorem zwhl {α : Type} (L : Nat → α → zO) (I : Nat → α → Prop) (Q : zO → Prop)
    (hs : ∀ f d a, I d a → Q (L (f + 1) a) ∨ ∃ d' a', d' < d ∧ L (f + 1) a = L f a' ∧ I d' a') : ∀ d f a, d < f → I d a → Q (L f a) := by
  intro d
  induction d using Nat.strongRecOn with
  | ind d ih =>
    intro f a hf hi
    obtain ⟨f, rfl⟩ : ∃ g, f = g + 1 := ⟨f - 1, by omega⟩
    rcases hs f d a hi with h | ⟨d', a', hd, e, hi'⟩
    · exact h
    · rw [e]
      exact ih d' hd f a' (by omega) hi'
/-- a loop over a range -/
theorem zfor {α : Type} (n : Nat) (L : Nat → Nat → α → zO) (I : Nat → α → Prop) (Q : zO → Prop)
    (hs : ∀ f i a, i < n → I i a → Q (L (f + 1) i a) ∨ ∃ a', L (f + 1) i a = L f (i + 1) a' ∧ I (i + 1) a') (he : ∀ f a, I n a → Q (L (f + 1) n a)) {i f : Nat} {a : α} (hi : i ≤ n) (hf : n - i < f) (h : I i a) : Q (L f i a) := by
  refine zwhl (α := Nat × α) (fun f p => L f p.1 p.2) (fun d p => p.1 ≤ n ∧ d = n - p.1 ∧ I p.1 p.2) Q ?_ (n - i) f (i, a) hf ⟨hi, rfl, h⟩
  rintro f d ⟨i, a⟩ ⟨h1, h2, h3⟩
  by_cases hn : i = n
  · subst hn
    exact Or.inl (he f a h3)
  · have hi : i < n := by simp only at h1; omega
    rcases hs f i a hi h3 with h | ⟨a', e, h4⟩
    · exact Or.inl h
    · exact Or.inr ⟨n - (i + 1), (i + 1, a'), by simp only at h2; omega, e, by simp only; omega, rfl, h4⟩
/-- the same downward: from i - 1 to 0 -/
theorem zdown {α : Type} (L : Nat → Nat → α → zO) (I : Nat → α → Prop) (Q : zO → Prop)
    (hs : ∀ f i a, I (i + 1) a → Q (L (f + 1) (i + 1) a) ∨ ∃ a', L (f + 1) (i + 1) a = L f i a' ∧ I i a') (he : ∀ f a, I 0 a → Q (L (f + 1) 0 a)) {i f : Nat} {a : α} (hf : i < f) (h : I i a) : Q (L f i a) := by
  refine zwhl (α := Nat × α) (fun f p => L f p.1 p.2) (fun d p => d = p.1 ∧ I p.1 p.2) Q ?_ i f (i, a) hf ⟨rfl, h⟩
  rintro f d ⟨i, a⟩ ⟨h1, h3⟩
  cases i with
  | zero => exact Or.inl (he f a h3)
  | succ i =>
    rcases hs f i a h3 with h | ⟨a', e, h4⟩
    · exact Or.inl h
    · exact Or.inr ⟨i, (i, a'), by simp only at h1; omega, e, rfl, h4⟩
/-- how many below -/
def zcu (P : Nat → Bool) : Nat → Nat
  | 0 => 0
  | n + 1 => zcu P n + (if P n then 1 else 0)
theorem zcu_le (P : Nat → Bool) : ∀ n, zcu P n ≤ n
  | 0 => Nat.le_refl _
  | n + 1 => by
    have := zcu_le P n
    unfold zcu
    split <;> omega
/-- below 0 -/
theorem nn_toInt {k : Nat} (h : k < 2 ^ 31) : (-nI k).toInt = -(k : Int) := by
  rw [Int32.toInt_neg, nI_toInt h]
  exact Int.bmod_eq_of_le (by omega) (by omega)
theorem nn_sub {a b : Nat} (h : a ≤ b) : nI a - nI b = -nI (b - a) := by
  rw [← s_sub h, Int32.neg_sub]
theorem nn_nn {a b : Nat} (h : a ≤ b) : -nI a - -nI b = nI (b - a) := by
  rw [Int32.sub_eq_add_neg, Int32.neg_neg, Int32.add_comm, s_addn h]
section ZCN
variable {a b : Nat} {x y : zO}
theorem d_ltpn (ha : a < 2 ^ 31) (hb : b < 2 ^ 31) : zit (nI a < -nI b) x y = y := zit_f (fun e => by
  rw [Int32.lt_iff_toInt_lt, nn_toInt hb, nI_toInt ha] at e
  omega)
theorem d_ltnp (h : 0 < a) (ha : a < 2 ^ 31) (hb : b < 2 ^ 31) : zit (-nI a < nI b) x y = x := zit_t (by
  rw [Int32.lt_iff_toInt_lt, nn_toInt ha, nI_toInt hb]
  omega)
theorem d_ltnn_t (h : b < a) (ha : a < 2 ^ 31) (hb : b < 2 ^ 31) : zit (-nI a < -nI b) x y = x := zit_t (by
  rw [Int32.lt_iff_toInt_lt, nn_toInt ha, nn_toInt hb]
  omega)
theorem d_ltnn_f (h : a ≤ b) (ha : a < 2 ^ 31) (hb : b < 2 ^ 31) : zit (-nI a < -nI b) x y = y := zit_f (fun e => by
  rw [Int32.lt_iff_toInt_lt, nn_toInt ha, nn_toInt hb] at e
  omega)
theorem d_lepn (h : 0 < b) (ha : a < 2 ^ 31) (hb : b < 2 ^ 31) : zit (nI a ≤ -nI b) x y = y := zit_f (fun e => by
  rw [Int32.le_iff_toInt_le, nn_toInt hb, nI_toInt ha] at e
  omega)
theorem d_lenp (ha : a < 2 ^ 31) (hb : b < 2 ^ 31) : zit (-nI a ≤ nI b) x y = x := zit_t (by
  rw [Int32.le_iff_toInt_le, nn_toInt ha, nI_toInt hb]
  omega)
theorem n_eqpn (h : 0 < b) (ha : a < 2 ^ 31) (hb : b < 2 ^ 31) : nI a ≠ -nI b := fun e => by
  have := congrArg Int32.toInt e
  rw [nn_toInt hb, nI_toInt ha] at this
  omega
theorem d_eqpn (h : 0 < b) (ha : a < 2 ^ 31) (hb : b < 2 ^ 31) : zit (nI a = -nI b) x y = y := zit_f (n_eqpn h ha hb)
theorem d_eqnp (h : 0 < a) (ha : a < 2 ^ 31) (hb : b < 2 ^ 31) : zit (-nI a = nI b) x y = y := zit_f (fun e => n_eqpn h hb ha e.symm)
theorem d_eqnn_t (h : a = b) : zit (-nI a = -nI b) x y = x := zit_t (by rw [h])
theorem d_eqnn_f (h : a ≠ b) (ha : a < 2 ^ 31) (hb : b < 2 ^ 31) : zit (-nI a = -nI b) x y = y := zit_f (fun e => by
  have := congrArg Int32.toInt e
  rw [nn_toInt ha, nn_toInt hb] at this
  omega)
end ZCN
theorem i_lt {a b : Nat} (ha : a < 2 ^ 31) (hb : b < 2 ^ 31) : (nI a < nI b) = (a < b) := propext (nI_ltI ha hb)
theorem i_le {a b : Nat} (ha : a < 2 ^ 31) (hb : b < 2 ^ 31) : (nI a ≤ nI b) = (a ≤ b) := propext (nI_leI ha hb)
theorem i_eq {a b : Nat} (ha : a < 2 ^ 31) (hb : b < 2 ^ 31) : (nI a = nI b) = (a = b) := propext (nI_eq ha hb)
/-- far, one way -/
theorem z_abs {p q : Nat} (hp : p < 2 ^ 31) (hq : q < 2 ^ 31) : (if nI 0 ≤ nI p - nI q then nI p - nI q else nI 0 - (nI p - nI q)) = nI ((p - q) + (q - p)) := by
  by_cases h : q ≤ p
  · rw [s_sub h, if_pos (nI_le (by omega) (by omega))]
    congr 1
    omega
  · have h' : p ≤ q := by omega
    rw [nn_sub h', if_neg (fun e => by
      rw [Int32.le_iff_toInt_le, nn_toInt (by omega), nI_toInt (by omega)] at e
      omega), show nI 0 = -nI 0 from by decide, nn_nn (by omega)]
    congr 1
    omega
/-- a result that is one of two -/
theorem zit_I {c : Prop} [Decidable c] {a b : Int32} {M : zM} : zit c (zI a M) (zI b M) = zI (if c then a else b) M := by
  by_cases h : c
  · rw [zit_t h, if_pos h]
  · rw [zit_f h, if_neg h]
theorem zbo_n0 : zbo (nI 0) = true := by decide
theorem zbo_n1 : zbo (nI 1) = true := by decide
theorem z_max {p q : Nat} (hp : p < 2 ^ 31) (hq : q < 2 ^ 31) : (if nI p < nI q then nI q else nI p) = nI (max p q) := by
  by_cases h : p < q
  · rw [if_pos (nI_lt h hq), Nat.max_eq_right (by omega)]
  · rw [if_neg (nI_nlt (by omega) hp), Nat.max_eq_left (by omega)]
theorem z_min {p q : Nat} (hp : p < 2 ^ 31) (hq : q < 2 ^ 31) : (if nI q < nI p then nI q else nI p) = nI (min p q) := by
  by_cases h : q < p
  · rw [if_pos (nI_lt h hp), Nat.min_eq_right (by omega)]
  · rw [if_neg (nI_nlt (by omega) hq), Nat.min_eq_left (by omega)]
/-- a difference held against a number -/
theorem i_sle {m t k : Nat} (hm : m < 2 ^ 30) (ht : t < 2 ^ 30) (hk : k < 2 ^ 30) : (nI m - nI t ≤ nI k) = (m ≤ k + t) := by
  by_cases h : t ≤ m
  · rw [s_sub h, i_le (by omega) (by omega)]
    exact propext ⟨fun _ => by omega, fun _ => by omega⟩
  · rw [nn_sub (by omega)]
    refine propext ⟨fun _ => by omega, fun _ => ?_⟩
    rw [Int32.le_iff_toInt_le, nn_toInt (by omega), nI_toInt (by omega)]
    omega
theorem zcu_t {P : Nat → Bool} {i : Nat} (h : P i = true) : zcu P (i + 1) = zcu P i + 1 := by
  show zcu P i + (if P i then 1 else 0) = _
  rw [if_pos h]
theorem zcu_f {P : Nat → Bool} {i : Nat} (h : P i = false) : zcu P (i + 1) = zcu P i := by
  show zcu P i + (if P i then 1 else 0) = _
  rw [h]
  rfl
theorem zcu_lo {P : Nat → Bool} : ∀ {m : Nat}, (∀ i, i < m → P i = false) → zcu P m = 0
  | 0, _ => rfl
  | m + 1, h => by rw [zcu_f (h m (by omega)), zcu_lo (fun i hi => h i (by omega))]
def zsm (f : Nat → Nat) : Nat → Nat
  | 0 => 0
  | n + 1 => zsm f n + f n
/-- two of too many are the same -/
theorem zpig : ∀ (n : Nat) (f : Nat → Nat), (∀ i, i ≤ n → f i < n) → ∃ a b, a < b ∧ b ≤ n ∧ f a = f b
  | 0, f, h => absurd (h 0 (Nat.le_refl _)) (by omega)
  | n + 1, f, h => by
    by_cases hx : ∃ i, i ≤ n ∧ f i = f (n + 1)
    · obtain ⟨i, hi, e⟩ := hx
      exact ⟨i, n + 1, by omega, Nat.le_refl _, e⟩
    · have hx' : ∀ i, i ≤ n → f i ≠ f (n + 1) := fun i hi e => hx ⟨i, hi, e⟩
      have hl := h (n + 1) (Nat.le_refl _)
      obtain ⟨a, b, hab, hb, e⟩ := zpig n (fun i => if f i = n then f (n + 1) else f i) (fun i hi => by
        have h1 := h i (by omega)
        have h2 := hx' i hi
        show (if f i = n then f (n + 1) else f i) < n
        by_cases h3 : f i = n
        · rw [if_pos h3]; omega
        · rw [if_neg h3]; omega)
      refine ⟨a, b, hab, by omega, ?_⟩
      have ha := hx' a (by omega)
      have hb' := hx' b hb
      replace e : (if f a = n then f (n + 1) else f a) = (if f b = n then f (n + 1) else f b) := e
      by_cases h1 : f a = n
      · by_cases h2 : f b = n
        · rw [h1, h2]
        · rw [if_pos h1, if_neg h2] at e
          exact absurd e.symm hb'
      · by_cases h2 : f b = n
        · rw [if_neg h1, if_pos h2] at e
          exact absurd e ha
        · rw [if_neg h1, if_neg h2] at e
          exact e
