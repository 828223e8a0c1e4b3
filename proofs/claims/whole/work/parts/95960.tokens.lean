/-! TOKENS of a text: B its bytes (0 behind its end), n how many -/
def zskp (B : Nat → Nat) : Nat → Nat → Nat
  | 0, e => e
  | d + 1, e => if B e = 32 ∨ B e = 10 then zskp B d (e + 1) else e
def zeor (B : Nat → Nat) (lo hi : Nat) : Nat → Nat → Nat
  | 0, p => p
  | d + 1, p => if lo ≤ B p ∧ B p ≤ hi then zeor B lo hi d (p + 1) else p
theorem zskp_ge (B : Nat → Nat) : ∀ d e, e ≤ zskp B d e ∧ zskp B d e ≤ e + d
  | 0, e => ⟨Nat.le_refl _, Nat.le_refl _⟩
  | d + 1, e => by
    rw [zskp]
    have := zskp_ge B d (e + 1)
    split <;> omega
theorem zeor_ge (B : Nat → Nat) (lo hi : Nat) : ∀ d p, p ≤ zeor B lo hi d p ∧ zeor B lo hi d p ≤ p + d
  | 0, e => ⟨Nat.le_refl _, Nat.le_refl _⟩
  | d + 1, e => by
    rw [zeor]
    have := zeor_ge B lo hi d (e + 1)
    split <;> omega
theorem zeor_in (B : Nat → Nat) (lo hi : Nat) : ∀ d p j, p ≤ j → j < zeor B lo hi d p → lo ≤ B j ∧ B j ≤ hi
  | 0, p, j, h1, h2 => by
    have : j < p := h2
    omega
  | d + 1, p, j, h1, h2 => by
    rw [zeor] at h2
    by_cases h : lo ≤ B p ∧ B p ≤ hi
    · rw [if_pos h] at h2
      by_cases e : j = p
      · rw [e]; exact h
      · exact zeor_in B lo hi d (p + 1) j (by omega) h2
    · rw [if_neg h] at h2
      omega
def ztS (B : Nat → Nat) (n e : Nat) : Nat := zskp B (n - e) e
def zsgn : List Nat := [59, 40, 41, 43, 45, 42, 47, 60, 61]
def ztE (B : Nat → Nat) (n s : Nat) : Nat := if n ≤ s then s else if 97 ≤ B s ∧ B s ≤ 122 then zeor B 97 122 (n - s) s else if 48 ≤ B s ∧ B s ≤ 57 then zeor B 48 57 (n - s) s else s + 1
def ztK (B : Nat → Nat) (n s : Nat) : Nat := if n ≤ s then 256 else if 97 ≤ B s ∧ B s ≤ 122 then 257 else if 48 ≤ B s ∧ B s ≤ 57 then 258 else if B s ∈ zsgn then B s else 259
/-- where the token before the i-th ended -/
def zpe (B : Nat → Nat) (n : Nat) : Nat → Nat
  | 0 => 0
  | i + 1 => ztE B n (ztS B n (zpe B n i))
def tkst (B : Nat → Nat) (n i : Nat) : Nat := ztS B n (zpe B n i)
def tkk (B : Nat → Nat) (n i : Nat) : Nat := ztK B n (tkst B n i)
def tkl (B : Nat → Nat) (n i : Nat) : Nat := zpe B n (i + 1) - tkst B n i
def zdgv (f : Nat → Nat) : Nat → Nat
  | 0 => 0
  | k + 1 => 10 * zdgv f k + (f k - 48)
def tkv (B : Nat → Nat) (n i : Nat) : Nat := zdgv (fun k => B (tkst B n i + k)) (min (tkl B n i) 4)
theorem zpe_s (B : Nat → Nat) (n i : Nat) : zpe B n (i + 1) = ztE B n (tkst B n i) := rfl
section ZTK
variable {B : Nat → Nat} {n : Nat}
theorem ztS_le {e : Nat} (h : e ≤ n) : e ≤ ztS B n e ∧ ztS B n e ≤ n := by
  have := zskp_ge B (n - e) e
  unfold ztS
  omega
theorem ztE_le {s : Nat} (h : s ≤ n) : s ≤ ztE B n s ∧ ztE B n s ≤ n := by
  unfold ztE
  have h1 := zeor_ge B 97 122 (n - s) s
  have h2 := zeor_ge B 48 57 (n - s) s
  split
  · omega
  · split
    · omega
    · split <;> omega
theorem zpe_le : ∀ i, zpe B n i ≤ n
  | 0 => Nat.zero_le _
  | i + 1 => (ztE_le (ztS_le (zpe_le i)).2).2
theorem tkst_le (i : Nat) : zpe B n i ≤ tkst B n i ∧ tkst B n i ≤ n := ztS_le (zpe_le i)
theorem tke_le (i : Nat) : tkst B n i ≤ zpe B n (i + 1) ∧ zpe B n (i + 1) ≤ n := ztE_le (tkst_le i).2
theorem ztE_lt {s : Nat} (h : s < n) : s < ztE B n s := by
  unfold ztE
  obtain ⟨d, hd⟩ : ∃ d, n - s = d + 1 := ⟨n - s - 1, by omega⟩
  rw [if_neg (by omega), hd]
  by_cases h1 : 97 ≤ B s ∧ B s ≤ 122
  · rw [if_pos h1, zeor, if_pos h1]
    have := (zeor_ge B 97 122 d (s + 1)).1
    omega
  · rw [if_neg h1]
    by_cases h2 : 48 ≤ B s ∧ B s ≤ 57
    · rw [if_pos h2, zeor, if_pos h2]
      have := (zeor_ge B 48 57 d (s + 1)).1
      omega
    · rw [if_neg h2]
      omega
theorem tkk_end {i : Nat} : tkk B n i = 256 ↔ tkst B n i = n := by
  have hs := (tkst_le (B := B) (n := n) i).2
  unfold tkk ztK
  by_cases h : n ≤ tkst B n i
  · rw [if_pos h]
    exact ⟨fun _ => by omega, fun _ => rfl⟩
  · rw [if_neg h]
    constructor
    · intro z
      exfalso
      revert z
      split
      · omega
      · split
        · omega
        · split
          · next h3 =>
            intro z
            rw [z] at h3
            revert h3
            decide
          · omega
    · intro z; omega
theorem zpe_ge : ∀ i, zpe B n i < n → i ≤ zpe B n i
  | 0, _ => Nat.zero_le _
  | i + 1, h => by
    have h1 := tkst_le (B := B) (n := n) i
    have h2 := tke_le (B := B) (n := n) i
    have h3 := zpe_ge i (by omega)
    have h4 := ztE_lt (B := B) (n := n) (s := tkst B n i) (by omega)
    rw [zpe_s] at *
    omega
/-- a token that is there has a number below the text's length -/
theorem tk_lt {i : Nat} (h : tkk B n i ≠ 256) : i < n ∧ tkst B n i < n ∧ tkst B n i < zpe B n (i + 1) := by
  have hs := tkst_le (B := B) (n := n) i
  have hne : tkst B n i ≠ n := fun z => h (tkk_end.mpr z)
  have h1 := zpe_ge (B := B) (n := n) i (by omega)
  have h2 := ztE_lt (B := B) (n := n) (s := tkst B n i) (by omega)
  rw [← zpe_s] at h2
  exact ⟨by omega, by omega, h2⟩
theorem tk_word {i : Nat} (h : tkk B n i = 257) : ∀ j, j < tkl B n i → 97 ≤ B (tkst B n i + j) ∧ B (tkst B n i + j) ≤ 122 := fun j hj => by
  have hlt := tk_lt (B := B) (n := n) (i := i) (by omega)
  unfold tkk ztK at h
  rw [if_neg (by omega)] at h
  have hw : 97 ≤ B (tkst B n i) ∧ B (tkst B n i) ≤ 122 := by
    by_cases hw : 97 ≤ B (tkst B n i) ∧ B (tkst B n i) ≤ 122
    · exact hw
    · exfalso
      rw [if_neg hw] at h
      revert h
      split
      · omega
      · split
        · next h3 =>
          intro z
          rw [z] at h3
          revert h3
          decide
        · omega
  unfold tkl at hj
  rw [zpe_s, ztE, if_neg (by omega), if_pos hw] at hj
  exact zeor_in B 97 122 (n - tkst B n i) (tkst B n i) _ (by omega) (by omega)
theorem tk_num {i : Nat} (h : tkk B n i = 258) : ∀ j, j < tkl B n i → 48 ≤ B (tkst B n i + j) ∧ B (tkst B n i + j) ≤ 57 := fun j hj => by
  have hlt := tk_lt (B := B) (n := n) (i := i) (by omega)
  unfold tkk ztK at h
  rw [if_neg (by omega)] at h
  have hw : ¬ (97 ≤ B (tkst B n i) ∧ B (tkst B n i) ≤ 122) := fun z => by
    rw [if_pos z] at h
    omega
  rw [if_neg hw] at h
  have hd : 48 ≤ B (tkst B n i) ∧ B (tkst B n i) ≤ 57 := by
    by_cases hd : 48 ≤ B (tkst B n i) ∧ B (tkst B n i) ≤ 57
    · exact hd
    · exfalso
      rw [if_neg hd] at h
      revert h
      split
      · next h3 =>
        intro z
        rw [z] at h3
        revert h3
        decide
      · omega
  unfold tkl at hj
  rw [zpe_s, ztE, if_neg (by omega), if_neg hw, if_pos hd] at hj
  exact zeor_in B 48 57 (n - tkst B n i) (tkst B n i) _ (by omega) (by omega)
theorem zdgv_lt {f : Nat → Nat} : ∀ k, (∀ j, j < k → 48 ≤ f j ∧ f j ≤ 57) → zdgv f k < 10 ^ k
  | 0, _ => by show (0 : Nat) < 1; decide
  | k + 1, h => by
    have h1 := zdgv_lt k (fun j hj => h j (by omega))
    have h2 := h k (by omega)
    show 10 * zdgv f k + (f k - 48) < 10 ^ (k + 1)
    rw [Nat.pow_succ]
    omega
theorem tkv_lt {i : Nat} (h : tkk B n i = 258) : tkv B n i ≤ 9999 := by
  have h1 := zdgv_lt (f := fun k => B (tkst B n i + k)) (min (tkl B n i) 4) (fun j hj => tk_num h j (by omega))
  have h2 : 10 ^ (min (tkl B n i) 4) ≤ 10 ^ 4 := Nat.pow_le_pow_right (by decide) (by omega)
  unfold tkv
  have : (10 : Nat) ^ 4 = 10000 := by decide
  omega
end ZTK
