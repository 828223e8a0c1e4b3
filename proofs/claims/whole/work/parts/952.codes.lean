/-! ARRANGEMENTS AND THEIR CODES -/
theorem zcd_s {p : Nat → Nat} {n : Nat} : zcd p (n + 1) = zcd p n + p n * 8 ^ n := rfl
theorem zcd_lt {p : Nat → Nat} : ∀ n, (∀ i, i < n → p i < 8) → zcd p n < 8 ^ n
  | 0, _ => Nat.zero_lt_one
  | n + 1, h => by
    have h1 := zcd_lt n (fun i hi => h i (by omega))
    have h2 := h n (by omega)
    have h3 : p n * 8 ^ n ≤ 7 * 8 ^ n := Nat.mul_le_mul_right _ (by omega)
    rw [zcd_s, Nat.pow_succ]
    omega
theorem zcd_cg {p p' : Nat → Nat} : ∀ n, (∀ i, i < n → p i = p' i) → zcd p n = zcd p' n
  | 0, _ => rfl
  | n + 1, h => by rw [zcd_s, zcd_s, zcd_cg n (fun i hi => h i (by omega)), h n (by omega)]
theorem zcd_fg {p : Nat → Nat} : ∀ n, (∀ i, i < n → p i < 8) → ∀ i, i < n → zfg (zcd p n) i = p i
  | 0, _, i, hi => absurd hi (Nat.not_lt_zero _)
  | n + 1, h, i, hi => by
    have h1 := zcd_lt n (fun i hi => h i (by omega))
    have h2 := h n (by omega)
    have h0 : 0 < 8 ^ n := Nat.pow_pos (by decide)
    unfold zfg
    rw [zcd_s]
    by_cases e : i = n
    · subst e
      rw [Nat.add_mul_div_right _ _ h0, Nat.div_eq_of_lt h1, Nat.zero_add, Nat.mod_eq_of_lt h2]
    · have ih := zcd_fg n (fun i hi => h i (by omega)) i (by omega)
      unfold zfg at ih
      have e8 : p n * 8 ^ n = (p n * 8 ^ (n - i - 1) * 8) * 8 ^ i := by
        rw [Nat.mul_assoc, Nat.mul_assoc]
        congr 1
        rw [← Nat.pow_succ', ← Nat.pow_add]
        congr 1
        omega
      rw [e8, Nat.add_mul_div_right _ _ (Nat.pow_pos (by decide)), Nat.add_mul_mod_self_right, ih]
theorem zcd_of (c : Nat) : ∀ n, zcd (zfg c) n = c % 8 ^ n
  | 0 => by
    rw [Nat.pow_zero, Nat.mod_one]
    rfl
  | n + 1 => by
    rw [zcd_s, zcd_of c n, Nat.mod_pow_succ, Nat.mul_comm]
    rfl
theorem zcd_at {c n : Nat} (h : c < 8 ^ n) : zcd (zfg c) n = c := by rw [zcd_of, Nat.mod_eq_of_lt h]
theorem zfg_lt (c i : Nat) : zfg c i < 8 := Nat.mod_lt _ (by decide)
theorem zcd_ext {c c' n : Nat} (h : c < 8 ^ n) (h' : c' < 8 ^ n) (e : ∀ i, i < n → zfg c i = zfg c' i) : c = c' := by
  rw [← zcd_at h, ← zcd_at h']
  exact zcd_cg n e
theorem pow8 {n : Nat} (h : n ≤ 8) : 8 ^ n ≤ 16777216 := Nat.pow_le_pow_right (n := 8) (by decide) h
/-- one to one is onto, and back -/
theorem inj_onto {n : Nat} {p : Nat → Nat} (h : ∀ i, i < n → p i < n) (hi : ∀ i, i < n → ∀ j, j < n → p i = p j → i = j) {v : Nat} (hv : v < n) : ∃ i, i < n ∧ p i = v := by
  by_cases hx : ∃ i, i < n ∧ p i = v
  · exact hx
  · have hx' : ∀ i, i < n → p i ≠ v := fun i h1 h2 => hx ⟨i, h1, h2⟩
    obtain ⟨m, rfl⟩ : ∃ m, n = m + 1 := ⟨n - 1, by omega⟩
    obtain ⟨a, b, hab, hb, e⟩ := zpig m (fun i => if v < p i then p i - 1 else p i) (fun i hm => by
      have h1 := h i (by omega)
      have h2 := hx' i (by omega)
      show (if v < p i then p i - 1 else p i) < m
      by_cases h3 : v < p i
      · rw [if_pos h3]; omega
      · rw [if_neg h3]; omega)
    have ha' := hx' a (by omega)
    have hb' := hx' b (by omega)
    replace e : (if v < p a then p a - 1 else p a) = (if v < p b then p b - 1 else p b) := e
    have e2 : p a = p b := by
      by_cases h1 : v < p a
      · by_cases h2 : v < p b
        · rw [if_pos h1, if_pos h2] at e; omega
        · rw [if_pos h1, if_neg h2] at e; omega
      · by_cases h2 : v < p b
        · rw [if_neg h1, if_pos h2] at e; omega
        · rw [if_neg h1, if_neg h2] at e; omega
    have := hi a (by omega) b (by omega) e2
    omega
theorem onto_inj {n : Nat} {p : Nat → Nat} (ho : ∀ v, v < n → ∃ i, i < n ∧ p i = v) : ∀ i, i < n → ∀ j, j < n → p i < n → p i = p j → i = j := by
  obtain ⟨g, hg⟩ : ∃ g : Nat → Nat, ∀ v, v < n → g v < n ∧ p (g v) = v := ⟨fun v => if h : v < n then Classical.choose (ho v h) else 0, fun v hv => by
    show (if h : v < n then Classical.choose (ho v h) else 0) < n ∧ p (if h : v < n then Classical.choose (ho v h) else 0) = v
    rw [dif_pos hv]
    exact Classical.choose_spec (ho v hv)⟩
  have onto := fun v (hv : v < n) => inj_onto (p := g) (fun i hi => (hg i hi).1) (fun i hi j hj e => by rw [← (hg i hi).2, ← (hg j hj).2, e]) hv
  intro i hi j hj hp e
  obtain ⟨u, hu, eu⟩ := onto i hi
  obtain ⟨v, hv, ev⟩ := onto j hj
  have h1 := (hg u hu).2
  have h2 := (hg v hv).2
  rw [eu] at h1
  rw [ev] at h2
  rw [← eu, ← ev, ← h1, ← h2, e]
/-- numbers and bits -/
theorem thr3 : ∀ i, i < 9 → (((3 * nI i) &&& 31).toBitVec.smod 32).toNat = 3 * i := by decide +kernel
theorem p8_2 (i : Nat) : 2 ^ (3 * i) = 8 ^ i := by rw [Nat.pow_mul]
theorem shr8 {c i : Nat} (hc : c < 2 ^ 31) (hi : i < 9) : nI c >>> ((3 * nI i) &&& 31) = nI (c / 8 ^ i) := by
  apply Int32.toInt_inj.mp
  have hd : c / 8 ^ i ≤ c := Nat.div_le_self _ _
  rw [pk_shr _ _ (3 * i) (thr3 i hi), nI_toInt hc, nI_toInt (by omega), ← p8_2, ← Nat.shiftRight_eq_div_pow]
  rfl
theorem and7 {c : Nat} (hc : c < 2 ^ 31) : nI c &&& 7 = nI (c % 8) := by
  rw [pk_and (nI c) (m := 7) 3 (by decide), pk_tn (by omega)]
theorem fig_e {c i : Nat} (hc : c < 2 ^ 31) (hi : i < 9) : (nI c >>> ((3 * nI i) &&& 31)) &&& 7 = nI (zfg c i) := by
  have hd : c / 8 ^ i ≤ c := Nat.div_le_self _ _
  rw [shr8 hc hi, and7 (by omega)]
  rfl
theorem shl8 {v i : Nat} (hv : v < 8) (hi : i < 9) : nI v <<< ((3 * nI i) &&& 31) = nI (v * 8 ^ i) := by
  have h1 : v * 8 ^ i ≤ 7 * 8 ^ i := Nat.mul_le_mul_right _ (by omega)
  have h2 : 8 ^ i ≤ 16777216 := pow8 (by omega)
  apply Int32.toBitVec_inj.1
  apply BitVec.eq_of_toNat_eq
  rw [pk_shl _ _ (3 * i) (thr3 i hi), pk_tn (by omega), pk_tn (by omega), p8_2, Nat.mod_eq_of_lt (by omega)]
theorem or8 {c v i : Nat} (hc : c < 8 ^ i) (hv : v < 8) (hi : i < 8) : nI c ||| nI (v * 8 ^ i) = nI (c + v * 8 ^ i) := by
  have h1 : v * 8 ^ i ≤ 7 * 8 ^ i := Nat.mul_le_mul_right _ (by omega)
  have h2 : 8 ^ i ≤ 16777216 := pow8 (by omega)
  apply Int32.toBitVec_inj.1
  apply BitVec.eq_of_toNat_eq
  show ((nI c).toBitVec ||| (nI (v * 8 ^ i)).toBitVec).toNat = _
  rw [BitVec.toNat_or, pk_tn (by omega), pk_tn (by omega), pk_tn (by omega), ← p8_2, ← Nat.shiftLeft_eq, Nat.or_comm, ← Nat.shiftLeft_add_eq_or_of_lt (by rw [p8_2]; exact hc), Nat.add_comm]
theorem xorI {a b : Nat} (ha : a < 2 ^ 31) (hb : b < 2 ^ 31) : nI a ^^^ nI b = nI (a ^^^ b) := by
  have h : a ^^^ b < 2 ^ 31 := Nat.xor_lt_two_pow ha hb
  apply Int32.toBitVec_inj.1
  apply BitVec.eq_of_toNat_eq
  show ((nI a).toBitVec ^^^ (nI b).toBitVec).toNat = _
  rw [BitVec.toNat_xor, pk_tn (by omega), pk_tn (by omega), pk_tn (by omega)]
theorem zfg_xor (a b i : Nat) : zfg (a ^^^ b) i = zfg a i ^^^ zfg b i := by
  unfold zfg
  rw [← p8_2, ← Nat.shiftRight_eq_div_pow, ← Nat.shiftRight_eq_div_pow, ← Nat.shiftRight_eq_div_pow, Nat.shiftRight_xor_distrib]
  exact Nat.xor_mod_two_pow (n := 3)
theorem zfg_one {v a i : Nat} (hv : v < 8) : zfg (v * 8 ^ a) i = if i = a then v else 0 := by
  unfold zfg
  by_cases e : i = a
  · rw [if_pos e, e, Nat.mul_div_cancel _ (Nat.pow_pos (by decide)), Nat.mod_eq_of_lt hv]
  · rw [if_neg e]
    rcases Nat.lt_or_ge i a with h | h
    · have e8 : v * 8 ^ a = (v * 8 ^ (a - i - 1) * 8) * 8 ^ i := by
        rw [Nat.mul_assoc, Nat.mul_assoc]
        congr 1
        rw [← Nat.pow_succ', ← Nat.pow_add]
        congr 1
        omega
      rw [e8, Nat.mul_div_cancel _ (Nat.pow_pos (by decide)), Nat.mul_mod_left]
    · have e8 : 8 ^ i = 8 ^ a * 8 ^ (i - a) := by
        rw [← Nat.pow_add]
        congr 1
        omega
      have h8 : 8 ^ 1 ≤ 8 ^ (i - a) := Nat.pow_le_pow_right (by decide) (by omega)
      rw [e8, ← Nat.div_div_eq_div_mul, Nat.mul_div_cancel _ (Nat.pow_pos (by decide)), Nat.div_eq_of_lt (by omega)]
theorem xor_self3 : ∀ x, x < 8 → ∀ y, y < 8 → x ^^^ y < 8 ∧ x ^^^ (x ^^^ y) = y ∧ y ^^^ (x ^^^ y) = x := by decide +kernel
/-- a swap by bits -/
theorem sw_code {c n a b : Nat} (hn : n ≤ 8) (hc : c < 8 ^ n) (ha : a < n) (hb : b < n) (hab : a ≠ b) : (nI c ^^^ ((nI (zfg c a) ^^^ nI (zfg c b)) <<< ((3 * nI a) &&& 31))) ^^^ ((nI (zfg c a) ^^^ nI (zfg c b)) <<< ((3 * nI b) &&& 31)) = nI (zcd (zsw a b (zfg c)) n) := by
  have h8 := pow8 hn
  obtain ⟨x1, x2, x3⟩ := xor_self3 (zfg c a) (zfg_lt c a) (zfg c b) (zfg_lt c b)
  have fa := zfg_lt c a
  have fb := zfg_lt c b
  have ba : (zfg c a ^^^ zfg c b) * 8 ^ a ≤ 7 * 8 ^ a := Nat.mul_le_mul_right _ (by omega)
  have bb : (zfg c a ^^^ zfg c b) * 8 ^ b ≤ 7 * 8 ^ b := Nat.mul_le_mul_right _ (by omega)
  have pa : 8 ^ a * 8 ≤ 8 ^ n := by
    rw [← Nat.pow_succ]
    exact Nat.pow_le_pow_right (by decide) ha
  have pb : 8 ^ b * 8 ≤ 8 ^ n := by
    rw [← Nat.pow_succ]
    exact Nat.pow_le_pow_right (by decide) hb
  have l1 : c ^^^ ((zfg c a ^^^ zfg c b) * 8 ^ a) < 8 ^ n := by
    rw [← p8_2 n]
    exact Nat.xor_lt_two_pow (by rw [p8_2 n]; exact hc) (by rw [p8_2 n]; omega)
  have l2 : (c ^^^ ((zfg c a ^^^ zfg c b) * 8 ^ a)) ^^^ ((zfg c a ^^^ zfg c b) * 8 ^ b) < 8 ^ n := by
    rw [← p8_2 n]
    exact Nat.xor_lt_two_pow (by rw [p8_2 n]; exact l1) (by rw [p8_2 n]; omega)
  rw [xorI (by omega) (by omega), shl8 x1 (by omega), shl8 x1 (by omega), xorI (by omega) (by omega), xorI (by omega) (by omega)]
  congr 1
  have hsw : ∀ i, i < n → zsw a b (zfg c) i < 8 := fun i _ => by
    unfold zsw
    split
    · exact fb
    · split
      · exact fa
      · exact zfg_lt c i
  refine zcd_ext l2 (zcd_lt n hsw) (fun i hi => ?_)
  rw [zcd_fg n hsw i hi, zfg_xor, zfg_xor, zfg_one x1, zfg_one x1]
  unfold zsw
  by_cases h1 : i = a
  · rw [if_pos h1, if_pos h1, if_neg (by omega), Nat.xor_zero, h1, x2]
  · rw [if_neg h1, if_neg h1, Nat.xor_zero]
    by_cases h2 : i = b
    · rw [if_pos h2, if_pos h2, h2, x3]
    · rw [if_neg h2, if_neg h2, Nat.xor_zero]
