/-! SETS OF ISLES, as bits -/
def zbi (L k : Nat) : Bool := decide (L / 2 ^ k % 2 = 1)
theorem bi_all : ∀ L, L < 256 → ∀ k, k < 8 → (nI L >>> (nI k &&& 31)) &&& 1 = nI (L / 2 ^ k % 2) := by decide +kernel
theorem bi_1 {L k : Nat} (hL : L < 256) (hk : k < 8) : ((nI L >>> (nI k &&& 31)) &&& 1 = 1) = (zbi L k = true) := by
  rw [bi_all L hL k hk]
  refine propext ⟨fun e => ?_, fun e => ?_⟩
  · exact decide_eq_true ((nI_eq (b := 1) (by omega) (by omega)).mp e)
  · rw [of_decide_eq_true e]
    rfl
theorem bi_0 {L k : Nat} (hL : L < 256) (hk : k < 8) : ((nI L >>> (nI k &&& 31)) &&& 1 = 0) = (zbi L k = false) := by
  rw [bi_all L hL k hk]
  refine propext ⟨fun e => ?_, fun e => ?_⟩
  · have := (nI_eq (b := 0) (by omega) (by omega)).mp e
    exact decide_eq_false (by omega)
  · have : ¬ L / 2 ^ k % 2 = 1 := of_decide_eq_false e
    rw [show L / 2 ^ k % 2 = 0 from by omega]
    rfl
def zcb (L k : Nat) : Nat := if zbi L k = true then L - 2 ^ k else L
theorem bcl : ∀ L, L < 256 → ∀ k, k < 8 → nI L &&& (((1 : Int32) <<< (nI k &&& 31)) ^^^ (-1)) = nI (zcb L k) := by decide +kernel
theorem zcb_b : ∀ L, L < 256 → ∀ k, k < 8 → ∀ j, j < 8 → zbi (zcb L k) j = (zbi L j && !decide (j = k)) := by decide +kernel
theorem zcb_le (L k : Nat) : zcb L k ≤ L := by
  unfold zcb
  split
  · exact Nat.sub_le _ _
  · exact Nat.le_refl _
theorem bfull : ∀ n, n < 9 → ((1 : Int32) <<< (nI n &&& 31)) - 1 = nI (2 ^ n - 1) := by decide +kernel
theorem bfull_b : ∀ n, n < 9 → ∀ k, k < 8 → zbi (2 ^ n - 1) k = decide (k < n) := by decide +kernel
theorem bfull_lt : ∀ n, n < 9 → 2 ^ n - 1 < 256 := by decide
theorem bzero : ∀ L, L < 256 → (∀ k, k < 8 → zbi L k = false) → L = 0 := by decide +kernel
theorem bzero_b (k : Nat) : zbi 0 k = false := by
  unfold zbi
  rw [Nat.zero_div]
  rfl
theorem n1_all : (-1 : Int32).toBitVec = BitVec.allOnes 32 := by decide
theorem dmor (a b : Int32) : (a ||| b) ^^^ (-1) = (a ^^^ (-1)) &&& (b ^^^ (-1)) := by
  apply Int32.toBitVec_inj.1
  show (a.toBitVec ||| b.toBitVec) ^^^ (-1 : Int32).toBitVec = (a.toBitVec ^^^ (-1 : Int32).toBitVec) &&& (b.toBitVec ^^^ (-1 : Int32).toBitVec)
  rw [n1_all, BitVec.xor_allOnes, BitVec.xor_allOnes, BitVec.xor_allOnes, BitVec.not_or]
theorem bgone {L g k R : Nat} {gone : Int32} (hR : R < 256) (hk : k < 8) (h : nI L &&& (gone ^^^ (-1)) = nI R) : nI L &&& ((gone ||| ((1 : Int32) <<< (nI k &&& 31))) ^^^ (-1)) = nI (zcb R k) := by
  rw [dmor, ← Int32.and_assoc, h, bcl R hR k hk]
theorem bgone0 (L : Nat) : nI L &&& ((0 : Int32) ^^^ (-1)) = nI L := by
  rw [show ((0 : Int32) ^^^ (-1)) = -1 from by decide]
  apply Int32.toBitVec_inj.1
  show (nI L).toBitVec &&& (-1 : Int32).toBitVec = (nI L).toBitVec
  rw [n1_all, BitVec.and_allOnes]
theorem zcu_mono {P Q : Nat → Bool} : ∀ n, (∀ k, k < n → P k = true → Q k = true) → zcu P n ≤ zcu Q n
  | 0, _ => Nat.le_refl _
  | n + 1, h => by
    have ih := zcu_mono n (fun k hk => h k (by omega))
    have h1 := h n (by omega)
    cases hp : P n with
    | true => rw [zcu_t hp, zcu_t (h1 hp)]; omega
    | false =>
      rw [zcu_f hp]
      have : zcu Q n ≤ zcu Q (n + 1) := by
        show _ ≤ zcu Q n + (if Q n then 1 else 0)
        omega
      omega
theorem zcu_less {P Q : Nat → Bool} : ∀ n, (∀ k, k < n → P k = true → Q k = true) → (∃ k, k < n ∧ P k = false ∧ Q k = true) → zcu P n < zcu Q n
  | 0, _, ⟨k, hk, _⟩ => absurd hk (Nat.not_lt_zero _)
  | n + 1, h, ⟨k, hk, hp, hq⟩ => by
    by_cases e : k = n
    · subst e
      rw [zcu_f hp, zcu_t hq]
      have := zcu_mono k (fun j hj => h j (by omega))
      omega
    · have ih := zcu_less n (fun j hj => h j (by omega)) ⟨k, by omega, hp, hq⟩
      have h1 := h n (by omega)
      cases hp' : P n with
      | true => rw [zcu_t hp', zcu_t (h1 hp')]; omega
      | false =>
        rw [zcu_f hp']
        have : zcu Q n ≤ zcu Q (n + 1) := by
          show _ ≤ zcu Q n + (if Q n then 1 else 0)
          omega
        omega
/-- whom one aims at, of those left -/
def zam (S : zSD) (w : zWD) (L i : Nat) : Nat → Nat
  | 0 => i
  | k + 1 => if zbi L k = true ∧ zlk S w i (w.1 k) (w.1 (zam S w L i k)) = true then k else zam S w L i k
def zai (S : zSD) (w : zWD) (L i : Nat) : Nat := zam S w L i (S 0 0)
theorem zam_s {S : zSD} {w : zWD} {L i k : Nat} : zam S w L i (k + 1) = if zbi L k = true ∧ zlk S w i (w.1 k) (w.1 (zam S w L i k)) = true then k else zam S w L i k := rfl
theorem zam_lt {S : zSD} {w : zWD} {L i n : Nat} (hi : i < n) : ∀ k, k ≤ n → zam S w L i k < n
  | 0, _ => hi
  | k + 1, hk => by
    rw [zam_s]
    split
    · omega
    · exact zam_lt hi k (by omega)
theorem zam_in {S : zSD} {w : zWD} {L i : Nat} (hi : zbi L i = true) : ∀ k, zbi L (zam S w L i k) = true
  | 0 => hi
  | k + 1 => by
    rw [zam_s]
    split
    · rename_i h
      exact h.1
    · exact zam_in hi k
theorem zai_lt {S : zSD} {w : zWD} {L i : Nat} (hi : i < S 0 0) : zai S w L i < S 0 0 := zam_lt hi _ (Nat.le_refl _)
/-- the first of a range, or 0 -/
def zfr (P : Nat → Bool) : Nat → Nat → Nat
  | 0, _ => 0
  | d + 1, m => if P m = true then m else zfr P d (m + 1)
theorem zfr_is {P : Nat → Bool} : ∀ d m m0, m ≤ m0 → m0 < m + d → P m0 = true → (∀ k, m ≤ k → k < m0 → P k = false) → zfr P d m = m0
  | 0, m, m0, h1, h2, _, _ => absurd h2 (by omega)
  | d + 1, m, m0, h1, h2, h3, h4 => by
    unfold zfr
    by_cases e : m = m0
    · rw [e, if_pos h3]
    · rw [if_neg (by rw [h4 m (Nat.le_refl _) (by omega)]; decide)]
      exact zfr_is d (m + 1) m0 (by omega) (by omega) h3 (fun k hk => h4 k (by omega))
theorem zfr_no {P : Nat → Bool} : ∀ d m, (∀ k, m ≤ k → k < m + d → P k = false) → zfr P d m = 0
  | 0, _, _ => rfl
  | d + 1, m, h => by
    unfold zfr
    rw [if_neg (by rw [h m (Nat.le_refl _) (by omega)]; decide)]
    exact zfr_no d (m + 1) (fun k h1 h2 => h k (by omega) (by omega))
def zrl (S : zSD) (w : zWD) (L i : Nat) : Nat := zfr (fun m => decide (zorb (zai S w L) i m = i)) (S 0 0) 1
theorem zorb_add (p : Nat → Nat) (i : Nat) (a : Nat) : ∀ b, zorb p i (a + b) = zorb p (zorb p i a) b
  | 0 => rfl
  | b + 1 => congrArg p (zorb_add p i a b)
/-- who comes back comes back soon -/
theorem zsoon {n : Nat} {p : Nat → Nat} (h : ∀ i, i < n → p i < n) {i m : Nat} (hi : i < n) (hm : 1 ≤ m) (e : zorb p i m = i) (hl : ∀ k, 1 ≤ k → k < m → zorb p i k ≠ i) : m ≤ n := by
  by_cases hn : m ≤ n
  · exact hn
  · obtain ⟨a, b, hab, hb, eab⟩ := zpig n (zorb p i) (fun k _ => zorb_lt h hi k)
    have e1 : zorb p i (a + (m - b)) = i := by
      rw [zorb_add, eab, ← zorb_add, show b + (m - b) = m from by omega, e]
    exact absurd e1 (hl (a + (m - b)) (by omega) (by omega))
theorem zrl_is {S : zSD} {w : zWD} {L i m : Nat} (hi : i < S 0 0) (hm : 1 ≤ m) (e : zorb (zai S w L) i m = i) (hl : ∀ k, 1 ≤ k → k < m → zorb (zai S w L) i k ≠ i) : zrl S w L i = m := by
  have := zsoon (p := zai S w L) (fun j hj => zai_lt hj) hi hm e hl
  exact zfr_is _ _ _ hm (by omega) (decide_eq_true e) (fun k h1 h2 => decide_eq_false (hl k h1 h2))
theorem zrl_no {S : zSD} {w : zWD} {L i : Nat} (hl : ∀ k, 1 ≤ k → k ≤ S 0 0 → zorb (zai S w L) i k ≠ i) : zrl S w L i = 0 := zfr_no _ _ (fun k h1 h2 => decide_eq_false (hl k h1 (by omega)))
theorem zrl_le {S : zSD} {w : zWD} {L i : Nat} : zrl S w L i ≤ S 0 0 := by
  by_cases hx : ∃ k, 1 ≤ k ∧ k ≤ S 0 0 ∧ zorb (zai S w L) i k = i
  · obtain ⟨k, h1, h2, h3⟩ := hx
    obtain ⟨m, m1, ⟨m2, m3⟩, m4⟩ := zleast (P := fun m => 1 ≤ m ∧ zorb (zai S w L) i m = i) k ⟨h1, h3⟩
    unfold zrl
    rw [zfr_is _ _ m m2 (by omega) (decide_eq_true m3) (fun j j1 j2 => decide_eq_false (fun z => m4 j j2 ⟨j1, z⟩))]
    omega
  · rw [zrl_no (fun k h1 h2 h3 => hx ⟨k, h1, h2, h3⟩)]
    omega
/-- some ring closes -/
theorem zclose {S : zSD} {w : zWD} {L : Nat} (h8 : S 0 0 ≤ 8) {a : Nat} (ha : a < S 0 0) (hb : zbi L a = true) : ∃ b, b < S 0 0 ∧ zbi L b = true ∧ zrl S w L b ≠ 0 := by
  have hin : ∀ k, zbi L (zorb (zai S w L) a k) = true := fun k => by
    induction k with
    | zero => exact hb
    | succ k ih => exact zam_in ih _
  have hlt : ∀ k, zorb (zai S w L) a k < S 0 0 := zorb_lt (fun j hj => zai_lt hj) ha
  obtain ⟨x, y, hxy, hy, e⟩ := zpig (S 0 0) (zorb (zai S w L) a) (fun k _ => hlt k)
  refine ⟨zorb (zai S w L) a x, hlt x, hin x, ?_⟩
  have e1 : zorb (zai S w L) (zorb (zai S w L) a x) (y - x) = zorb (zai S w L) a x := by
    rw [← zorb_add, show x + (y - x) = y from by omega, ← e]
  obtain ⟨m, -, ⟨m2, m3⟩, m4⟩ := zleast (P := fun m => 1 ≤ m ∧ zorb (zai S w L) (zorb (zai S w L) a x) m = zorb (zai S w L) a x) (y - x) ⟨by omega, e1⟩
  rw [zrl_is (hlt x) m2 m3 (fun k k1 k2 z => m4 k k2 ⟨k1, z⟩)]
  omega
/-- a pass: longest, who gets what, who is left -/
def zps (S : zSD) (w : zWD) (s : Nat × (Nat → Nat) × Nat) : Nat → Nat × (Nat → Nat) × Nat
  | 0 => s
  | i + 1 => if zbi s.2.2 i = true ∧ zrl S w s.2.2 i ≠ 0 then (max (zps S w s i).1 (zrl S w s.2.2 i), (fun j => if j = i then w.1 (zai S w s.2.2 i) else (zps S w s i).2.1 j), zcb (zps S w s i).2.2 i) else zps S w s i
theorem zps_s {S : zSD} {w : zWD} {s : Nat × (Nat → Nat) × Nat} {i : Nat} : zps S w s (i + 1) = if zbi s.2.2 i = true ∧ zrl S w s.2.2 i ≠ 0 then (max (zps S w s i).1 (zrl S w s.2.2 i), (fun j => if j = i then w.1 (zai S w s.2.2 i) else (zps S w s i).2.1 j), zcb (zps S w s i).2.2 i) else zps S w s i := rfl
theorem zps_b {S : zSD} {w : zWD} {s : Nat × (Nat → Nat) × Nat} (hs : s.2.2 < 256) : ∀ i, i ≤ 8 → (zps S w s i).2.2 < 256 ∧ ∀ j, j < 8 → zbi (zps S w s i).2.2 j = (zbi s.2.2 j && !(decide (j < i) && !decide (zrl S w s.2.2 j = 0)))
  | 0, _ => ⟨hs, fun j _ => by
    rw [decide_eq_false (Nat.not_lt_zero _)]
    show zbi s.2.2 j = _
    rw [Bool.false_and, Bool.not_false, Bool.and_true]⟩
  | i + 1, hi => by
    obtain ⟨h1, h2⟩ := zps_b (S := S) (w := w) hs i (by omega)
    rw [zps_s]
    by_cases hc : zbi s.2.2 i = true ∧ zrl S w s.2.2 i ≠ 0
    · rw [if_pos hc]
      refine ⟨Nat.lt_of_le_of_lt (zcb_le _ _) h1, fun j hj => ?_⟩
      show zbi (zcb (zps S w s i).2.2 i) j = _
      rw [zcb_b _ h1 i (by omega) j hj, h2 j hj]
      by_cases e : j = i
      · subst e
        rw [decide_eq_true (rfl : j = j), decide_eq_true (Nat.lt_succ_self j), decide_eq_false hc.2]
        simp
      · rw [decide_eq_false e]
        have : decide (j < i + 1) = decide (j < i) := decide_eq_decide.mpr ⟨fun _ => by omega, fun _ => by omega⟩
        rw [this]
        simp
    · rw [if_neg hc]
      refine ⟨h1, fun j hj => ?_⟩
      rw [h2 j hj]
      by_cases e : j = i
      · subst e
        rw [decide_eq_false (Nat.lt_irrefl j), decide_eq_true (Nat.lt_succ_self j)]
        by_cases h3 : zbi s.2.2 j = true
        · have : zrl S w s.2.2 j = 0 := by
            by_cases h4 : zrl S w s.2.2 j = 0
            · exact h4
            · exact absurd ⟨h3, h4⟩ hc
          rw [this]
          simp
        · have : zbi s.2.2 j = false := by
            cases h5 : zbi s.2.2 j with
            | true => exact absurd h5 h3
            | false => rfl
          rw [this]
          simp
      · have : decide (j < i + 1) = decide (j < i) := decide_eq_decide.mpr ⟨fun _ => by omega, fun _ => by omega⟩
        rw [this]
def zrs (S : zSD) (w : zWD) : Nat → Nat × (Nat → Nat) × Nat → Nat × (Nat → Nat) × Nat
  | 0, s => s
  | c + 1, s => if s.2.2 = 0 then s else zrs S w c (zps S w s (S 0 0))
theorem zrs_less {S : zSD} {w : zWD} (h8 : S 0 0 ≤ 8) {s : Nat × (Nat → Nat) × Nat} (hs : s.2.2 < 256) (hb : ∀ j, j < 8 → zbi s.2.2 j = true → j < S 0 0) (h0 : s.2.2 ≠ 0) : zcu (zbi (zps S w s (S 0 0)).2.2) 8 < zcu (zbi s.2.2) 8 := by
  obtain ⟨h1, h2⟩ := zps_b (S := S) (w := w) hs (S 0 0) h8
  have hx : ∃ a, a < 8 ∧ zbi s.2.2 a = true := by
    by_cases hx : ∃ a, a < 8 ∧ zbi s.2.2 a = true
    · exact hx
    · refine absurd (bzero s.2.2 hs (fun k hk => ?_)) h0
      cases h5 : zbi s.2.2 k with
      | true => exact absurd ⟨k, hk, h5⟩ hx
      | false => rfl
  obtain ⟨a, ha, hab⟩ := hx
  obtain ⟨b, b1, b2, b3⟩ := zclose (w := w) h8 (hb a ha hab) hab
  refine zcu_less 8 (fun k hk hp => ?_) ⟨b, by omega, ?_, b2⟩
  · rw [h2 k hk] at hp
    exact (Bool.and_eq_true_iff.mp hp).1
  · rw [h2 b (by omega), b2, decide_eq_true b1, decide_eq_false b3]
    rfl
theorem zps_in {S : zSD} {w : zWD} (h8 : S 0 0 ≤ 8) {s : Nat × (Nat → Nat) × Nat} (hs : s.2.2 < 256) (hb : ∀ j, j < 8 → zbi s.2.2 j = true → j < S 0 0) : (zps S w s (S 0 0)).2.2 < 256 ∧ ∀ j, j < 8 → zbi (zps S w s (S 0 0)).2.2 j = true → j < S 0 0 := by
  obtain ⟨h1, h2⟩ := zps_b (S := S) (w := w) hs (S 0 0) h8
  refine ⟨h1, fun j hj hz => hb j hj ?_⟩
  rw [h2 j hj] at hz
  exact (Bool.and_eq_true_iff.mp hz).1
theorem zrs_end {S : zSD} {w : zWD} (h8 : S 0 0 ≤ 8) : ∀ c (s : Nat × (Nat → Nat) × Nat), s.2.2 < 256 → (∀ j, j < 8 → zbi s.2.2 j = true → j < S 0 0) → zcu (zbi s.2.2) 8 ≤ c → (zrs S w c s).2.2 = 0
  | 0, s, hs, hb, hc => by
    refine bzero s.2.2 hs (fun k hk => ?_)
    cases h5 : zbi s.2.2 k with
    | false => rfl
    | true =>
      have := zcu_less (P := fun _ => false) (Q := zbi s.2.2) 8 (fun _ _ z => absurd z (by decide)) ⟨k, hk, rfl, h5⟩
      omega
  | c + 1, s, hs, hb, hc => by
    show (if s.2.2 = 0 then s else zrs S w c (zps S w s (S 0 0))).2.2 = 0
    by_cases h0 : s.2.2 = 0
    · rw [if_pos h0, h0]
    · rw [if_neg h0]
      obtain ⟨g1, g2⟩ := zps_in (w := w) h8 hs hb
      exact zrs_end h8 c _ g1 g2 (by have := zrs_less (w := w) h8 hs hb h0; omega)
