/-! the LAW's expressions as both read them: a state is (fault, token), steps -/
abbrev zLs : Type := (Nat × Nat) × List (Nat × Nat)
def zadp (o : Nat × Nat) (s : zLs) : zLs := if s.1.1 = 0 then (s.1, s.2 ++ [o]) else s
section ZGM
variable (B : Nat → Nat) (n : Nat)
def zpart (E : zLs → zLs) (s : zLs) : zLs := if s.1.1 ≠ 0 then s else if tkk B n s.1.2 = 40 then (ztsg B n 41 (E (zstp s.1, s.2)).1, (E (zstp s.1, s.2)).2) else if tkk B n s.1.2 = 257 then (if tkw B n s.1.2 ≤ 6 then zadp (1, tkw B n s.1.2) (zstp s.1, s.2) else (zrfs 3 s.1, s.2)) else (if (zsn B n 0 9999 s.1).1 = 0 then zadp (0, tkv B n s.1.2) (zstp s.1, s.2) else (zsn B n 0 9999 s.1, s.2))
def zlp (isop : Nat × Nat → Option Nat) (sub : zLs → zLs) : Nat → zLs → zLs
  | 0, s => s
  | d + 1, s => match isop s.1 with
    | none => s
    | some o => zlp isop sub d (zadp (2, o) (sub (zstp s.1, s.2)))
def zoP (p : Nat × Nat) : Option Nat := if zkn B n p = 42 then some 3 else if zkn B n p = 47 then some 4 else none
def zoS (p : Nat × Nat) : Option Nat := if zkn B n p = 43 then some 1 else if zkn B n p = 45 then some 2 else none
def zoT (p : Nat × Nat) : Option Nat := if zkn B n p = 60 then some 5 else if zkn B n p = 61 then some 6 else none
def zoA (p : Nat × Nat) : Option Nat := if zwd B n p = 14 then some 7 else none
def zoO (p : Nat × Nat) : Option Nat := if zwd B n p = 15 then some 8 else none
def zprod (E : zLs → zLs) (s : zLs) : zLs := zlp (zoP B n) (zpart B n E) 701 (zpart B n E s)
def zsum (E : zLs → zLs) (s : zLs) : zLs := zlp (zoS B n) (zprod B n E) 701 (zprod B n E s)
def ztest (E : zLs → zLs) (s : zLs) : zLs := match zoT B n (zsum B n E s).1 with
  | none => zsum B n E s
  | some o => zadp (2, o) (zsum B n E (zstp (zsum B n E s).1, (zsum B n E s).2))
def znt : Nat → Nat → Nat × Nat → Nat × (Nat × Nat)
  | 0, k, p => (k, p)
  | d + 1, k, p => if zwd B n p = 16 then (if k < 6 then znt d (k + 1) (zstp p) else (k + 1, zrfs 2 p)) else (k, p)
def zaddN : Nat → zLs → zLs
  | 0, s => s
  | k + 1, s => zaddN k (zadp (2, 0) s)
def znot (E : zLs → zLs) (s : zLs) : zLs := zaddN (znt B n 701 0 s.1).1 (ztest B n E ((znt B n 701 0 s.1).2, s.2))
def zand (E : zLs → zLs) (s : zLs) : zLs := zlp (zoA B n) (znot B n E) 701 (znot B n E s)
def zor (E : zLs → zLs) (s : zLs) : zLs := zlp (zoO B n) (zand B n E) 701 (zand B n E s)
def zbgn (i : Nat) : Bool := decide (tkk B n i = 258 ∨ tkk B n i = 257 ∨ tkk B n i = 40)
def zex : Nat → zLs → zLs
  | 0, s => if s.1.1 ≠ 0 then s else if zbgn B n s.1.2 = true then (zrfs 2 s.1, s.2) else (zrfs 1 s.1, s.2)
  | e + 1, s => zor B n (zex e) s
end ZGM
section ZGL
variable {B : Nat → Nat} {n : Nat}
theorem zstp_0 {p : Nat × Nat} (h : p.1 = 0) : zstp p = (0, p.2 + 1) := by unfold zstp; rw [if_pos h]
theorem zstp_f {p : Nat × Nat} (h : p.1 ≠ 0) : zstp p = p := by unfold zstp; rw [if_neg h]
theorem zrfs_0 {w : Nat} {p : Nat × Nat} (h : p.1 = 0) : zrfs w p = (w, p.2) := by unfold zrfs; rw [if_pos h]
theorem zrfs_f {w : Nat} {p : Nat × Nat} (h : p.1 ≠ 0) : zrfs w p = p := by unfold zrfs; rw [if_neg h]
theorem zadd_0 {o : Nat × Nat} {s : zLs} (h : s.1.1 = 0) : zadp o s = (s.1, s.2 ++ [o]) := by unfold zadp; rw [if_pos h]
theorem zadd_f {o : Nat × Nat} {s : zLs} (h : s.1.1 ≠ 0) : zadp o s = s := by unfold zadp; rw [if_neg h]
theorem zadd_1 (o : Nat × Nat) (s : zLs) : (zadp o s).1 = s.1 := by unfold zadp; split <;> rfl
theorem zkn_0 {p : Nat × Nat} (h : p.1 = 0) : zkn B n p = tkk B n p.2 := by unfold zkn; rw [if_pos h]
theorem zkn_f {p : Nat × Nat} (h : p.1 ≠ 0) : zkn B n p = 259 := by unfold zkn; rw [if_neg h]
theorem zwd_0 {p : Nat × Nat} (h : p.1 = 0) : zwd B n p = tkw B n p.2 := by unfold zwd; rw [if_pos h]
theorem zwd_f {p : Nat × Nat} (h : p.1 ≠ 0) : zwd B n p = 17 := by unfold zwd; rw [if_neg h]
/-- what is an operator is a token, and the state is good -/
theorem oP_in {p : Nat × Nat} {o : Nat} (h : zoP B n p = some o) : p.1 = 0 ∧ tkk B n p.2 ≠ 256 ∧ 1 ≤ o ∧ o ≤ 8 := by
  unfold zoP at h
  by_cases c : p.1 = 0
  · rw [zkn_0 c] at h
    split at h
    · cases h; exact ⟨c, by omega, by omega, by omega⟩
    · split at h
      · cases h; exact ⟨c, by omega, by omega, by omega⟩
      · cases h
  · rw [zkn_f c] at h
    exact absurd h (by simp)
theorem oS_in {p : Nat × Nat} {o : Nat} (h : zoS B n p = some o) : p.1 = 0 ∧ tkk B n p.2 ≠ 256 ∧ 1 ≤ o ∧ o ≤ 8 := by
  unfold zoS at h
  by_cases c : p.1 = 0
  · rw [zkn_0 c] at h
    split at h
    · cases h; exact ⟨c, by omega, by omega, by omega⟩
    · split at h
      · cases h; exact ⟨c, by omega, by omega, by omega⟩
      · cases h
  · rw [zkn_f c] at h
    exact absurd h (by simp)
theorem oT_in {p : Nat × Nat} {o : Nat} (h : zoT B n p = some o) : p.1 = 0 ∧ tkk B n p.2 ≠ 256 ∧ 1 ≤ o ∧ o ≤ 8 := by
  unfold zoT at h
  by_cases c : p.1 = 0
  · rw [zkn_0 c] at h
    split at h
    · cases h; exact ⟨c, by omega, by omega, by omega⟩
    · split at h
      · cases h; exact ⟨c, by omega, by omega, by omega⟩
      · cases h
  · rw [zkn_f c] at h
    exact absurd h (by simp)
theorem oA_in {p : Nat × Nat} {o : Nat} (h : zoA B n p = some o) : p.1 = 0 ∧ tkk B n p.2 ≠ 256 ∧ 1 ≤ o ∧ o ≤ 8 := by
  unfold zoA at h
  by_cases c : p.1 = 0
  · rw [zwd_0 c] at h
    split at h
    · next hw =>
      cases h
      have := tkw_k (B := B) (n := n) (i := p.2) (by omega)
      exact ⟨c, by omega, by omega, by omega⟩
    · cases h
  · rw [zwd_f c] at h
    exact absurd h (by simp)
theorem oO_in {p : Nat × Nat} {o : Nat} (h : zoO B n p = some o) : p.1 = 0 ∧ tkk B n p.2 ≠ 256 ∧ 1 ≤ o ∧ o ≤ 8 := by
  unfold zoO at h
  by_cases c : p.1 = 0
  · rw [zwd_0 c] at h
    split at h
    · next hw =>
      cases h
      have := tkw_k (B := B) (n := n) (i := p.2) (by omega)
      exact ⟨c, by omega, by omega, by omega⟩
    · cases h
  · rw [zwd_f c] at h
    exact absurd h (by simp)
theorem zdep_ap : ∀ (a b : List (Nat × Nat)) (d e : Nat), zdep a d = some e → zdep (a ++ b) d = zdep b e
  | [], b, d, e, h => by
    have : d = e := Option.some.inj h
    rw [this]
    rfl
  | s :: a, b, d, e, h => by
    rw [List.cons_append, zdep]
    rw [zdep] at h
    cases hz : zdp s d with
    | none => rw [hz] at h; cases h
    | some e' =>
      rw [hz] at h
      exact zdep_ap a b e' e h
theorem zdep_o {o d : Nat} (h1 : 1 ≤ o) (h8 : o ≤ 8) (hd : 2 ≤ d) : zdep [(2, o)] d = some (d - 1) := by
  unfold zdep zdp zdep
  simp only
  rw [if_neg (by omega), if_neg (by omega), if_neg (by omega), if_pos ⟨h8, hd⟩]
/-- reading goes on, steps fit: K what is needed on the row -/
def zgw (n : Nat) (F : zLs → zLs) (K : Nat) : Prop := ∀ s : zLs, (F s).1.1 = 0 → s.1.1 = 0 ∧ s.1.2 < (F s).1.2 ∧ (F s).1.2 ≤ n ∧ ∃ c, (F s).2 = s.2 ++ c ∧ c.length + s.1.2 ≤ (F s).1.2 ∧ ∀ d, d + K ≤ 40 → zdep c d = some (d + 1)
theorem zgw_up {F : zLs → zLs} {K K' : Nat} (h : zgw n F K) (hk : K ≤ K') : zgw n F K' := fun s hs => by
  obtain ⟨h1, h2, h3, c, h4, h5, h6⟩ := h s hs
  exact ⟨h1, h2, h3, c, h4, h5, fun d hd => h6 d (by omega)⟩
theorem zgw_lp {isop : Nat × Nat → Option Nat} (ho : ∀ p o, isop p = some o → p.1 = 0 ∧ tkk B n p.2 ≠ 256 ∧ 1 ≤ o ∧ o ≤ 8) {sub : zLs → zLs} {k : Nat} (hs : zgw n sub k) (s0 : zLs) : ∀ (g : Nat) (s : zLs), (s.1.1 = 0 → s0.1.1 = 0 ∧ s0.1.2 < s.1.2 ∧ s.1.2 ≤ n ∧ ∃ c, s.2 = s0.2 ++ c ∧ c.length + s0.1.2 ≤ s.1.2 ∧ ∀ d, d + (k + 1) ≤ 40 → zdep c d = some (d + 1)) → (zlp isop sub g s).1.1 = 0 → s0.1.1 = 0 ∧ s0.1.2 < (zlp isop sub g s).1.2 ∧ (zlp isop sub g s).1.2 ≤ n ∧ ∃ c, (zlp isop sub g s).2 = s0.2 ++ c ∧ c.length + s0.1.2 ≤ (zlp isop sub g s).1.2 ∧ ∀ d, d + (k + 1) ≤ 40 → zdep c d = some (d + 1)
  | 0, s, h, hz => h hz
  | g + 1, s, h, hz => by
    rw [zlp] at hz ⊢
    cases hi : isop s.1 with
    | none =>
      rw [hi] at hz
      exact h hz
    | some o =>
      rw [hi] at hz
      dsimp only at hz ⊢
      obtain ⟨o1, o2, o3, o4⟩ := ho _ _ hi
      obtain ⟨a1, a2, a3, c, a4, a5, a6⟩ := h o1
      refine zgw_lp ho hs s0 g _ (fun hg => ?_) hz
      rw [zadd_1] at hg
      obtain ⟨b1, b2, b3, c', b4, b5, b6⟩ := hs _ hg
      rw [zadd_1, zadd_0 hg]
      dsimp only at b2 b4 b5 ⊢
      have e12 : (zstp s.1).2 = s.1.2 + 1 := by rw [zstp_0 o1]
      refine ⟨a1, by omega, b3, c ++ c' ++ [(2, o)], ?_, ?_, fun d hd => ?_⟩
      · rw [b4, a4, List.append_assoc, List.append_assoc]
        simp only [List.append_assoc]
      · simp only [List.length_append, List.length_singleton]
        omega
      · rw [List.append_assoc, zdep_ap c _ d (d + 1) (a6 d hd), zdep_ap c' _ (d + 1) (d + 2) (b6 (d + 1) (by omega)), zdep_o o3 o4 (by omega)]
        rfl
theorem zgw_lev {isop : Nat × Nat → Option Nat} (ho : ∀ p o, isop p = some o → p.1 = 0 ∧ tkk B n p.2 ≠ 256 ∧ 1 ≤ o ∧ o ≤ 8) {sub : zLs → zLs} {k : Nat} (hs : zgw n sub k) (g : Nat) : zgw n (fun s => zlp isop sub g (sub s)) (k + 1) := fun s hz =>
  zgw_lp ho hs s g (sub s) (fun h => (zgw_up hs (Nat.le_succ k)) s h) hz
theorem zgw_part (ht : zTxt B n) {E : zLs → zLs} {k : Nat} (hk : 1 ≤ k) (hE : zgw n E k) : zgw n (zpart B n E) k := fun s hz => by
  unfold zpart at hz ⊢
  by_cases c0 : s.1.1 ≠ 0
  · rw [if_pos c0] at hz
    exact absurd hz c0
  · rw [if_neg c0] at hz ⊢
    have c0' : s.1.1 = 0 := by omega
    by_cases c1 : tkk B n s.1.2 = 40
    · rw [if_pos c1] at hz ⊢
      dsimp only at hz ⊢
      unfold ztsg at hz ⊢
      by_cases c2 : zkn B n (E (zstp s.1, s.2)).1 = 41
      · rw [if_pos c2] at hz ⊢
        have hg : (E (zstp s.1, s.2)).1.1 = 0 := by
          by_cases c3 : (E (zstp s.1, s.2)).1.1 = 0
          · exact c3
          · rw [zkn_f c3] at c2; omega
        obtain ⟨b1, b2, b3, c', b4, b5, b6⟩ := hE _ hg
        rw [zkn_0 hg] at c2
        have := tk_lt (B := B) (n := n) (i := (E (zstp s.1, s.2)).1.2) (by omega)
        dsimp only at b2 b4 b5
        have e12 : (zstp s.1).2 = s.1.2 + 1 := by rw [zstp_0 c0']
        rw [zstp_0 hg]
        exact ⟨c0', by dsimp only; omega, by dsimp only; omega, c', b4, by dsimp only; omega, b6⟩
      · rw [if_neg c2] at hz
        by_cases c3 : (E (zstp s.1, s.2)).1.1 = 0
        · rw [zrfs_0 c3] at hz
          exact absurd hz (by simp)
        · rw [zrfs_f c3] at hz
          exact absurd hz c3
    · rw [if_neg c1] at hz ⊢
      by_cases c2 : tkk B n s.1.2 = 257
      · rw [if_pos c2] at hz ⊢
        have hlt := tk_lt (B := B) (n := n) (i := s.1.2) (by omega)
        by_cases c3 : tkw B n s.1.2 ≤ 6
        · rw [if_pos c3, zadd_0 (by rw [zstp_0 c0']), zstp_0 c0']
          refine ⟨c0', by dsimp only; omega, by dsimp only; omega, [(1, tkw B n s.1.2)], rfl, by dsimp only; simp; omega, fun d hd => ?_⟩
          unfold zdep zdp zdep
          simp only
          rw [if_neg (by decide), if_pos trivial, if_pos ⟨by omega, by omega⟩]
        · rw [if_neg c3, zrfs_0 c0'] at hz
          exact absurd hz (by simp)
      · rw [if_neg c2] at hz ⊢
        by_cases c3 : (zsn B n 0 9999 s.1).1 = 0
        · obtain ⟨z1, z2, z3, z4, z5, z6⟩ := zsn_0 c3
          have hlt := tk_lt (B := B) (n := n) (i := s.1.2) (by omega)
          rw [if_pos c3, zadd_0 (by rw [zstp_0 c0']), zstp_0 c0']
          refine ⟨c0', by dsimp only; omega, by dsimp only; omega, [(0, tkv B n s.1.2)], rfl, by dsimp only; simp; omega, fun d hd => ?_⟩
          unfold zdep zdp zdep
          simp only
          rw [if_pos trivial, if_pos ⟨z5, by omega⟩]
        · rw [if_neg c3] at hz
          exact absurd hz c3
theorem zgw_test {E : zLs → zLs} {k : Nat} (hs : zgw n (zsum B n E) k) : zgw n (ztest B n E) (k + 1) := fun s hz => by
  unfold ztest at hz ⊢
  cases hi : zoT B n (zsum B n E s).1 with
  | none =>
    rw [hi] at hz
    exact (zgw_up hs (Nat.le_succ k)) s hz
  | some o =>
    rw [hi] at hz
    dsimp only at hz ⊢
    obtain ⟨o1, o2, o3, o4⟩ := oT_in hi
    obtain ⟨a1, a2, a3, c, a4, a5, a6⟩ := hs s o1
    rw [zadd_1] at hz
    obtain ⟨b1, b2, b3, c', b4, b5, b6⟩ := hs _ hz
    rw [zadd_1, zadd_0 hz]
    dsimp only at b2 b4 b5 ⊢
    have e12 : (zstp (zsum B n E s).1).2 = (zsum B n E s).1.2 + 1 := by rw [zstp_0 o1]
    refine ⟨a1, by omega, b3, c ++ c' ++ [(2, o)], ?_, ?_, fun d hd => ?_⟩
    · rw [b4, a4]
      simp only [List.append_assoc]
    · simp only [List.length_append, List.length_singleton]
      omega
    · rw [List.append_assoc, zdep_ap c _ d (d + 1) (a6 d (by omega)), zdep_ap c' _ (d + 1) (d + 2) (b6 (d + 1) (by omega)), zdep_o o3 o4 (by omega)]
      rfl
theorem znt_s : ∀ (g k : Nat) (p : Nat × Nat), (znt B n g k p).2.1 = 0 → p.1 = 0 ∧ p.2 + (znt B n g k p).1 = k + (znt B n g k p).2.2 ∧ k ≤ (znt B n g k p).1 ∧ (k ≤ 6 → (znt B n g k p).1 ≤ 6)
  | 0, k, p, h => ⟨h, by show p.2 + k = k + p.2; omega, Nat.le_refl _, fun z => z⟩
  | g + 1, k, p, h => by
    rw [znt] at h ⊢
    by_cases c : zwd B n p = 16
    · have hp : p.1 = 0 := by
        by_cases z : p.1 = 0
        · exact z
        · rw [zwd_f z] at c; omega
      rw [if_pos c] at h ⊢
      by_cases c2 : k < 6
      · rw [if_pos c2] at h ⊢
        obtain ⟨h1, h2, h3, h4⟩ := znt_s g (k + 1) (zstp p) h
        rw [zstp_0 hp] at h2 h3 h4 ⊢
        dsimp only at h2
        exact ⟨hp, by omega, by omega, fun _ => h4 (by omega)⟩
      · rw [if_neg c2, zrfs_0 hp] at h
        exact absurd h (by simp)
    · rw [if_neg c] at h ⊢
      exact ⟨h, by dsimp only; omega, Nat.le_refl _, fun z => z⟩
theorem zaddN_1 : ∀ (k : Nat) (s : zLs), (zaddN k s).1 = s.1
  | 0, _ => rfl
  | k + 1, s => by
    show (zaddN k (zadp (2, 0) s)).1 = s.1
    rw [zaddN_1 k, zadd_1]
theorem zaddN_0 : ∀ (k : Nat) (s : zLs), s.1.1 = 0 → (zaddN k s).2 = s.2 ++ List.replicate k (2, 0)
  | 0, s, _ => by
    show s.2 = s.2 ++ []
    rw [List.append_nil]
  | k + 1, s, h => by
    show (zaddN k (zadp (2, 0) s)).2 = _
    rw [zaddN_0 k _ (by rw [zadd_1]; exact h), zadd_0 h]
    simp [List.replicate_succ]
theorem zdep_N : ∀ (k d : Nat), 1 ≤ d → zdep (List.replicate k (2, 0)) d = some d
  | 0, d, _ => rfl
  | k + 1, d, h => by
    rw [List.replicate_succ, zdep]
    have : zdp (2, 0) d = some d := by
      unfold zdp
      simp only
      rw [if_neg (by decide), if_neg (by decide), if_pos trivial, if_pos h]
    rw [this]
    exact zdep_N k d h
theorem zgw_not {E : zLs → zLs} {k : Nat} (hs : zgw n (ztest B n E) k) : zgw n (znot B n E) k := fun s hz => by
  unfold znot at hz ⊢
  rw [zaddN_1] at hz
  obtain ⟨a1, a2, a3, c, a4, a5, a6⟩ := hs _ hz
  dsimp only at a1 a2 a4 a5
  obtain ⟨b1, b2, b3, b4⟩ := znt_s 701 0 s.1 a1
  rw [zaddN_1, zaddN_0 _ _ hz]
  refine ⟨b1, by omega, a3, c ++ List.replicate (znt B n 701 0 s.1).1 (2, 0), ?_, ?_, fun d hd => ?_⟩
  · rw [a4, List.append_assoc]
  · rw [List.length_append, List.length_replicate]
    omega
  · rw [zdep_ap c _ d (d + 1) (a6 d hd), zdep_N _ _ (by omega)]
theorem zgw_or (ht : zTxt B n) {E : zLs → zLs} {k : Nat} (hk : 1 ≤ k) (hE : zgw n E k) : zgw n (zpart B n E) k ∧ zgw n (zprod B n E) (k + 1) ∧ zgw n (zsum B n E) (k + 2) ∧ zgw n (ztest B n E) (k + 3) ∧ zgw n (znot B n E) (k + 3) ∧ zgw n (zand B n E) (k + 4) ∧ zgw n (zor B n E) (k + 5) := by
  have h1 := zgw_part ht hk hE
  have h2 : zgw n (zprod B n E) (k + 1) := zgw_lev (fun _ _ => oP_in) h1 701
  have h3 : zgw n (zsum B n E) (k + 2) := zgw_lev (fun _ _ => oS_in) h2 701
  have h4 := zgw_test h3
  have h5 := zgw_not h4
  have h6 : zgw n (zand B n E) (k + 4) := zgw_lev (fun _ _ => oA_in) h5 701
  have h7 : zgw n (zor B n E) (k + 5) := zgw_lev (fun _ _ => oO_in) h6 701
  exact ⟨h1, h2, h3, h4, h5, h6, h7⟩
theorem zgw_ex (ht : zTxt B n) : ∀ e, zgw n (zex B n e) (5 * e + 1)
  | 0 => fun s hz => by
    rw [zex] at hz
    by_cases c0 : s.1.1 ≠ 0
    · rw [if_pos c0] at hz; exact absurd hz c0
    · rw [if_neg c0] at hz
      have c0' : s.1.1 = 0 := by omega
      split at hz
      · rw [zrfs_0 c0'] at hz; exact absurd hz (by simp)
      · rw [zrfs_0 c0'] at hz; exact absurd hz (by simp)
  | e + 1 => (zgw_or ht (by omega) (zgw_ex ht e)).2.2.2.2.2.2
/-- behind a fault nothing is read -/
theorem zlp_f {isop : Nat × Nat → Option Nat} (ho : ∀ p o, isop p = some o → p.1 = 0 ∧ tkk B n p.2 ≠ 256 ∧ 1 ≤ o ∧ o ≤ 8) {sub : zLs → zLs} {s : zLs} (h : s.1.1 ≠ 0) : ∀ g, zlp isop sub g s = s
  | 0 => rfl
  | g + 1 => by
    rw [zlp]
    cases hi : isop s.1 with
    | none => rfl
    | some o => exact absurd (ho _ _ hi).1 h
theorem zpart_f {E : zLs → zLs} {s : zLs} (h : s.1.1 ≠ 0) : zpart B n E s = s := by unfold zpart; rw [if_pos h]
theorem zprod_f {E : zLs → zLs} {s : zLs} (h : s.1.1 ≠ 0) : zprod B n E s = s := by
  unfold zprod
  rw [zpart_f h]
  exact zlp_f (fun _ _ => oP_in) h _
theorem zsum_f {E : zLs → zLs} {s : zLs} (h : s.1.1 ≠ 0) : zsum B n E s = s := by
  unfold zsum
  rw [zprod_f h]
  exact zlp_f (fun _ _ => oS_in) h _
theorem ztest_f {E : zLs → zLs} {s : zLs} (h : s.1.1 ≠ 0) : ztest B n E s = s := by
  unfold ztest
  rw [zsum_f h]
  cases hi : zoT B n s.1 with
  | none => rfl
  | some o => exact absurd (oT_in hi).1 h
theorem znt_f {p : Nat × Nat} (h : zwd B n p ≠ 16) (g : Nat) : znt B n (g + 1) 0 p = (0, p) := by
  rw [znt, if_neg h]
theorem znot_f {E : zLs → zLs} {s : zLs} (h : s.1.1 ≠ 0) : znot B n E s = s := by
  unfold znot
  rw [show (701 : Nat) = 700 + 1 from rfl, znt_f (by rw [zwd_f h]; omega), ztest_f h]
  rfl
theorem zand_f {E : zLs → zLs} {s : zLs} (h : s.1.1 ≠ 0) : zand B n E s = s := by
  unfold zand
  rw [znot_f h]
  exact zlp_f (fun _ _ => oA_in) h _
theorem zor_f {E : zLs → zLs} {s : zLs} (h : s.1.1 ≠ 0) : zor B n E s = s := by
  unfold zor
  rw [zand_f h]
  exact zlp_f (fun _ _ => oO_in) h _
theorem zex_f {s : zLs} (h : s.1.1 ≠ 0) : ∀ e, zex B n e s = s
  | 0 => by rw [zex, if_pos h]
  | e + 1 => zor_f h
/-- what can't begin one -/
theorem zor_n {E : zLs → zLs} {s : zLs} (h : s.1.1 = 0) (hb : zbgn B n s.1.2 = false) : zor B n E s = (zrfs 1 s.1, s.2) := by
  have hb' := of_decide_eq_false hb
  have hp : zpart B n E s = (zrfs 1 s.1, s.2) := by
    unfold zpart
    rw [if_neg (by omega), if_neg (by omega), if_neg (by omega)]
    have : zsn B n 0 9999 s.1 = zrfs 1 s.1 := by
      unfold zsn
      rw [if_neg (by omega), if_pos (by omega), zrfs_0 h]
    rw [this, if_neg (by rw [zrfs_0 h]; simp)]
  have hf : ((zrfs 1 s.1, s.2) : zLs).1.1 ≠ 0 := by
    show (zrfs 1 s.1).1 ≠ 0
    rw [zrfs_0 h]
    simp
  have h1 : zprod B n E s = (zrfs 1 s.1, s.2) := by
    unfold zprod
    rw [hp]
    exact zlp_f (fun _ _ => oP_in) hf _
  have h2 : zsum B n E s = (zrfs 1 s.1, s.2) := by
    unfold zsum
    rw [h1]
    exact zlp_f (fun _ _ => oS_in) hf _
  have h3 : ztest B n E s = (zrfs 1 s.1, s.2) := by
    unfold ztest
    rw [h2]
    cases hi : zoT B n ((zrfs 1 s.1, s.2) : zLs).1 with
    | none => rfl
    | some o => exact absurd (oT_in hi).1 hf
  have hw : zwd B n s.1 ≠ 16 := fun z => by
    rw [zwd_0 h] at z
    have := tkw_k (B := B) (n := n) (i := s.1.2) (by omega)
    omega
  have h4 : znot B n E s = (zrfs 1 s.1, s.2) := by
    unfold znot
    rw [show (701 : Nat) = 700 + 1 from rfl, znt_f hw]
    show ztest B n E (s.1, s.2) = _
    exact h3
  have h5 : zand B n E s = (zrfs 1 s.1, s.2) := by
    unfold zand
    rw [h4]
    exact zlp_f (fun _ _ => oA_in) hf _
  unfold zor
  rw [h5]
  exact zlp_f (fun _ _ => oO_in) hf _
end ZGL
