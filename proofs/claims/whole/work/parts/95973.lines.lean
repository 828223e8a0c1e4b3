/-! LINES as both read them: a state is (fault, token), what is told, whether the speed is, the law -/
abbrev zDr : Type := zSD × Bool × zLw
section ZLI
variable (B : Nat → Nat) (n : Nat)
def zsame (S : zSD) (i k : Nat) : Bool := decide (S 3 k = tkl B n i ∧ ∀ j, j < tkl B n i → S 4 (9 * k + j) = B (tkst B n i + j) - 96)
/-- is it a new word of nine letters at most -/
def zwrd (S : zSD) (p : Nat × Nat) : Nat × Nat :=
  if (if zkn B n p ≠ 257 then zrfs 1 p else if 9 < tkl B n p.2 then zrfs 2 p else p).1 = 0 ∧ zax (zsame B n S p.2) (S 0 0) = true then (4, p.2) else (if zkn B n p ≠ 257 then zrfs 1 p else if 9 < tkl B n p.2 then zrfs 2 p else p)
def zSnm (S : zSD) (l : Nat) (t : Nat → Nat) (x y d : Nat) : zSD := fun r k => if r = 0 ∧ k = 0 then S 0 0 + 1 else if r = 3 ∧ k = S 0 0 then l else if r = 4 ∧ 9 * S 0 0 ≤ k then t (k - 9 * S 0 0) else if r = 5 ∧ k = S 0 0 then x else if r = 6 ∧ k = S 0 0 then y else if r = 7 ∧ k = S 0 0 then d else S r k
/-- behind the word: two places, a sort -/
def znm2 (p : Nat × Nat) : (Nat × Nat) × Nat × Nat × Nat :=
  let p4 := zstp (zsn B n 0 60 p)
  let p5 := zstp (zsn B n 0 60 p4)
  let d := if zwd B n p5 = 8 then 1 else if zwd B n p5 = 9 then 2 else 0
  (if d = 0 then p5 else zstp p5, tkv B n p.2, tkv B n p4.2, d)
def zname (p : Nat × Nat) (g : zDr) : (Nat × Nat) × zDr :=
  if 8 ≤ g.1 0 0 then (zrfs 2 p, g) else
  let p1 := zstp p
  let r := znm2 B n (zstp (zwrd B n g.1 p1))
  (r.1, zSnm g.1 (tkl B n p1.2) (fun j => B (tkst B n p1.2 + j) - 96) r.2.1 r.2.2.1 r.2.2.2, g.2)
def zSws (S : zSD) (i v : Nat) : zSD := fun r k => if r = 12 ∧ k = i then S 12 i + 1 else if r = 8 ∧ k = 8 * i + v then S 12 i + 1 else S r k
def zwsn (i : Nat) (p : Nat × Nat) (S : zSD) : (Nat × Nat) × zSD :=
  if (zstd B n (S 0 0) p).1 ≠ 0 then (zstd B n (S 0 0) p, S) else if S 8 (8 * i + tkv B n p.2) ≠ 0 then ((4, p.2), S) else (zstp p, zSws S i (tkv B n p.2))
def zwsl (i : Nat) : Nat → Nat × Nat → zSD → (Nat × Nat) × zSD
  | 0, p, S => (p, S)
  | d + 1, p, S => if zkn B n p = 258 then zwsl i d (zwsn B n i p S).1 (zwsn B n i p S).2 else (p, S)
def zwish (p : Nat × Nat) (g : zDr) : (Nat × Nat) × zDr :=
  let p1 := zstp p
  if (zstd B n (g.1 0 0) p1).1 ≠ 0 then (zstd B n (g.1 0 0) p1, g) else
  let i := tkv B n p1.2
  if 0 < g.1 12 i then ((5, p1.2), g) else
  let r := zwsn B n i (zstp p1) g.1
  let t := zwsl B n i 8 r.1 r.2
  (t.1, t.2, g.2)
def zSfr (S : zSD) (y a b : Nat) : zSD := fun r k => if r = 1 ∧ k = 0 then S 1 0 + 1 else if r = 9 ∧ k = S 1 0 then y else if r = 10 ∧ k = S 1 0 then a else if r = 11 ∧ k = S 1 0 then b else S r k
def zfair (p : Nat × Nat) (g : zDr) : (Nat × Nat) × zDr :=
  if 12 ≤ g.1 1 0 then (zrfs 2 p, g) else
  let p1 := zstp p
  let p2 := zstp (zsn B n 0 200 p1)
  let p3 := zstd B n (g.1 0 0) p2
  let p4 := zstp p3
  let p5 := zstd B n (g.1 0 0) p4
  let p6 := if p5.1 = 0 ∧ tkv B n p2.2 = tkv B n p4.2 then (4, p5.2) else p5
  (zstp p6, zSfr g.1 (tkv B n p1.2) (tkv B n p2.2) (tkv B n p4.2), g.2)
def zSsp (S : zSD) (v : Nat) : zSD := fun r k => if r = 2 ∧ k = 0 then v else S r k
def zspd (p : Nat × Nat) (g : zDr) : (Nat × Nat) × zDr :=
  if g.2.1 = true then (zrfs 5 p, g) else
  (zstp (zsn B n 1 9 (zstp p)), zSsp g.1 (tkv B n (zstp p).2), true, g.2.2)
def zlaw' (p : Nat × Nat) (g : zDr) : (Nat × Nat) × zDr := match g.2.2 with
  | some _ => (zrfs 5 p, g)
  | none => ((zex B n 6 (zstp p, [])).1, g.1, g.2.1, some (zex B n 6 (zstp p, [])).2)
def zline (s : (Nat × Nat) × zDr) : (Nat × Nat) × zDr :=
  let r := if tkw B n s.1.2 = 7 then zname B n s.1 s.2 else if tkw B n s.1.2 = 10 then zwish B n s.1 s.2 else if tkw B n s.1.2 = 11 then zfair B n s.1 s.2 else if tkw B n s.1.2 = 12 then zspd B n s.1 s.2 else if tkw B n s.1.2 = 13 then zlaw' B n s.1 s.2 else (zrfs 1 s.1, s.2)
  (ztsg B n 59 r.1, r.2)
def zlns : Nat → (Nat × Nat) × zDr → (Nat × Nat) × zDr
  | 0, s => s
  | d + 1, s => if s.1.1 = 0 ∧ tkk B n s.1.2 ≠ 256 then zlns d (zline B n s) else s
end ZLI
def zdr0 : zDr := (fun r k => if r = 2 ∧ k = 0 then 3 else 0, false, none)
/-- what is told so far is in order -/
def zDk (g : zDr) : Prop := zSok g.1 ∧ (∀ i, i < 8 → g.1 12 i = zcu (fun v => !decide (g.1 8 (8 * i + v) = 0)) 8) ∧ (∀ i, i < 8 → ∀ v, v < 8 → g.1 8 (8 * i + v) ≠ 0 → i < g.1 0 0 ∧ v < g.1 0 0) ∧ (∀ i, i < 8 → ∀ v, v < 8 → g.1 8 (8 * i + v) ≤ g.1 12 i) ∧ zLok g.2.2
section ZLK
variable {B : Nat → Nat} {n : Nat}
theorem zDk_0 : zDk zdr0 := by
  refine ⟨⟨by decide, by decide, by decide, by decide, fun i hi => absurd hi (by show ¬ i < 0; omega), fun i hi => absurd hi (by show ¬ i < 0; omega), fun i hi => absurd hi (by show ¬ i < 0; omega), fun i hi => absurd hi (by show ¬ i < 0; omega)⟩, fun i hi => ?_, fun i hi v hv h => absurd (by show (if 8 = 2 ∧ 8 * i + v = 0 then 3 else 0) = 0; rw [if_neg (by omega)]) h, fun i hi v hv => ?_, trivial⟩
  · have e : zcu (fun v => !decide (zdr0.1 8 (8 * i + v) = 0)) 8 = 0 := zcu_lo (fun v hv => by
      show (!decide ((if 8 = 2 ∧ 8 * i + v = 0 then 3 else 0) = 0)) = false
      rw [if_neg (by omega)]
      rfl)
    rw [e]
    show (if 12 = 2 ∧ i = 0 then 3 else 0) = 0
    rw [if_neg (by omega)]
  · show (if 8 = 2 ∧ 8 * i + v = 0 then 3 else 0) ≤ _
    rw [if_neg (by omega)]
    exact Nat.zero_le _
theorem zsn_g {lo hi : Nat} {p : Nat × Nat} (h : (zstp (zsn B n lo hi p)).1 = 0) : (zsn B n lo hi p).1 = 0 := by
  by_cases c : (zsn B n lo hi p).1 = 0
  · exact c
  · rw [zstp_f c] at h
    exact absurd h c
theorem zstp_g {p : Nat × Nat} (h : (zstp p).1 = 0) : p.1 = 0 := by
  by_cases c : p.1 = 0
  · exact c
  · rw [zstp_f c] at h
    exact absurd h c
/-- what a good end says of what was behind the word -/
theorem znm2_g {p : Nat × Nat} (h : (znm2 B n p).1.1 = 0) : p.1 = 0 ∧ (zsn B n 0 60 p).1 = 0 ∧ (zsn B n 0 60 (zstp (zsn B n 0 60 p))).1 = 0 ∧ (znm2 B n p).2.1 ≤ 60 ∧ (znm2 B n p).2.2.1 ≤ 60 ∧ (znm2 B n p).2.2.2 ≤ 2 := by
  unfold znm2 at h ⊢
  dsimp only at h ⊢
  have h5 : (zstp (zsn B n 0 60 (zstp (zsn B n 0 60 p)))).1 = 0 := by
    obtain ⟨d, hd⟩ : ∃ d, (if zwd B n (zstp (zsn B n 0 60 (zstp (zsn B n 0 60 p)))) = 8 then 1 else if zwd B n (zstp (zsn B n 0 60 (zstp (zsn B n 0 60 p)))) = 9 then 2 else 0) = d := ⟨_, rfl⟩
    rw [hd] at h
    by_cases c : d = 0
    · rw [if_pos c] at h; exact h
    · rw [if_neg c] at h; exact zstp_g h
  have a2 := zsn_g h5
  have b2 := zsn_0 a2
  have a1 := zsn_g b2.1
  have b1 := zsn_0 a1
  refine ⟨b1.1, a1, a2, b1.2.2.2.2.1, b2.2.2.2.2.1, ?_⟩
  split
  · omega
  · split <;> omega
theorem zwrd_g {S : zSD} {p : Nat × Nat} (h : (zwrd B n S p).1 = 0) : p.1 = 0 ∧ tkk B n p.2 = 257 ∧ tkl B n p.2 ≤ 9 ∧ zax (zsame B n S p.2) (S 0 0) = false ∧ zwrd B n S p = p := by
  unfold zwrd at h ⊢
  obtain ⟨a, ha⟩ : ∃ a, (if zkn B n p ≠ 257 then zrfs 1 p else if 9 < tkl B n p.2 then zrfs 2 p else p) = a := ⟨_, rfl⟩
  rw [ha] at h ⊢
  by_cases c : a.1 = 0 ∧ zax (zsame B n S p.2) (S 0 0) = true
  · rw [if_pos c] at h
    exact absurd h (by simp)
  · rw [if_neg c] at h ⊢
    have hp : p.1 = 0 := by
      by_cases hp : p.1 = 0
      · exact hp
      · rw [zrfs_f hp, zrfs_f hp] at ha
        split at ha
        · rw [← ha] at h; exact absurd h hp
        · split at ha
          · rw [← ha] at h; exact absurd h hp
          · rw [← ha] at h; exact absurd h hp
    rw [zrfs_0 hp, zrfs_0 hp, zkn_0 hp] at ha
    by_cases c1 : tkk B n p.2 ≠ 257
    · rw [if_pos c1] at ha
      rw [← ha] at h
      exact absurd h (by simp)
    · rw [if_neg c1] at ha
      by_cases c2 : 9 < tkl B n p.2
      · rw [if_pos c2] at ha
        rw [← ha] at h
        exact absurd h (by simp)
      · rw [if_neg c2] at ha
        subst ha
        exact ⟨hp, by omega, by omega, Bool.eq_false_iff.mpr (fun z => c ⟨h, z⟩), rfl⟩
theorem zSnm_0 {S : zSD} {l x y d : Nat} {t : Nat → Nat} : zSnm S l t x y d 0 0 = S 0 0 + 1 := by
  unfold zSnm
  rw [if_pos ⟨rfl, rfl⟩]
theorem zSnm_o {S : zSD} {l x y d : Nat} {t : Nat → Nat} {r k : Nat} (h1 : r ≠ 0) (h2 : (r = 3 ∨ r = 5 ∨ r = 6 ∨ r = 7) → k ≠ S 0 0) (h3 : r = 4 → k < 9 * S 0 0) : zSnm S l t x y d r k = S r k := by
  unfold zSnm
  rw [if_neg (by omega), if_neg (fun z => h2 (by omega) z.2), if_neg (fun z => by have := h3 z.1; omega), if_neg (fun z => h2 (by omega) z.2), if_neg (fun z => h2 (by omega) z.2), if_neg (fun z => h2 (by omega) z.2)]
theorem zSnm_3 {S : zSD} {l x y d : Nat} {t : Nat → Nat} : zSnm S l t x y d 3 (S 0 0) = l := by
  unfold zSnm
  rw [if_neg (by omega), if_pos ⟨rfl, rfl⟩]
theorem zSnm_4 {S : zSD} {l x y d : Nat} {t : Nat → Nat} {j : Nat} : zSnm S l t x y d 4 (9 * S 0 0 + j) = t j := by
  unfold zSnm
  rw [if_neg (by omega), if_neg (by omega), if_pos ⟨rfl, by omega⟩]
  congr 1
  omega
theorem zSnm_5 {S : zSD} {l x y d : Nat} {t : Nat → Nat} : zSnm S l t x y d 5 (S 0 0) = x ∧ zSnm S l t x y d 6 (S 0 0) = y ∧ zSnm S l t x y d 7 (S 0 0) = d := by
  unfold zSnm
  refine ⟨?_, ?_, ?_⟩
  · rw [if_neg (by omega), if_neg (by omega), if_neg (by omega), if_pos ⟨rfl, rfl⟩]
  · rw [if_neg (by omega), if_neg (by omega), if_neg (by omega), if_neg (by omega), if_pos ⟨rfl, rfl⟩]
  · rw [if_neg (by omega), if_neg (by omega), if_neg (by omega), if_neg (by omega), if_neg (by omega), if_pos ⟨rfl, rfl⟩]
theorem zDk_nm {g : zDr} (hg : zDk g) {l x y d : Nat} {t : Nat → Nat} (h8 : g.1 0 0 < 8) (hl : 1 ≤ l) (hl9 : l ≤ 9) (ht : ∀ j, j < l → 1 ≤ t j ∧ t j ≤ 26) (hx : x ≤ 60) (hy : y ≤ 60) (hd : d ≤ 2) : zDk (zSnm g.1 l t x y d, g.2) := by
  obtain ⟨⟨s1, s2, s3, s4, s5, s6, s7, s8⟩, k1, k2, k3, k4⟩ := hg
  obtain ⟨S, rest⟩ := g
  dsimp only at *
  have e8 : ∀ k, zSnm S l t x y d 8 k = S 8 k := fun k => zSnm_o (by omega) (by omega) (by omega)
  have e12 : ∀ k, zSnm S l t x y d 12 k = S 12 k := fun k => zSnm_o (by omega) (by omega) (by omega)
  have e1 : ∀ k, zSnm S l t x y d 1 k = S 1 k := fun k => zSnm_o (by omega) (by omega) (by omega)
  have e2 : ∀ k, zSnm S l t x y d 2 k = S 2 k := fun k => zSnm_o (by omega) (by omega) (by omega)
  have e9 : ∀ k, zSnm S l t x y d 9 k = S 9 k := fun k => zSnm_o (by omega) (by omega) (by omega)
  have e10 : ∀ k, zSnm S l t x y d 10 k = S 10 k := fun k => zSnm_o (by omega) (by omega) (by omega)
  have e11 : ∀ k, zSnm S l t x y d 11 k = S 11 k := fun k => zSnm_o (by omega) (by omega) (by omega)
  unfold zDk zSok
  dsimp only
  simp only [e8, e12, e1, e2, e9, e10, e11, zSnm_0]
  refine ⟨⟨by omega, s2, s3, s4, fun i hi => ?_, fun i hi j hj => ?_, fun i hi k hk => ?_, fun f hf => ?_⟩, k1, fun i hi v hv h => ?_, k3, k4⟩
  · by_cases e : i = S 0 0
    · subst e
      obtain ⟨f5, f6, f7⟩ := zSnm_5 (S := S) (l := l) (x := x) (y := y) (d := d) (t := t)
      rw [zSnm_3, f5, f6, f7]
      omega
    · rw [zSnm_o (by omega) (fun _ => e) (by omega), zSnm_o (by omega) (fun _ => e) (by omega), zSnm_o (by omega) (fun _ => e) (by omega), zSnm_o (by omega) (fun _ => e) (by omega)]
      exact s5 i (by omega)
  · by_cases e : i = S 0 0
    · subst e
      rw [zSnm_3] at hj
      rw [zSnm_4]
      exact ht j hj
    · rw [zSnm_o (by omega) (fun _ => e) (by omega)] at hj
      have h9 := s5 i (by omega)
      rw [zSnm_o (by omega) (by omega) (fun _ => by omega)]
      exact s6 i (by omega) j hj
  · have h1 := k3 i (by omega) k (by omega)
    rw [k1 i (by omega)] at h1
    have h2 := zcu_le (fun v => !decide (S 8 (8 * i + v) = 0)) 8
    omega
  · have := s8 f hf
    omega
  · have := k2 i hi v hv h
    omega
/-- a wish more -/
theorem zSws_o {S : zSD} {i v r k : Nat} (h1 : r = 12 → k ≠ i) (h2 : r = 8 → k ≠ 8 * i + v) : zSws S i v r k = S r k := by
  unfold zSws
  rw [if_neg (fun z => h1 z.1 z.2), if_neg (fun z => h2 z.1 z.2)]
theorem zSws_12 {S : zSD} {i v : Nat} : zSws S i v 12 i = S 12 i + 1 ∧ zSws S i v 8 (8 * i + v) = S 12 i + 1 := by
  unfold zSws
  exact ⟨by rw [if_pos ⟨rfl, rfl⟩], by rw [if_neg (by omega), if_pos ⟨rfl, rfl⟩]⟩
theorem zcu_ad {P Q : Nat → Bool} {v : Nat} : ∀ m, v < m → P v = false → Q v = true → (∀ k, k ≠ v → Q k = P k) → zcu Q m = zcu P m + 1
  | 0, h, _, _, _ => absurd h (Nat.not_lt_zero _)
  | m + 1, h, h1, h2, h3 => by
    by_cases e : v = m
    · subst e
      rw [zcu_t h2, zcu_f h1, zcu_cg v (fun k hk => h3 k (by omega))]
    · have ih := zcu_ad m (by omega) h1 h2 h3
      cases hq : P m with
      | true => rw [zcu_t (by rw [h3 m (fun z => e z.symm)]; exact hq), zcu_t hq, ih]
      | false => rw [zcu_f (by rw [h3 m (fun z => e z.symm)]; exact hq), zcu_f hq, ih]
theorem zDk_ws {g : zDr} (hg : zDk g) {i v : Nat} (hi : i < g.1 0 0) (hv : v < g.1 0 0) (h0 : g.1 8 (8 * i + v) = 0) : zDk (zSws g.1 i v, g.2) ∧ g.1 12 i < 8 := by
  obtain ⟨⟨s1, s2, s3, s4, s5, s6, s7, s8⟩, k1, k2, k3, k4⟩ := hg
  obtain ⟨S, rest⟩ := g
  dsimp only at *
  have e : ∀ r, r ≠ 12 → r ≠ 8 → ∀ k, zSws S i v r k = S r k := fun r h1 h2 k => zSws_o (fun z => absurd z h1) (fun z => absurd z h2)
  have h8 := k1 i (by omega)
  have hc : zcu (fun w => !decide (zSws S i v 8 (8 * i + w) = 0)) 8 = zcu (fun w => !decide (S 8 (8 * i + w) = 0)) 8 + 1 := zcu_ad 8 (v := v) (by omega) (by rw [h0]; rfl) (by rw [zSws_12.2]; rfl) (fun k hk => by rw [zSws_o (by omega) (fun _ => by omega)])
  have hle := zcu_le (fun w => !decide (zSws S i v 8 (8 * i + w) = 0)) 8
  have h12 : ∀ j, j < 8 → zSws S i v 12 j = zcu (fun w => !decide (zSws S i v 8 (8 * j + w) = 0)) 8 := fun j hj => by
    by_cases ej : j = i
    · subst ej
      rw [zSws_12.1, hc, h8]
    · rw [zSws_o (fun _ => ej) (by omega), k1 j hj]
      exact zcu_cg 8 (fun w hw => by rw [zSws_o (by omega) (fun _ => by omega)])
  have hS8 : ∀ j, j < 8 → ∀ w, w < 8 → zSws S i v 8 (8 * j + w) ≤ zSws S i v 12 j := fun j hj w hw => by
    by_cases ej : j = i
    · subst ej
      rw [zSws_12.1]
      by_cases ew : w = v
      · rw [ew, zSws_12.2]
        exact Nat.le_refl _
      · rw [zSws_o (by omega) (fun _ => by omega)]
        have := k3 j hj w hw
        omega
    · rw [zSws_o (by omega) (fun _ => by omega), zSws_o (fun _ => ej) (by omega)]
      exact k3 j hj w hw
  unfold zDk zSok
  dsimp only
  refine ⟨⟨⟨?_, ?_, ?_, ?_, ?_, ?_, ?_, ?_⟩, h12, ?_, hS8, k4⟩, by omega⟩
  · rw [e 0 (by omega) (by omega)]; exact s1
  · rw [e 1 (by omega) (by omega)]; exact s2
  · rw [e 2 (by omega) (by omega)]; exact s3
  · rw [e 2 (by omega) (by omega)]; exact s4
  · intro j hj
    rw [e 0 (by omega) (by omega)] at hj
    rw [e 3 (by omega) (by omega), e 5 (by omega) (by omega), e 6 (by omega) (by omega), e 7 (by omega) (by omega)]
    exact s5 j hj
  · intro j hj k hk
    rw [e 0 (by omega) (by omega)] at hj
    rw [e 3 (by omega) (by omega)] at hk
    rw [e 4 (by omega) (by omega)]
    exact s6 j hj k hk
  · intro j hj k hk
    rw [e 0 (by omega) (by omega)] at hj hk
    have h1 := hS8 j (by omega) k (by omega)
    rw [h12 j (by omega)] at h1
    have h2 := zcu_le (fun w => !decide (zSws S i v 8 (8 * j + w) = 0)) 8
    omega
  · intro f hf
    rw [e 1 (by omega) (by omega)] at hf
    rw [e 9 (by omega) (by omega), e 10 (by omega) (by omega), e 11 (by omega) (by omega), e 0 (by omega) (by omega)]
    exact s8 f hf
  · intro j hj w hw h
    rw [e 0 (by omega) (by omega)]
    by_cases ej : j = i ∧ w = v
    · obtain ⟨rfl, rfl⟩ := ej
      exact ⟨hi, hv⟩
    · rw [zSws_o (by omega) (fun _ => by omega)] at h
      exact k2 j hj w hw h
theorem zDk_fr {g : zDr} (hg : zDk g) {y a b : Nat} (h12 : g.1 1 0 < 12) (hy : y ≤ 200) (ha : a < g.1 0 0) (hb : b < g.1 0 0) (hab : a ≠ b) : zDk (zSfr g.1 y a b, g.2) := by
  obtain ⟨⟨s1, s2, s3, s4, s5, s6, s7, s8⟩, k1, k2, k3, k4⟩ := hg
  obtain ⟨S, rest⟩ := g
  dsimp only at *
  have e : ∀ r, r ≠ 1 → r ≠ 9 → r ≠ 10 → r ≠ 11 → ∀ k, zSfr S y a b r k = S r k := fun r h1 h2 h3 h4 k => by
    unfold zSfr
    rw [if_neg (by omega), if_neg (by omega), if_neg (by omega), if_neg (by omega)]
  have e10 : zSfr S y a b 1 0 = S 1 0 + 1 := by unfold zSfr; rw [if_pos ⟨rfl, rfl⟩]
  unfold zDk zSok
  dsimp only
  simp only [e 0 (by omega) (by omega) (by omega) (by omega), e 2 (by omega) (by omega) (by omega) (by omega), e 3 (by omega) (by omega) (by omega) (by omega), e 4 (by omega) (by omega) (by omega) (by omega), e 5 (by omega) (by omega) (by omega) (by omega), e 6 (by omega) (by omega) (by omega) (by omega), e 7 (by omega) (by omega) (by omega) (by omega), e 8 (by omega) (by omega) (by omega) (by omega), e 12 (by omega) (by omega) (by omega) (by omega), e10]
  refine ⟨⟨s1, by omega, s3, s4, s5, s6, s7, fun f hf => ?_⟩, k1, k2, k3, k4⟩
  unfold zSfr
  by_cases ef : f = S 1 0
  · rw [if_neg (by omega), if_pos ⟨rfl, ef⟩, if_neg (by omega), if_neg (by omega), if_pos ⟨rfl, ef⟩, if_neg (by omega), if_neg (by omega), if_neg (by omega), if_pos ⟨rfl, ef⟩]
    exact ⟨hy, ha, hb, hab⟩
  · rw [if_neg (by omega), if_neg (fun z => ef z.2), if_neg (by omega), if_neg (by omega), if_neg (by omega), if_neg (by omega), if_neg (fun z => ef z.2), if_neg (by omega), if_neg (by omega), if_neg (by omega), if_neg (by omega), if_neg (fun z => ef z.2)]
    exact s8 f (by omega)
theorem zDk_sp {g : zDr} (hg : zDk g) {v : Nat} (h1 : 1 ≤ v) (h9 : v ≤ 9) : zDk (zSsp g.1 v, true, g.2.2) := by
  obtain ⟨⟨s1, s2, s3, s4, s5, s6, s7, s8⟩, k1, k2, k3, k4⟩ := hg
  obtain ⟨S, rest⟩ := g
  dsimp only at *
  have e : ∀ r, r ≠ 2 → ∀ k, zSsp S v r k = S r k := fun r h1 k => by
    unfold zSsp
    rw [if_neg (by omega)]
  have e2 : zSsp S v 2 0 = v := by unfold zSsp; rw [if_pos ⟨rfl, rfl⟩]
  unfold zDk zSok
  dsimp only
  simp only [e 0 (by omega), e 1 (by omega), e 3 (by omega), e 4 (by omega), e 5 (by omega), e 6 (by omega), e 7 (by omega), e 8 (by omega), e 9 (by omega), e 10 (by omega), e 11 (by omega), e 12 (by omega), e2]
  exact ⟨⟨s1, s2, h1, h9, s5, s6, s7, s8⟩, k1, k2, k3, k4⟩
theorem zDk_lw {g : zDr} (hg : zDk g) {c : List (Nat × Nat)} (hc : zLok (some c)) : zDk (g.1, g.2.1, some c) := ⟨hg.1, hg.2.1, hg.2.2.1, hg.2.2.2.1, hc⟩
end ZLK
