/-! what stands there is taken -/
section ZTA
variable {B : Nat → Nat} {n : Nat}
theorem tkl_le (ht : zTxt B n) (i : Nat) : tkl B n i ≤ 700 := by
  have := tke_le (B := B) (n := n) i
  have := ht.1
  unfold tkl
  omega
theorem tkk_lt (ht : zTxt B n) (i : Nat) : tkk B n i ≤ 259 := by
  have := ht.2.1 (tkst B n i)
  unfold tkk ztK
  split
  · omega
  · split
    · omega
    · split
      · omega
      · split <;> omega
theorem zkn_lt (ht : zTxt B n) (p : Nat × Nat) : zkn B n p ≤ 259 := by
  unfold zkn
  have := tkk_lt (B := B) ht p.2
  split <;> omega
/-- numbers -/
theorem vl_x (_ : zTxt B n) {i : Nat} {M : zM} (h : zTpx B n (0, i) M) (hk : tkk B n i = 258) : M 1 6 = nI (tkv B n i) := h.2.2.2.2.2.2.2 hk
def zsn (B : Nat → Nat) (n lo hi : Nat) (p : Nat × Nat) : Nat × Nat := if p.1 ≠ 0 then p else if tkk B n p.2 ≠ 258 then (1, p.2) else if 4 < tkl B n p.2 ∨ tkv B n p.2 < lo ∨ hi < tkv B n p.2 then (2, p.2) else p
theorem zsn_2 {lo hi : Nat} (p : Nat × Nat) : (zsn B n lo hi p).2 = p.2 := by
  unfold zsn
  split
  · rfl
  · split
    · rfl
    · split <;> rfl
theorem zsn_0 {lo hi : Nat} {p : Nat × Nat} (h : (zsn B n lo hi p).1 = 0) : p.1 = 0 ∧ tkk B n p.2 = 258 ∧ tkl B n p.2 ≤ 4 ∧ lo ≤ tkv B n p.2 ∧ tkv B n p.2 ≤ hi ∧ zsn B n lo hi p = p := by
  unfold zsn at h ⊢
  by_cases c1 : p.1 ≠ 0
  · rw [if_pos c1] at h; exact absurd h c1
  · rw [if_neg c1] at h ⊢
    by_cases c2 : tkk B n p.2 ≠ 258
    · rw [if_pos c2] at h; exact absurd h (by simp)
    · rw [if_neg c2] at h ⊢
      by_cases c3 : 4 < tkl B n p.2 ∨ tkv B n p.2 < lo ∨ hi < tkv B n p.2
      · rw [if_pos c3] at h; exact absurd h (by simp)
      · rw [if_neg c3]
        exact ⟨by omega, by omega, by omega, by omega, by omega, rfl⟩
theorem zTp_0 {p : Nat × Nat} {M : zM} (h : zTpx B n p M) : (M 1 7 = 0) = (p.1 = 0) := by
  obtain ⟨h1, h2, h3, -⟩ := h
  rw [h2]
  exact i_eq (b := 0) (by omega) (by omega)
theorem sn_x (ht : zTxt B n) {p : Nat × Nat} {M : zM} (h : zTpx B n p M) {lo hi : Nat} (hlo : lo < 2 ^ 30) (hhi : hi < 2 ^ 30) : ∃ M', F_X8_standsNumber 1 (nI lo) (nI hi) M = zI (if (zsn B n lo hi p).1 = 0 then 1 else 0) M' ∧ (zTpx B n (zsn B n lo hi p) M' ∧ zTo M M') := by
  obtain ⟨h1, h2, h3, h4, h5, h6, h7, -⟩ := id h
  have hkl := zkn_lt (B := B) ht p
  unfold F_X8_standsNumber
  rw [zjo_eq]
  have fin : ∀ (r : Nat × Nat) (M1 : zM), r = zsn B n lo hi p → zTpx B n r M1 → zTo M M1 → ∃ M', zjo (fun (w1 : Int32) (M8 : zM) => zck (zbo w1) (zI w1 M8)) (fun (k3 : Int32 → zM → zO) => zit ((M1 1 7) = 0) (k3 1 M1) (k3 0 M1)) = zI (if (zsn B n lo hi p).1 = 0 then 1 else 0) M' ∧ (zTpx B n (zsn B n lo hi p) M' ∧ zTo M M') := fun r M1 hr h' o => by
    subst hr
    rw [zjo_eq]
    by_cases c : (zsn B n lo hi p).1 = 0
    · rw [zit_t ((zTp_0 h').mpr c), if_pos c]
      try dsimp only
      rw [zbo_1, zck_t]
      exact ⟨M1, rfl, h', o⟩
    · rw [zit_f (fun z => c ((zTp_0 h').mp z)), if_neg c]
      try dsimp only
      rw [zbo_0, zck_t]
      exact ⟨M1, rfl, h', o⟩
  rw [h5]
  by_cases hp : p.1 = 0
  · obtain ⟨f, i⟩ := p
    dsimp only at hp
    subst hp
    have ekn : zkn B n (0, i) = tkk B n i := by unfold zkn; rw [if_pos rfl]
    rw [ekn] at hkl ⊢
    by_cases hk : tkk B n i = 258
    · rw [zit_t (show nI (tkk B n i) = (258 : Int32) from by rw [hk]; rfl)]
      have hv := tkv_lt hk
      have hts := tke_le (B := B) (n := n) i
      have hl := tkl_le (B := B) ht i
      unfold F_X8_size
      dsimp only at h6 h7
      rw [zbI_I, h6, h7, s_sub hts.1, zjo_eq]
      have bad : (4 < tkl B n i ∨ tkv B n i < lo ∨ hi < tkv B n i) → ∃ M', zbV (F_X8_refuse 1 2 M) (fun M5 => zjo (fun (w1 : Int32) (M8 : zM) => zck (zbo w1) (zI w1 M8)) (fun (k3 : Int32 → zM → zO) => zit ((M5 1 7) = 0) (k3 1 M5) (k3 0 M5))) = zI (if (zsn B n lo hi (0, i)).1 = 0 then 1 else 0) M' ∧ (zTpx B n (zsn B n lo hi (0, i)) M' ∧ zTo M M') := fun hb => by
        obtain ⟨M1, e1, t1, o1⟩ := rf_x h (w := 2) (by omega) (by omega)
        rw [show F_X8_refuse 1 2 M = zV M1 from e1, zbV_V]
        refine fin (zrfs 2 (0, i)) M1 ?_ t1 o1
        unfold zsn zrfs
        rw [if_pos rfl, if_neg (by simp), if_neg (by simpa using hk), if_pos hb]
      by_cases c1 : 4 < tkl B n i
      · rw [zit_t (show (4 : Int32) < nI (zpe B n (i + 1) - tkst B n i) from nI_lt (a := 4) (by unfold tkl at c1; omega) (by unfold tkl at hl; omega))]
        exact bad (Or.inl c1)
      · rw [zit_f (show ¬ (4 : Int32) < nI (zpe B n (i + 1) - tkst B n i) from (nI_nlt (by unfold tkl at c1; omega) (by omega) : ¬ nI 4 < nI (zpe B n (i + 1) - tkst B n i))), vl_x ht h hk]
        by_cases c2 : tkv B n i < lo
        · rw [zit_t (nI_lt c2 (by omega))]
          exact bad (Or.inr (Or.inl c2))
        · rw [zit_f (nI_nlt (by omega) (by omega))]
          by_cases c3 : hi < tkv B n i
          · rw [zit_f (nI_ge c3 (by omega))]
            exact bad (Or.inr (Or.inr c3))
          · rw [zit_t (nI_le (by omega) (by omega))]
            refine fin (0, i) M ?_ h zTo_rfl
            unfold zsn
            rw [if_neg (by simp), if_neg (by simpa using hk), if_neg (by simp only; omega)]
    · rw [zit_f (show ¬ nI (tkk B n i) = (258 : Int32) from fun z => hk ((nI_eq (b := 258) (by omega) (by omega)).mp z))]
      obtain ⟨M1, e1, t1, o1⟩ := rf_x h (w := 1) (by omega) (by omega)
      rw [show F_X8_refuse 1 1 M = zV M1 from e1, zbV_V]
      refine fin (zrfs 1 (0, i)) M1 ?_ t1 o1
      unfold zsn zrfs
      rw [if_pos rfl, if_neg (by simp), if_pos (by simpa using hk)]
  · have ekn : zkn B n p = 259 := by unfold zkn; rw [if_neg hp]
    rw [ekn, zit_f (by decide)]
    obtain ⟨M1, e1, t1, o1⟩ := rf_x h (w := 1) (by omega) (by omega)
    rw [show F_X8_refuse 1 1 M = zV M1 from e1, zbV_V]
    refine fin (zrfs 1 p) M1 ?_ t1 o1
    unfold zsn zrfs
    rw [if_neg hp, if_pos hp]
theorem tn_x (ht : zTxt B n) {p : Nat × Nat} {M : zM} (h : zTpx B n p M) {lo hi : Nat} (hlo : lo < 2 ^ 30) (hhi : hi < 2 ^ 30) : ∃ M', F_X8_takeNumber 1 (nI lo) (nI hi) M = zI (nI (if (zsn B n lo hi p).1 = 0 then tkv B n p.2 else lo)) M' ∧ (zTpx B n (zstp (zsn B n lo hi p)) M' ∧ zTo M M') := by
  obtain ⟨M1, e1, t1, o1⟩ := sn_x ht h hlo hhi
  obtain ⟨M2, e2, t2, o2⟩ := st_x ht t1
  unfold F_X8_takeNumber
  rw [e1, zbI_I, zjo_eq]
  by_cases c : (zsn B n lo hi p).1 = 0
  · obtain ⟨a1, a2, -, -, -, a6⟩ := zsn_0 c
    have t1' : zTpx B n (0, p.2) M1 := by
      rw [a6] at t1
      rw [← a1]
      exact t1
    rw [if_pos c, if_pos c, zit_f (by decide), vl_x ht t1' a2]
    try dsimp only
    rw [e2, zbV_V]
    exact ⟨M2, rfl, t2, zTo_tr o1 o2⟩
  · rw [if_neg c, if_neg c, zit_t rfl]
    try dsimp only
    rw [e2, zbV_V]
    exact ⟨M2, rfl, t2, zTo_tr o1 o2⟩
def zstd (B : Nat → Nat) (n k : Nat) (p : Nat × Nat) : Nat × Nat := if (zsn B n 0 9999 p).1 ≠ 0 then zsn B n 0 9999 p else if k ≤ tkv B n p.2 then (3, p.2) else p
theorem zstd_0 {k : Nat} {p : Nat × Nat} (h : (zstd B n k p).1 = 0) : p.1 = 0 ∧ tkk B n p.2 = 258 ∧ tkl B n p.2 ≤ 4 ∧ tkv B n p.2 < k ∧ zstd B n k p = p := by
  unfold zstd at h ⊢
  by_cases c1 : (zsn B n 0 9999 p).1 ≠ 0
  · rw [if_pos c1] at h; exact absurd h c1
  · rw [if_neg c1] at h ⊢
    obtain ⟨a1, a2, a3, a4, a5, a6⟩ := zsn_0 (by omega : (zsn B n 0 9999 p).1 = 0)
    by_cases c2 : k ≤ tkv B n p.2
    · rw [if_pos c2] at h; exact absurd h (by simp)
    · rw [if_neg c2]
      exact ⟨a1, a2, a3, by omega, rfl⟩
theorem zstd_2 {k : Nat} (p : Nat × Nat) : (zstd B n k p).2 = p.2 := by
  unfold zstd
  split
  · exact zsn_2 p
  · split <;> rfl
theorem sdt_x (ht : zTxt B n) {p : Nat × Nat} {M : zM} (h : zTpx B n p M) {k : Nat} (hk : k < 2 ^ 30) : ∃ M', F_X8_standsTold 1 (nI k) M = zI (if (zstd B n k p).1 = 0 then 1 else 0) M' ∧ (zTpx B n (zstd B n k p) M' ∧ zTo M M') := by
  obtain ⟨M1, e1, t1, o1⟩ := sn_x ht h (lo := 0) (hi := 9999) (by omega) (by omega)
  have fin : ∀ (r : Nat × Nat) (M1 : zM), r = zstd B n k p → zTpx B n r M1 → zTo M M1 → ∃ M', zjo (fun (w1 : Int32) (M8 : zM) => zck (zbo w1) (zI w1 M8)) (fun (k3 : Int32 → zM → zO) => zit ((M1 1 7) = 0) (k3 1 M1) (k3 0 M1)) = zI (if (zstd B n k p).1 = 0 then 1 else 0) M' ∧ (zTpx B n (zstd B n k p) M' ∧ zTo M M') := fun r M1 hr h' o => by
    subst hr
    rw [zjo_eq]
    by_cases c : (zstd B n k p).1 = 0
    · rw [zit_t ((zTp_0 h').mpr c), if_pos c]
      try dsimp only
      rw [zbo_1, zck_t]
      exact ⟨M1, rfl, h', o⟩
    · rw [zit_f (fun z => c ((zTp_0 h').mp z)), if_neg c]
      try dsimp only
      rw [zbo_0, zck_t]
      exact ⟨M1, rfl, h', o⟩
  unfold F_X8_standsTold
  rw [show F_X8_standsNumber 1 0 9999 M = _ from e1, zbI_I, zjo_eq]
  by_cases c : (zsn B n 0 9999 p).1 = 0
  · obtain ⟨a1, a2, a3, a4, a5, a6⟩ := zsn_0 c
    rw [a6] at t1
    have t1' : zTpx B n (0, p.2) M1 := by rw [← a1]; exact t1
    rw [if_pos c, zit_f (by decide), vl_x ht t1' a2]
    by_cases c2 : k ≤ tkv B n p.2
    · rw [zit_f (nI_nlt c2 (by omega))]
      obtain ⟨M2, e2, t2, o2⟩ := rf_x t1 (w := 3) (by omega) (by omega)
      rw [show F_X8_refuse 1 3 M1 = zV M2 from e2, zbV_V]
      refine fin (zrfs 3 p) M2 ?_ t2 (zTo_tr o1 o2)
      unfold zstd zrfs
      rw [if_pos a1, if_neg (by omega), if_pos c2]
    · rw [zit_t (nI_lt (by omega) (by omega))]
      refine fin p M1 ?_ t1 o1
      unfold zstd
      rw [if_neg (by omega), if_neg c2]
  · rw [if_neg c, zit_t rfl]
    refine fin _ M1 ?_ t1 o1
    unfold zstd
    rw [if_pos c]
def ztsg (B : Nat → Nat) (n c : Nat) (p : Nat × Nat) : Nat × Nat := if zkn B n p = c then zstp p else zrfs 1 p
theorem ts_x (ht : zTxt B n) {p : Nat × Nat} {M : zM} (h : zTpx B n p M) {c : Nat} (hc : c < 256) : ∃ M', F_X8_takeSign 1 (nI c) M = zV M' ∧ (zTpx B n (ztsg B n c p) M' ∧ zTo M M') := by
  have hkl := zkn_lt (B := B) ht p
  obtain ⟨h1, h2, h3, h4, h5, h6, h7, -⟩ := id h
  unfold F_X8_takeSign ztsg
  rw [zjo_eq, h5]
  by_cases e : zkn B n p = c
  · rw [zit_t (by rw [e]), if_pos e]
    obtain ⟨M1, e1, t1, o1⟩ := st_x ht h
    rw [e1, zbV_V]
    exact ⟨M1, rfl, t1, o1⟩
  · rw [zit_f (fun z => e ((nI_eq (by omega) (by omega)).mp z)), if_neg e]
    obtain ⟨M1, e1, t1, o1⟩ := rf_x h (w := 1) (by omega) (by omega)
    rw [show F_X8_refuse 1 1 M = zV M1 from e1, zbV_V]
    exact ⟨M1, rfl, t1, o1⟩
/-! the reference's -/
def zMp (M M' : zM) : Prop := (∀ k, k < 16 ∨ k = 18 ∨ k = 19 ∨ 26 < k → k ≠ 1026 → M' 79 k = M 79 k) ∧ zoff [79] M M'
theorem zMp_rfl {M : zM} : zMp M M := ⟨fun _ _ _ => rfl, zoff_rfl⟩
theorem zMp_tr {M M' M'' : zM} (h : zMp M M') (h' : zMp M' M'') : zMp M M'' := ⟨fun k hk h2 => (h'.1 k hk h2).trans (h.1 k hk h2), zoff_trans h.2 h'.2⟩
theorem zMp_o {M M' : zM} (h : zMo M M') : zMp M M' := ⟨fun k hk h2 => h.1 k (by omega) h2, h.2⟩
theorem zMp_w {M M' : zM} (h : ∀ k, k ≠ 16 → k ≠ 17 → M' 79 k = M 79 k) (o : zoff [79] M M') : zMp M M' := ⟨fun k hk _ => h k (by omega) (by omega), o⟩
theorem gd_m {p : Nat × Nat} {M : zM} (h : zTmx B n p M) : F_X12_isGood 79 M = zI (if p.1 = 0 then 1 else 0) M := by
  obtain ⟨h1, h2, h3, -⟩ := h
  unfold F_X12_isGood
  rw [zjo_eq, h2]
  by_cases c : p.1 = 0
  · rw [zit_t (by rw [c]; rfl), if_pos c]
    try dsimp only
    rw [zbo_1, zck_t]
  · rw [zit_f (show ¬ nI p.1 = (0 : Int32) from fun z => c ((nI_eq (b := 0) (by omega) (by omega)).mp z)), if_neg c]
    try dsimp only
    rw [zbo_0, zck_t]
theorem so_m {p : Nat × Nat} {M : zM} (h : zTmx B n p M) : M 79 21 = nI (zso (tkk B n p.2)) := h.2.2.2.2.2.1
theorem s2_m {p : Nat × Nat} {M : zM} (h : zTmx B n p M) : (M 79 21 = 2) = (tkk B n p.2 = 258) := by
  have := zso_lt (tkk B n p.2)
  rw [so_m h, ← zso_2]
  exact i_eq (b := 2) (by omega) (by omega)
theorem s1_m {p : Nat × Nat} {M : zM} (h : zTmx B n p M) : (M 79 21 = 1) = (tkk B n p.2 = 257) := by
  have := zso_lt (tkk B n p.2)
  rw [so_m h, ← zso_1]
  exact i_eq (b := 1) (by omega) (by omega)
theorem s0_m {p : Nat × Nat} {M : zM} (h : zTmx B n p M) : (M 79 21 = 0) = (tkk B n p.2 = 256) := by
  have := zso_lt (tkk B n p.2)
  rw [so_m h, ← zso_0]
  exact i_eq (b := 0) (by omega) (by omega)
theorem slg_m {p : Nat × Nat} {M : zM} (h : zTmx B n p M) : M 79 23 = nI (tkl B n p.2) := h.2.2.2.2.2.2.2.1
theorem sv_m {p : Nat × Nat} {M : zM} (h : zTmx B n p M) (hk : tkk B n p.2 = 258) : M 79 24 = nI (tkv B n p.2) := h.2.2.2.2.2.2.2.2.1 hk
/-- is it this sign -/
theorem isg_m (ht : zTxt B n) {p : Nat × Nat} {M : zM} (h : zTmx B n p M) {c : Nat} (hc : c ∈ zsgn) : F_X12_isSign 79 (nI c) M = zI (if tkk B n p.2 = c then 1 else 0) M := by
  have hc2 : ∀ c ∈ zsgn, c < 256 ∧ ¬ (97 ≤ c ∧ c ≤ 122) ∧ ¬ (48 ≤ c ∧ c ≤ 57) := by decide
  obtain ⟨c1, c3, c4⟩ := hc2 c hc
  have h25 : M 79 25 = nI (B (tkst B n p.2)) := h.2.2.2.2.2.2.2.2.2.1
  have hb := ht.2.1 (tkst B n p.2)
  have hs := tkst_le (B := B) (n := n) p.2
  unfold F_X12_isSign
  rw [zjo_eq, zjo_eq, so_m h, h25]
  have hlt := zso_lt (tkk B n p.2)
  by_cases e : tkk B n p.2 = c
  · have eB : B (tkst B n p.2) = c := by
      unfold tkk ztK at e
      by_cases d0 : n ≤ tkst B n p.2
      · rw [if_pos d0] at e; omega
      · rw [if_neg d0] at e
        by_cases d1 : 97 ≤ B (tkst B n p.2) ∧ B (tkst B n p.2) ≤ 122
        · rw [if_pos d1] at e; omega
        · rw [if_neg d1] at e
          by_cases d2 : 48 ≤ B (tkst B n p.2) ∧ B (tkst B n p.2) ≤ 57
          · rw [if_pos d2] at e; omega
          · rw [if_neg d2] at e
            by_cases d3 : B (tkst B n p.2) ∈ zsgn
            · rw [if_pos d3] at e; exact e
            · rw [if_neg d3] at e; omega
    have es : zso (tkk B n p.2) = 3 := by
      rw [e]
      unfold zso
      rw [if_neg (by omega), if_neg (by omega), if_neg (by omega), if_neg (by omega)]
    rw [es, zit_t (by decide), eB, zit_t rfl, if_pos e]
    try dsimp only
    rw [zbo_1, zck_t]
  · rw [if_neg e]
    by_cases d : zso (tkk B n p.2) = 3
    · rw [d, zit_t (by decide)]
      have : B (tkst B n p.2) ≠ c := fun z => by
        apply e
        have hn : tkst B n p.2 < n := by
          by_cases d0 : n ≤ tkst B n p.2
          · have : tkk B n p.2 = 256 := by unfold tkk ztK; rw [if_pos d0]
            rw [this] at d
            exact absurd d (by decide)
          · omega
        unfold tkk ztK
        rw [if_neg (by omega), z, if_neg c3, if_neg c4, if_pos hc]
      rw [zit_f (fun z => this ((nI_eq (by omega) (by omega)).mp z))]
      try dsimp only
      rw [zbo_0, zck_t]
    · rw [zit_f (show ¬ nI (zso (tkk B n p.2)) = (3 : Int32) from fun z => d ((nI_eq (b := 3) (by omega) (by omega)).mp z))]
      try dsimp only
      rw [zbo_0, zck_t]
theorem nu_m (ht : zTxt B n) {p : Nat × Nat} {M : zM} (h : zTmx B n p M) {lo hi : Nat} (hlo : lo < 2 ^ 30) (hhi : hi < 2 ^ 30) : ∃ v M', F_X12_number 79 (nI lo) (nI hi) M = zI v M' ∧ (((zsn B n lo hi p).1 = 0 → v = nI (tkv B n p.2)) ∧ zTmx B n (zstp (zsn B n lo hi p)) M' ∧ zMp M M') := by
  unfold F_X12_number
  rw [gd_m h, zbI_I]
  by_cases hp : p.1 = 0
  · obtain ⟨f, i⟩ := p
    dsimp only at hp
    subst hp
    have hl := tkl_le (B := B) ht i
    rw [if_pos rfl, zit_f (by decide), zjo_eq]
    try dsimp only
    have bad : ∀ w, 1 ≤ w → w ≤ 5 → zsn B n lo hi (0, i) = (w, i) → ∃ v M', zbV (F_X12_wrong 79 (nI w) M) (fun M5 => zlt (M5 79 24) (fun v1 => zbI (F_X12_isGood 79 M5) (fun r2 M6 => zjo (fun (M8 : zM) => zI v1 M8) (fun (k3 : zM → zO) => zit (r2 = 0) (k3 M6) (zbV (F_X12_goes 79 M6) (fun M7 => k3 M7)))))) = zI v M' ∧ (((zsn B n lo hi (0, i)).1 = 0 → v = nI (tkv B n i)) ∧ zTmx B n (zstp (zsn B n lo hi (0, i))) M' ∧ zMp M M') := fun w w1 w5 hz => by
      obtain ⟨M1, e1, t1, k1, o1⟩ := wr_m h w1 w5
      have ez : zrfs w (0, i) = (w, i) := by unfold zrfs; rw [if_pos rfl]
      rw [ez] at t1
      rw [e1, zbV_V, zlt_eq, gd_m t1, zbI_I, if_neg (show ¬ (w, i).1 = 0 from by dsimp only; omega), zjo_eq, zit_t rfl, hz]
      refine ⟨_, M1, rfl, fun z => ?_, ?_, zMp_w k1 o1⟩
      · dsimp only at z; omega
      · unfold zstp
        rw [if_neg (show ¬ (w, i).1 = 0 from by dsimp only; omega)]
        exact t1
    by_cases hk : tkk B n i = 258
    · have hv := tkv_lt hk
      rw [zit_t ((s2_m h).mpr hk), zjo_eq, slg_m h, sv_m h hk]
      try dsimp only
      have hz2 : (4 < tkl B n i ∨ tkv B n i < lo ∨ hi < tkv B n i) → zsn B n lo hi (0, i) = (2, i) := fun hb => by
        unfold zsn
        rw [if_neg (by simp), if_neg (by simpa using hk), if_pos hb]
      by_cases c1 : 4 < tkl B n i
      · rw [zit_t (show (4 : Int32) < nI (tkl B n i) from nI_lt (a := 4) c1 (by omega))]
        exact bad 2 (by omega) (by omega) (hz2 (Or.inl c1))
      · rw [zit_f (show ¬ (4 : Int32) < nI (tkl B n i) from (nI_nlt (by omega) (by omega) : ¬ nI 4 < nI (tkl B n i)))]
        by_cases c2 : tkv B n i < lo
        · rw [zit_t (nI_lt c2 (by omega))]
          exact bad 2 (by omega) (by omega) (hz2 (Or.inr (Or.inl c2)))
        · rw [zit_f (nI_nlt (by omega) (by omega))]
          by_cases c3 : hi < tkv B n i
          · rw [zit_f (nI_ge c3 (by omega))]
            exact bad 2 (by omega) (by omega) (hz2 (Or.inr (Or.inr c3)))
          · have hz : zsn B n lo hi (0, i) = (0, i) := by
              unfold zsn
              rw [if_neg (by simp), if_neg (by simpa using hk), if_neg (by simp only; omega)]
            obtain ⟨M1, e1, t1, o1⟩ := goz_m ht h
            rw [zit_t (nI_le (by omega) (by omega)), zlt_eq, gd_m h, zbI_I, if_pos rfl, zjo_eq, zit_f (by decide), e1, zbV_V, hz]
            exact ⟨_, M1, rfl, fun _ => rfl, t1, zMp_o o1⟩
    · rw [zit_f (fun z => hk ((s2_m h).mp z))]
      refine bad 1 (by omega) (by omega) ?_
      unfold zsn
      rw [if_neg (by simp), if_pos (by simpa using hk)]
  · have hz : zsn B n lo hi p = p := by
      unfold zsn
      rw [if_pos hp]
    rw [if_neg hp, zit_t rfl, hz]
    refine ⟨_, M, rfl, fun z => absurd z hp, ?_, zMp_rfl⟩
    unfold zstp
    rw [if_neg hp]
    exact h
theorem on_m (ht : zTxt B n) {p : Nat × Nat} {M : zM} (h : zTmx B n p M) {k : Nat} (hk : k < 2 ^ 30) (h27 : M 79 27 = nI k) : ∃ v M', F_X12_oneHere 79 M = zI v M' ∧ (((zstd B n k p).1 = 0 → v = nI (tkv B n p.2)) ∧ zTmx B n (zstd B n k p) M' ∧ (∀ j, j ≠ 16 → j ≠ 17 → M' 79 j = M 79 j) ∧ zoff [79] M M') := by
  unfold F_X12_oneHere
  rw [gd_m h, zbI_I]
  by_cases hp : p.1 = 0
  · obtain ⟨f, i⟩ := p
    dsimp only at hp
    subst hp
    have hl := tkl_le (B := B) ht i
    rw [if_pos rfl, zit_f (by decide), zjo_eq]
    try dsimp only
    have bad : ∀ w, 1 ≤ w → w ≤ 5 → zstd B n k (0, i) = (w, i) → ∃ v M', zbV (F_X12_wrong 79 (nI w) M) (fun M5 => zI (M5 79 24) M5) = zI v M' ∧ (((zstd B n k (0, i)).1 = 0 → v = nI (tkv B n i)) ∧ zTmx B n (zstd B n k (0, i)) M' ∧ (∀ j, j ≠ 16 → j ≠ 17 → M' 79 j = M 79 j) ∧ zoff [79] M M') := fun w w1 w5 hz => by
      obtain ⟨M1, e1, t1, k1, o1⟩ := wr_m h w1 w5
      have ez : zrfs w (0, i) = (w, i) := by unfold zrfs; rw [if_pos rfl]
      rw [ez] at t1
      rw [e1, zbV_V, hz]
      exact ⟨_, M1, rfl, fun z => by dsimp only at z; omega, t1, k1, o1⟩
    by_cases hk' : tkk B n i = 258
    · have hv := tkv_lt hk'
      rw [zit_t ((s2_m h).mpr hk'), slg_m h, sv_m h hk', h27]
      try dsimp only
      by_cases c1 : 4 < tkl B n i
      · rw [zit_f (show ¬ nI (tkl B n i) ≤ (4 : Int32) from (nI_ge c1 (by omega) : ¬ nI (tkl B n i) ≤ nI 4))]
        refine bad 2 (by omega) (by omega) ?_
        have hz2 : zsn B n 0 9999 (0, i) = (2, i) := by
          unfold zsn
          rw [if_neg (by simp), if_neg (by simpa using hk'), if_pos (Or.inl c1)]
        unfold zstd
        rw [hz2, if_pos (by simp)]
      · rw [zit_t (show nI (tkl B n i) ≤ (4 : Int32) from nI_le (b := 4) (by omega) (by omega))]
        have hz : zsn B n 0 9999 (0, i) = (0, i) := by
          unfold zsn
          rw [if_neg (by simp), if_neg (by simpa using hk'), if_neg (by simp only; omega)]
        by_cases c2 : k ≤ tkv B n i
        · rw [zit_f (nI_nlt c2 (by omega))]
          refine bad 3 (by omega) (by omega) ?_
          unfold zstd
          rw [hz, if_neg (by simp), if_pos c2]
        · rw [zit_t (nI_lt (by omega) (by omega))]
          have hd : zstd B n k (0, i) = (0, i) := by
            unfold zstd
            rw [hz, if_neg (by simp), if_neg c2]
          rw [hd]
          exact ⟨_, M, rfl, fun _ => rfl, h, fun _ _ _ => rfl, zoff_rfl⟩
    · rw [zit_f (fun z => hk' ((s2_m h).mp z))]
      refine bad 1 (by omega) (by omega) ?_
      have hz2 : zsn B n 0 9999 (0, i) = (1, i) := by
        unfold zsn
        rw [if_neg (by simp), if_pos (by simpa using hk')]
      unfold zstd
      rw [hz2, if_pos (by simp)]
  · have hz : zstd B n k p = p := by
      unfold zstd zsn
      rw [if_pos hp, if_pos hp]
    rw [if_neg hp, zit_t rfl, hz]
    exact ⟨_, M, rfl, fun z => absurd z hp, h, fun _ _ _ => rfl, zoff_rfl⟩
end ZTA
