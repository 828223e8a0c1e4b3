/-! ship -/
/-- one way of a place, so many towards another -/
def zmx (t p s : Nat) : Nat := if t < p then p - min s (p - t) else p + min s (t - p)
theorem zmx_le {t p s : Nat} (ht : t ≤ 60) (hp : p ≤ 60) : zmx t p s ≤ 60 := by
  unfold zmx
  split <;> omega
theorem zmx_0 {t p : Nat} : zmx t p 0 = p := by
  unfold zmx
  split <;> omega
theorem zmx_t {t s : Nat} : zmx t t s = t := by
  unfold zmx
  split <;> omega
def zst1 (t p : Nat) : Nat := if t ≤ p then p - 1 else p + 1
theorem zmx_s {t p s : Nat} (h : p ≠ t) (hs : 1 ≤ s) : zmx t p s = zmx t (zst1 t p) (s - 1) := by
  unfold zmx zst1
  by_cases h1 : t ≤ p
  · rw [if_pos h1, if_pos (by omega)]
    by_cases h2 : t < p - 1
    · rw [if_pos h2]; omega
    · rw [if_neg h2]; omega
  · rw [if_neg h1, if_neg (by omega), if_neg (by omega)]
    omega
theorem zmx_r {t p s : Nat} (h : p ≠ t) (hs : 1 ≤ s) : s - min s (zdf t p) = (s - 1) - min (s - 1) (zdf t (zst1 t p)) := by
  unfold zdf zst1
  by_cases h1 : t ≤ p
  · rw [if_pos h1]; omega
  · rw [if_neg h1]; omega
def zsy (tx px v : Nat) : Nat := v - min v (zdf tx px)
theorem sp_m {tx ty px py v : Nat} (x3 x6 : Int32) (K : Int32 → Int32 → zM → zO) (M : zM) (h1 : tx ≤ 60) (h2 : ty ≤ 60) (h3 : px ≤ 60) (h4 : py ≤ 60) (h5 : v ≤ 9) : F_X12_ship_L142 79 x3 x6 (nI tx) (nI ty) K zN (nI px) (nI py) (nI v) M = K (nI (zmx tx px v)) (nI (zmx ty py (zsy tx px v))) M := by
  refine zwhl (α := Nat × Nat × Nat) (fun f p => F_X12_ship_L142 79 x3 x6 (nI tx) (nI ty) K f (nI p.1) (nI p.2.1) (nI p.2.2) M) (fun d p => d = p.2.2 ∧ p.1 ≤ 60 ∧ p.2.1 ≤ 60 ∧ p.2.2 ≤ 9 ∧ zmx tx p.1 p.2.2 = zmx tx px v ∧ zmx ty p.2.1 (zsy tx p.1 p.2.2) = zmx ty py (zsy tx px v)) (fun o => o = K (nI (zmx tx px v)) (nI (zmx ty py (zsy tx px v))) M) ?_ v zN (px, py, v) (zN_ge (by omega)) ⟨rfl, h3, h4, h5, rfl, rfl⟩
  rintro f d ⟨a, b, s⟩ ⟨hd, ha, hb, hs, e1, e2⟩
  simp only at hd ha hb hs e1 e2
  subst hd
  show F_X12_ship_L142 79 x3 x6 (nI tx) (nI ty) K (f + 1) (nI a) (nI b) (nI d) M = _ ∨ _
  rw [F_X12_ship_L142, ← e1, ← e2]
  by_cases h0 : d = 0
  · subst h0
    refine Or.inl ?_
    rw [zit_t (by decide), zmx_0, show zsy tx a 0 = 0 from Nat.zero_sub _, zmx_0]
  · rw [zit_f (nI_nle (by omega) (by omega))]
    simp only [zjo_eq, zlt_eq]
    by_cases p1 : a = tx
    · subst p1
      rw [zit_t rfl, zit_t rfl]
      by_cases p2 : b = ty
      · subst p2
        refine Or.inl ?_
        rw [zit_t rfl, zmx_t, zmx_t]
      · rw [zit_f (fun e => p2 ((nI_eq (by omega) (by omega)).mp e))]
        have hz : ∀ s, zsy a a s = s := fun s => by unfold zsy zdf; omega
        refine Or.inr ⟨d - 1, (a, zst1 ty b, d - 1), by omega, ?_, rfl, ha, ?_, by simp only; omega, ?_, ?_⟩
        · show _ = F_X12_ship_L142 79 x3 x6 (nI a) (nI ty) K f (nI a) (nI (zst1 ty b)) (nI (d - 1)) M
          unfold zst1
          by_cases p3 : ty ≤ b
          · rw [zit_t (nI_le p3 (by omega)), if_pos p3, show (1 : Int32) = nI 1 from rfl, s_addn (by omega), s_addn (by omega)]
          · rw [zit_f (nI_ge (by omega) (by omega)), if_neg p3, nI_1, show (1 : Int32) = nI 1 from rfl, s_addn (by omega)]
        · simp only
          unfold zst1
          split <;> omega
        · simp only
          rw [zmx_t, zmx_t]
        · simp only
          rw [hz, hz, zmx_s p2 (by omega)]
    · rw [zit_f (fun e => p1 ((nI_eq (by omega) (by omega)).mp e)), zit_f (fun e => p1 ((nI_eq (by omega) (by omega)).mp e))]
      refine Or.inr ⟨d - 1, (zst1 tx a, b, d - 1), by omega, ?_, rfl, ?_, hb, by simp only; omega, ?_, ?_⟩
      · show _ = F_X12_ship_L142 79 x3 x6 (nI tx) (nI ty) K f (nI (zst1 tx a)) (nI b) (nI (d - 1)) M
        unfold zst1
        by_cases p3 : tx ≤ a
        · rw [zit_t (nI_le p3 (by omega)), if_pos p3, show (1 : Int32) = nI 1 from rfl, s_addn (by omega), s_addn (by omega)]
        · rw [zit_f (nI_ge (by omega) (by omega)), if_neg p3, nI_1, show (1 : Int32) = nI 1 from rfl, s_addn (by omega)]
      · simp only
        unfold zst1
        split <;> omega
      · simp only
        rw [zmx_s p1 (by omega)]
      · simp only
        have : zsy tx a d = zsy tx (zst1 tx a) (d - 1) := zmx_r p1 (by omega)
        rw [this]
/-- a voyage from a year on -/
def zvy (S : zSD) (L : zLw) (i : Nat) : Nat → Nat → Nat → Nat → zWD → Int32
  | 0, _, _, _, _ => -1
  | d + 1, k, px, py, w => if zmx (S 5 (w.1 i)) px (S 2 0) = S 5 (w.1 i) ∧ zmx (S 6 (w.1 i)) py (zsy (S 5 (w.1 i)) px (S 2 0)) = S 6 (w.1 i) then nI k else zvy S L i d (k + 1) (zmx (S 5 (w.1 i)) px (S 2 0)) (zmx (S 6 (w.1 i)) py (zsy (S 5 (w.1 i)) px (S 2 0))) (zWyr S L w)
theorem z_abs0 {p q : Nat} (hp : p < 2 ^ 31) (hq : q < 2 ^ 31) : (if (0 : Int32) ≤ nI p - nI q then nI p - nI q else 0 - (nI p - nI q)) = nI (zdf p q) := z_abs hp hq
section ZSH
variable {S : zSD} {L : zLw} {M : zM}
theorem ff_x (hS : zSx S M) (ho : zSok S) {n px py : Nat} (hn : n < S 0 0) (h1 : px ≤ 60) (h2 : py ≤ 60) : F_X6_farFrom 3 (nI n) (nI px) (nI py) M = zI (nI (zdf (S 5 n) px + zdf (S 6 n) py)) M := by
  have h8 := so_n ho
  obtain ⟨a3, b3, a5, a6, a7⟩ := so_i ho n hn
  unfold F_X6_farFrom
  simp (disch := omega) only [zck_t, gr_3_6, gr_3_7, zin_k, zix_k, sx_5 hS, sx_6 hS, z_abs0, nI_add]
theorem sl_x (hS : zSx S M) (ho : zSok S) (hl : zLok L) (hL : zLx L M) {i : Nat} (hi : i < S 0 0) {w : zWD} (hW : zWx 43 w M) (hk : zWok S w) {px py : Nat} (hpx : px ≤ 60) (hpy : py ≤ 60) {n0 : Nat} (hn0 : 100 < n0) : ∃ M', F_X11_sail_L9 0 (nI i) (fun (M7 : zM) => zI (-1) M7) n0 (nI px) (nI py) (nI 1) M = zI (zvy S L i 100 1 px py w) M' ∧ zoff [10, 12, 43, 44, 45] M M' := by
  have h8 := so_n ho
  have hv : S 2 0 ≤ 9 := ho.2.2.2.1
  refine zwhl (α := (Nat × Nat × Nat) × zWD × zM) (fun f p => F_X11_sail_L9 0 (nI i) (fun (M7 : zM) => zI (-1) M7) f (nI p.1.1) (nI p.1.2.1) (nI p.1.2.2) p.2.2) (fun d p => p.1.2.2 + d = 101 ∧ 1 ≤ p.1.2.2 ∧ p.1.1 ≤ 60 ∧ p.1.2.1 ≤ 60 ∧ zWx 43 p.2.1 p.2.2 ∧ zWok S p.2.1 ∧ zoff [10, 12, 43, 44, 45] M p.2.2 ∧ zvy S L i d p.1.2.2 p.1.1 p.1.2.1 p.2.1 = zvy S L i 100 1 px py w) (fun o => ∃ M', o = zI (zvy S L i 100 1 px py w) M' ∧ zoff [10, 12, 43, 44, 45] M M') ?_ 100 n0 ((px, py, 1), w, M) hn0 ⟨rfl, Nat.le_refl _, hpx, hpy, hW, hk, zoff_rfl, rfl⟩
  rintro f d ⟨⟨a, b, k⟩, u, M1⟩ ⟨hd, hk1, ha, hb, hW1, hku, o1, hR⟩
  simp only at hd hk1 ha hb hW1 hku o1 hR
  show (∃ M', F_X11_sail_L9 0 (nI i) (fun (M7 : zM) => zI (-1) M7) (f + 1) (nI a) (nI b) (nI k) M1 = _ ∧ _) ∨ _
  cases d with
  | zero =>
    refine Or.inl ⟨M1, ?_, o1⟩
    rw [F_X11_sail_L9, zit_t (show (100 : Int32) < nI k from nI_lt (a := 100) (by omega) (by omega)), ← hR]
    rfl
  | succ d =>
    have hui := wo_n hku i hi
    obtain ⟨a3, b3, a5, a6, a7⟩ := so_i ho _ hui
    have hS1 : zSx S M1 := zSx_off hS (fun i hi => o1 i (fun hz => by
      simp only [List.mem_cons, List.mem_nil_iff, or_false] at hi hz
      omega))
    have hL1 : zLx L M1 := zLx_off hL (o1 9 (by decide)) (o1 11 (by decide))
    have w44 : M1 44 i = nI (u.1 i) := hW1.1 i (by omega)
    obtain ⟨tx, htx⟩ : ∃ tx, S 5 (u.1 i) = tx := ⟨_, rfl⟩
    obtain ⟨ty, hty⟩ : ∃ ty, S 6 (u.1 i) = ty := ⟨_, rfl⟩
    obtain ⟨v, hvv⟩ : ∃ v, S 2 0 = v := ⟨_, rfl⟩
    have e13 : M1 13 (u.1 i) = nI tx := by rw [sx_5 hS1 _ hui, htx]
    have e14 : M1 14 (u.1 i) = nI ty := by rw [sx_6 hS1 _ hui, hty]
    have e32 : M1 3 2 = nI v := by rw [sx_v hS1, hvv]
    rw [htx] at a5
    rw [hty] at a6
    rw [hvv] at hv
    have m1 : zmx tx a v ≤ 60 := zmx_le a5 ha
    have m2 : zmx ty b (zsy tx a v) ≤ 60 := zmx_le a6 hb
    replace hR : (if zmx (S 5 (u.1 i)) a (S 2 0) = S 5 (u.1 i) ∧ zmx (S 6 (u.1 i)) b (zsy (S 5 (u.1 i)) a (S 2 0)) = S 6 (u.1 i) then nI k else zvy S L i d (k + 1) (zmx (S 5 (u.1 i)) a (S 2 0)) (zmx (S 6 (u.1 i)) b (zsy (S 5 (u.1 i)) a (S 2 0))) (zWyr S L u)) = _ := hR
    rw [htx, hty, hvv] at hR
    have z8 : zin (nI (u.1 i)) 8 = true := zin_k (by omega) (by omega)
    have zu : zix (nI (u.1 i)) = u.1 i := zix_k (by omega)
    have ax : (if nI (zdf tx a) < nI v then nI (zdf tx a) else nI v) = nI (min v (zdf tx a)) := z_min (by omega) (by unfold zdf; omega)
    have ay : (if nI (zdf ty b) < nI v - nI (min v (zdf tx a)) then nI (zdf ty b) else nI v - nI (min v (zdf tx a))) = nI (min (zsy tx a v) (zdf ty b)) := by
      rw [s_sub (by omega)]
      exact z_min (by omega) (by unfold zdf; omega)
    have px' : ∀ k2 : Int32 → zO, zit (nI a ≤ nI tx) (k2 (nI a + nI (min v (zdf tx a)))) (k2 (nI a + -nI (min v (zdf tx a)))) = k2 (nI (zmx tx a v)) := fun k2 => by
      unfold zmx zdf
      by_cases p : a ≤ tx
      · rw [zit_t (nI_le p (by omega)), if_neg (by omega), nI_add]
        congr 2
        omega
      · rw [zit_f (nI_ge (by omega) (by omega)), if_pos (by omega), s_addn (by omega)]
        congr 2
        omega
    have py' : ∀ k2 : Int32 → zO, zit (nI b ≤ nI ty) (k2 (nI b + nI (min (zsy tx a v) (zdf ty b)))) (k2 (nI b + -nI (min (zsy tx a v) (zdf ty b)))) = k2 (nI (zmx ty b (zsy tx a v))) := fun k2 => by
      unfold zmx
      by_cases p : b ≤ ty
      · rw [zit_t (nI_le p (by omega)), if_neg (by omega), nI_add]
        unfold zdf
        congr 2
        omega
      · rw [zit_f (nI_ge (by omega) (by omega)), if_pos (by omega), s_addn (by unfold zdf; omega)]
        unfold zdf
        congr 2
        omega
    have key : F_X11_sail_L9 0 (nI i) (fun (M7 : zM) => zI (-1) M7) (f + 1) (nI a) (nI b) (nI k) M1 = (fun (X Y : Int32) => zbI (F_X6_farFrom 3 (nI (u.1 i)) X Y M1) (fun r1 M4 => zit (r1 = 0) (zI (nI k) M4) (zit (nI k ≤ 0) (F_X11_sail_L9 0 (nI i) (fun (M7 : zM) => zI (-1) M7) f X Y (nI k + 1) M4) (zbI (F_X10_passYear 43 M4) (fun r2 M5 => F_X11_sail_L9 0 (nI i) (fun (M7 : zM) => zI (-1) M7) f X Y (nI k + 1) M5))))) (nI (zmx tx a v)) (nI (zmx ty b (zsy tx a v))) := by
      rw [F_X11_sail_L9, zit_f (show ¬ (100 : Int32) < nI k from nI_nlt (b := k) (a := 100) (by omega) (by omega)), zin_k (k := i) (n := 8) (by omega) (by omega), zck_t, gr_0_5, gr_43_1, zix_k (k := i) (by omega), w44, zlt_eq, zjo_eq, zit_f (nI_nle (by omega) (by omega)), z8, zck_t, gr_0_1, gr_3_6, gr_3_7, zu, e13, e14, e32, z_abs0 (by omega) (by omega), ax, zlt_eq, zck_t, z_abs0 (by omega) (by omega), ay, zlt_eq, zck_t, zjo_eq]
      simp only [zlt_eq, zjo_eq, zck_t, e14]
      exact (px' (fun X => zit (nI b ≤ nI ty) ((fun (X Y : Int32) => zbI (F_X6_farFrom 3 (nI (u.1 i)) X Y M1) (fun r1 M4 => zit (r1 = 0) (zI (nI k) M4) (zit (nI k ≤ 0) (F_X11_sail_L9 0 (nI i) (fun (M7 : zM) => zI (-1) M7) f X Y (nI k + 1) M4) (zbI (F_X10_passYear 43 M4) (fun r2 M5 => F_X11_sail_L9 0 (nI i) (fun (M7 : zM) => zI (-1) M7) f X Y (nI k + 1) M5))))) X (nI b + nI (min (zsy tx a v) (zdf ty b)))) ((fun (X Y : Int32) => zbI (F_X6_farFrom 3 (nI (u.1 i)) X Y M1) (fun r1 M4 => zit (r1 = 0) (zI (nI k) M4) (zit (nI k ≤ 0) (F_X11_sail_L9 0 (nI i) (fun (M7 : zM) => zI (-1) M7) f X Y (nI k + 1) M4) (zbI (F_X10_passYear 43 M4) (fun r2 M5 => F_X11_sail_L9 0 (nI i) (fun (M7 : zM) => zI (-1) M7) f X Y (nI k + 1) M5))))) X (nI b + -nI (min (zsy tx a v) (zdf ty b)))))).trans (py' (fun Y => (fun (X Y : Int32) => zbI (F_X6_farFrom 3 (nI (u.1 i)) X Y M1) (fun r1 M4 => zit (r1 = 0) (zI (nI k) M4) (zit (nI k ≤ 0) (F_X11_sail_L9 0 (nI i) (fun (M7 : zM) => zI (-1) M7) f X Y (nI k + 1) M4) (zbI (F_X10_passYear 43 M4) (fun r2 M5 => F_X11_sail_L9 0 (nI i) (fun (M7 : zM) => zI (-1) M7) f X Y (nI k + 1) M5))))) (nI (zmx tx a v)) Y))
    dsimp only at key
    rw [ff_x hS1 ho hui m1 m2, zbI_I, htx, hty] at key
    by_cases hq : zmx tx a v = tx ∧ zmx ty b (zsy tx a v) = ty
    · rw [if_pos hq] at hR
      refine Or.inl ⟨M1, ?_, o1⟩
      rw [key, hq.1, hq.2, show zdf tx tx + zdf ty ty = 0 from by unfold zdf; omega, zit_t (by decide), hR]
    · rw [if_neg hq] at hR
      refine Or.inr ?_
      rw [key, zit_f (nI_ne0 (by unfold zdf; omega) (by unfold zdf; omega)), zit_f (nI_nle (by omega) (by omega))]
      obtain ⟨M2, e2, hW2, o2⟩ := py_x (Or.inr rfl) hS1 ho hl hL1 hW1 hku
      rw [e2, zbI_I, nI_1]
      exact ⟨d, ((zmx tx a v, zmx ty b (zsy tx a v), k + 1), zWyr S L u, M2), by omega, rfl, by simp only; omega, by simp only; omega, m1, m2, hW2, zWyr_ok ho hku, zoff_trans o1 o2, hR⟩
theorem sl_m (hS : zSm S M) (ho : zSok S) (hl : zLok L) (hL : zLm L M) {i : Nat} (hi : i < S 0 0) {w : zWD} (hW : zWr (M 103) 0 w) (hk : zWok S w) {px py : Nat} (hpx : px ≤ 60) (hpy : py ≤ 60) : ∃ M', F_X12_ship_L103 79 (nI i) (fun (M17 : zM) => zI (-1) M17) zN (nI px) (nI py) (nI 1) M = zI (zvy S L i 100 1 px py w) M' ∧ zoff [103, 105, 106] M M' := by
  have h8 := so_n ho
  have hv : S 2 0 ≤ 9 := ho.2.2.2.1
  refine zwhl (α := (Nat × Nat × Nat) × zWD × zM) (fun f p => F_X12_ship_L103 79 (nI i) (fun (M17 : zM) => zI (-1) M17) f (nI p.1.1) (nI p.1.2.1) (nI p.1.2.2) p.2.2) (fun d p => p.1.2.2 + d = 101 ∧ 1 ≤ p.1.2.2 ∧ p.1.1 ≤ 60 ∧ p.1.2.1 ≤ 60 ∧ zWr (p.2.2 103) 0 p.2.1 ∧ zWok S p.2.1 ∧ zoff [103, 105, 106] M p.2.2 ∧ zvy S L i d p.1.2.2 p.1.1 p.1.2.1 p.2.1 = zvy S L i 100 1 px py w) (fun o => ∃ M', o = zI (zvy S L i 100 1 px py w) M' ∧ zoff [103, 105, 106] M M') ?_ 100 zN ((px, py, 1), w, M) (zN_ge (by omega)) ⟨rfl, Nat.le_refl _, hpx, hpy, hW, hk, zoff_rfl, rfl⟩
  rintro f d ⟨⟨a, b, k⟩, u, M1⟩ ⟨hd, hk1, ha, hb, hW1, hku, o1, hR⟩
  simp only at hd hk1 ha hb hW1 hku o1 hR
  show (∃ M', F_X12_ship_L103 79 (nI i) (fun (M17 : zM) => zI (-1) M17) (f + 1) (nI a) (nI b) (nI k) M1 = _ ∧ _) ∨ _
  cases d with
  | zero =>
    refine Or.inl ⟨M1, ?_, o1⟩
    rw [F_X12_ship_L103, zit_t (show (100 : Int32) < nI k from nI_lt (a := 100) (by omega) (by omega)), ← hR]
    rfl
  | succ d =>
    have hui := wo_n hku i hi
    obtain ⟨a3, b3, a5, a6, a7⟩ := so_i ho _ hui
    have hS1 : zSm S M1 := zSm_off hS (fun z _ => by rw [o1 79 (by decide)]) (fun i hi => o1 i (fun hz => by
      simp only [List.mem_cons, List.mem_nil_iff, or_false] at hi hz
      omega))
    have hL1 : zLm L M1 := zLm_off hL (by rw [o1 79 (by decide)]) (o1 88 (by decide))
    have w103 : M1 103 i = nI (u.1 i) := wr_n hW1 i (by omega)
    have m1 : zmx (S 5 (u.1 i)) a (S 2 0) ≤ 60 := zmx_le a5 ha
    have m2 : zmx (S 6 (u.1 i)) b (zsy (S 5 (u.1 i)) a (S 2 0)) ≤ 60 := zmx_le a6 hb
    replace hR : (if zmx (S 5 (u.1 i)) a (S 2 0) = S 5 (u.1 i) ∧ zmx (S 6 (u.1 i)) b (zsy (S 5 (u.1 i)) a (S 2 0)) = S 6 (u.1 i) then nI k else zvy S L i d (k + 1) (zmx (S 5 (u.1 i)) a (S 2 0)) (zmx (S 6 (u.1 i)) b (zsy (S 5 (u.1 i)) a (S 2 0))) (zWyr S L u)) = _ := hR
    have z8 : zin (nI (u.1 i)) 8 = true := zin_k (by omega) (by omega)
    have zu : zix (nI (u.1 i)) = u.1 i := zix_k (by omega)
    have key : F_X12_ship_L103 79 (nI i) (fun (M17 : zM) => zI (-1) M17) (f + 1) (nI a) (nI b) (nI k) M1 = zit (nI (zmx (S 5 (u.1 i)) a (S 2 0)) = nI (S 5 (u.1 i))) (zit (nI (zmx (S 6 (u.1 i)) b (zsy (S 5 (u.1 i)) a (S 2 0))) = nI (S 6 (u.1 i))) (zI (nI k) M1) (zbI (F_X12_yearOf 79 103 M1) (fun r5 M16 => F_X12_ship_L103 79 (nI i) (fun (M17 : zM) => zI (-1) M17) f (nI (zmx (S 5 (u.1 i)) a (S 2 0))) (nI (zmx (S 6 (u.1 i)) b (zsy (S 5 (u.1 i)) a (S 2 0)))) (nI k + 1) M16))) (zbI (F_X12_yearOf 79 103 M1) (fun r5 M16 => F_X12_ship_L103 79 (nI i) (fun (M17 : zM) => zI (-1) M17) f (nI (zmx (S 5 (u.1 i)) a (S 2 0))) (nI (zmx (S 6 (u.1 i)) b (zsy (S 5 (u.1 i)) a (S 2 0)))) (nI k + 1) M16)) := by
      rw [F_X12_ship_L103, zit_f (show ¬ (100 : Int32) < nI k from nI_nlt (b := k) (a := 100) (by omega) (by omega)), zin_k (k := i) (n := 73) (by omega) (by omega), zck_t, gr_79_48, zix_k (k := i) (by omega), w103, z8, zck_t, gr_79_7, zu, sm_5 hS1 _ hui, zlt_eq, zck_t, zck_t, gr_79_8, sm_6 hS1 _ hui, zlt_eq, sm_v hS1, zlt_eq, sp_m _ _ _ _ a5 a6 ha hb hv, zjo_eq]
    have yr : (∃ d' a', d' < d + 1 ∧ zbI (F_X12_yearOf 79 103 M1) (fun r5 M16 => F_X12_ship_L103 79 (nI i) (fun (M17 : zM) => zI (-1) M17) f (nI (zmx (S 5 (u.1 i)) a (S 2 0))) (nI (zmx (S 6 (u.1 i)) b (zsy (S 5 (u.1 i)) a (S 2 0)))) (nI k + 1) M16) = (fun f (p : (Nat × Nat × Nat) × zWD × zM) => F_X12_ship_L103 79 (nI i) (fun (M17 : zM) => zI (-1) M17) f (nI p.1.1) (nI p.1.2.1) (nI p.1.2.2) p.2.2) f a' ∧ (fun d (p : (Nat × Nat × Nat) × zWD × zM) => p.1.2.2 + d = 101 ∧ 1 ≤ p.1.2.2 ∧ p.1.1 ≤ 60 ∧ p.1.2.1 ≤ 60 ∧ zWr (p.2.2 103) 0 p.2.1 ∧ zWok S p.2.1 ∧ zoff [103, 105, 106] M p.2.2 ∧ zvy S L i d p.1.2.2 p.1.1 p.1.2.1 p.2.1 = zvy S L i 100 1 px py w) d' a') ∨ (zmx (S 5 (u.1 i)) a (S 2 0) = S 5 (u.1 i) ∧ zmx (S 6 (u.1 i)) b (zsy (S 5 (u.1 i)) a (S 2 0)) = S 6 (u.1 i)) := by
      by_cases hq : zmx (S 5 (u.1 i)) a (S 2 0) = S 5 (u.1 i) ∧ zmx (S 6 (u.1 i)) b (zsy (S 5 (u.1 i)) a (S 2 0)) = S 6 (u.1 i)
      · exact Or.inr hq
      · rw [if_neg hq] at hR
        obtain ⟨M2, e2, hW2, o2⟩ := yo_m (Or.inr rfl) hS1 ho hl hL1 hW1 hku
        rw [e2, zbI_I, nI_1]
        exact Or.inl ⟨d, ((zmx (S 5 (u.1 i)) a (S 2 0), zmx (S 6 (u.1 i)) b (zsy (S 5 (u.1 i)) a (S 2 0)), k + 1), zWyr S L u, M2), by omega, rfl, by simp only; omega, by simp only; omega, m1, m2, hW2, zWyr_ok ho hku, zoff_trans o1 (zoff_mono o2 (by decide)), hR⟩
    rw [key]
    by_cases q1 : zmx (S 5 (u.1 i)) a (S 2 0) = S 5 (u.1 i)
    · rw [zit_t (by rw [q1])]
      by_cases q2 : zmx (S 6 (u.1 i)) b (zsy (S 5 (u.1 i)) a (S 2 0)) = S 6 (u.1 i)
      · rw [zit_t (by rw [q2])]
        rw [if_pos ⟨q1, q2⟩] at hR
        exact Or.inl ⟨M1, by rw [hR], o1⟩
      · rw [zit_f (fun e => q2 ((nI_eq (by omega) (by omega)).mp e))]
        exact Or.inr (yr.resolve_right (fun z => q2 z.2))
    · rw [zit_f (fun e => q1 ((nI_eq (by omega) (by omega)).mp e))]
      exact Or.inr (yr.resolve_right (fun z => q1 z.1))
end ZSH
theorem op_ship (q : zSt) (ho : zok q) (a b c : Int32) : zOp 2 (F_X11_ship 0 a b c) (F_X12_ship 79 a b c) zNSE zIAE q := by
  have hn := qo_n ho
  have hY : ∀ M, F_X12_ship 79 a b c M = F_X12_ship 79 a b c (zup M 79 0 0) := fun M => by unfold F_X12_ship; rw [zup_idem]
  have inn : ∀ {k m : Nat} {M : zM}, k ≤ m → m < 2 ^ 31 → F_X12_within (nI k) 0 (nI m) M = zI 1 M := fun hk hm => pm_within_in (lo := 0) (by omega) hk hm
  rcases zci hn c with ⟨i, hi, rfl⟩ | hc
  · rcases zca (m := 60) (by omega) a with ⟨px, hpx, rfl⟩ | ha
    · rcases zca (m := 60) (by omega) b with ⟨py, hpy, rfl⟩ | hb
      · have hwi := wo_n (qo_W ho) i hi
        obtain ⟨a3, b3, a5, a6, a7⟩ := so_i (qo_S ho) _ hwi
        refine zop_self hY (zop0_ret (r := if px = tS q 5 ((tW q).1 i) ∧ py = tS q 6 ((tW q).1 i) then 0 else zvy (tS q) (tL q) i 100 1 px py (tW q)) (fun M h => ?_) (fun M h h0 => ?_))
        · unfold F_X11_ship F_X11_needPlace F_X11_sail
          rw [px_isle_in (sx_n (qx_S h)) hn hi, zbV_V, show (60 : Int32) = nI 60 from rfl, px_amount_in hpx (by omega), zbV_V, px_amount_in hpy (by omega), zbV_V, zbV_V, gr_0_5, gr_0_4]
          obtain ⟨M1, e1, hW1, o1⟩ := cp_w (d := 43) (c := 40) ⟨gr_43_1, gr_43_2⟩ ⟨gr_40_1, gr_40_2⟩ (by omega) (qx_W h)
          rw [e1, zbV_V]
          have hS1 : zSx (tS q) M1 := zSx_off (qx_S h) (fun i hi => o1 i (fun hz => by
            simp only [List.mem_cons, List.mem_nil_iff, or_false] at hi hz
            omega))
          have hL1 : zLx (tL q) M1 := zLx_off (qx_L h) (o1 9 (by decide)) (o1 11 (by decide))
          have w44 : M1 44 i = nI ((tW q).1 i) := hW1.1 i (by omega)
          obtain ⟨M2, e2, o2⟩ := sl_x (n0 := 999999) hS1 (qo_S ho) (qo_L ho) hL1 hi hW1 (qo_W ho) hpx hpy (by omega)
          rw [zN_eq, F_X11_sail_L9, zit_f (by decide), zin_k (k := i) (n := 8) (by omega) (by omega), zck_t, gr_0_5, gr_43_1, zix_k (k := i) (by omega), w44, zlt_eq, zjo_eq, zit_t (by decide), gr_0_1]
          dsimp only
          rw [ff_x hS1 (qo_S ho) hwi hpx hpy, zbI_I]
          by_cases hq : px = tS q 5 ((tW q).1 i) ∧ py = tS q 6 ((tW q).1 i)
          · rw [if_pos hq, zit_t (by rw [hq.1, hq.2, show zdf (tS q 5 ((tW q).1 i)) (tS q 5 ((tW q).1 i)) + zdf (tS q 6 ((tW q).1 i)) (tS q 6 ((tW q).1 i)) = 0 from by unfold zdf; omega]; rfl), zbI_I]
            exact ⟨M1, rfl, zoff_mono o1 (by decide)⟩
          · rw [if_neg hq, zit_f (nI_ne0 (by unfold zdf; omega) (by unfold zdf; omega)), zjo_eq, zit_t (by decide)]
            dsimp only
            rw [show ((0 : Int32) + 1) = nI 1 from by decide, e2, zbI_I]
            exact ⟨M2, rfl, zoff_trans (zoff_mono o1 (by decide)) (zoff_mono o2 (by decide))⟩
        · unfold F_X12_ship
          simp only [li_60]
          rw [zst_eq, zup_same h0, pm_one_in h0 (sm_n (qm_S h)) hn hi, zbI_I, zjo_eq, zit_f (by decide), inn hpx (by omega), zbI_I, zjo_eq, zjo_eq, zit_f (by decide), inn hpy (by omega), zbI_I, zit_f (by decide)]
          dsimp only
          rw [pm_right1 h0 (by decide), zbI_I, zit_f (by decide), gr_79_47, gr_79_48, cp_m zal102 zal103 (by omega) (by omega), zbV_V]
          obtain ⟨M1, hM1⟩ : ∃ M1, zupA M 103 (fun i => if i < 73 then M 102 i else M 103 i) = M1 := ⟨_, rfl⟩
          rw [hM1]
          have o1 : zoff [103] M M1 := by rw [← hM1]; exact zoff_upA zoff_rfl (by decide)
          have hW1 : zWr (M1 103) 0 (tW q) := by
            rw [← hM1, zupA_eq]
            exact zWr_cg (fun i hi => if_pos hi) (qm_W h)
          have hS1 : zSm (tS q) M1 := zSm_off (qm_S h) (fun z _ => by rw [o1 79 (by decide)]) (fun i hi => o1 i (fun hz => by
            simp only [List.mem_cons, List.mem_nil_iff, or_false] at hi hz
            omega))
          have hL1 : zLm (tL q) M1 := zLm_off (qm_L h) (by rw [o1 79 (by decide)]) (o1 88 (by decide))
          have w103 : M1 103 i = nI ((tW q).1 i) := wr_n hW1 i (by omega)
          obtain ⟨M2, e2, o2⟩ := sl_m hS1 (qo_S ho) (qo_L ho) hL1 hi hW1 (qo_W ho) hpx hpy
          rw [zin_k (k := i) (n := 73) (by omega) (by omega), zck_t, zix_k (k := i) (by omega), w103, zin_k (k := (tW q).1 i) (n := 8) (by omega) (by omega), zck_t, zjo_eq, gr_79_7, gr_79_8, zix_k (k := (tW q).1 i) (by omega), sm_5 hS1 _ hwi, sm_6 hS1 _ hwi, zck_t, zck_t]
          have fin : ∃ M', F_X12_ship_L103 79 (nI i) (fun (M17 : zM) => zI (-1) M17) zN (nI px) (nI py) 1 M1 = zI (zvy (tS q) (tL q) i 100 1 px py (tW q)) M' ∧ zoff zMs M M' := ⟨M2, e2, zoff_trans (zoff_mono o1 (by decide)) (zoff_mono o2 (by decide))⟩
          by_cases q1 : px = tS q 5 ((tW q).1 i)
          · rw [zit_t (by rw [q1])]
            by_cases q2 : py = tS q 6 ((tW q).1 i)
            · rw [zit_t (by rw [q2]), if_pos ⟨q1, q2⟩]
              exact ⟨M1, rfl, zoff_mono o1 (by decide)⟩
            · rw [zit_f (fun e => q2 ((nI_eq (by omega) (by omega)).mp e)), if_neg (fun z => q2 z.2)]
              exact fin
          · rw [zit_f (fun e => q1 ((nI_eq (by omega) (by omega)).mp e)), if_neg (fun z => q1 z.1)]
            exact fin
      · refine zop_rf hY 2 (Or.inr rfl) (by omega) (fun M h => ?_) (fun M h h0 => ⟨0, ?_⟩)
        · unfold F_X11_ship F_X11_needPlace
          rw [px_isle_in (sx_n (qx_S h)) hn hi, zbV_V, show (60 : Int32) = nI 60 from rfl, px_amount_in hpx (by omega), zbV_V, px_amount_out hb, zbV_E, zbV_E]
          rfl
        · unfold F_X12_ship
          simp only [li_60]
          rw [zst_eq, zup_same h0, pm_one_in h0 (sm_n (qm_S h)) hn hi, zbI_I, zjo_eq, zit_f (by decide), inn hpx (by omega), zbI_I, zjo_eq, zjo_eq, zit_f (by decide), pm_within_out hb, zbI_I, zit_t (by decide)]
          dsimp only
          rw [pm_right0 h0 (by decide), zbI_I]
          rfl
    · refine zop_rf hY 2 (Or.inr rfl) (by omega) (fun M h => ?_) (fun M h h0 => ⟨0, ?_⟩)
      · unfold F_X11_ship F_X11_needPlace
        rw [px_isle_in (sx_n (qx_S h)) hn hi, zbV_V, show (60 : Int32) = nI 60 from rfl, px_amount_out ha, zbV_E, zbV_E]
        rfl
      · unfold F_X12_ship
        simp only [li_60]
        rw [zst_eq, zup_same h0, pm_one_in h0 (sm_n (qm_S h)) hn hi, zbI_I, zjo_eq, zit_f (by decide), pm_within_out ha, zbI_I, zjo_eq, zjo_eq, zit_t (by decide)]
        dsimp only
        rw [pm_right0 h0 (by decide), zbI_I]
        rfl
  · refine zop_rf hY 1 (Or.inl rfl) (by omega) (fun M h => ?_) (fun M h h0 => ⟨0, ?_⟩)
    · unfold F_X11_ship
      rw [px_isle_out (sx_n (qx_S h)) hc, zbV_E]
      rfl
    · unfold F_X12_ship
      rw [zst_eq, zup_same h0, pm_one_out h0 (sm_n (qm_S h)) hc, zbI_I]
      rfl
