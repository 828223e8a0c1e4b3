/-! RANKS OF ARRANGEMENTS -/
/-- rows without repeats, each tried -/
def zpa (n : Nat) (f : List Nat → Bool) : Nat → List Nat → Bool
  | 0, pre => f pre
  | k + 1, pre => (List.range n).all (fun v => pre.contains v || zpa n f k (pre ++ [v]))
theorem zpa_ok {n : Nat} {f : List Nat → Bool} {p : Nat → Nat} (hp : zar n p) : ∀ k pre m, m + k = n → pre = (List.range m).map p → zpa n f k pre = true → f ((List.range n).map p) = true
  | 0, pre, m, hm, e, h => by
    obtain rfl : m = n := by omega
    rw [← e]
    exact h
  | k + 1, pre, m, hm, e, h => by
    have hl := hp.1 m (by omega)
    have h1 := List.all_eq_true.mp h (p m) (List.mem_range.mpr hl)
    rcases Bool.or_eq_true_iff.mp h1 with h2 | h2
    · rw [List.contains_iff_mem, e, List.mem_map] at h2
      obtain ⟨i, hi, ei⟩ := h2
      rw [List.mem_range] at hi
      have := hp.2 i (by omega) m (by omega) ei
      omega
    · refine zpa_ok hp k _ (m + 1) (by omega) ?_ h2
      rw [e, List.range_succ, List.map_append]
      rfl
/-- the class's number -/
def znu (n : Nat) (p : Nat → Nat) : Nat → Nat × Nat
  | 0 => (0, 0)
  | i + 1 => ((znu n p i).1 * (n - i) + zcu (fun v => !zbi (znu n p i).2 v && decide (v < p i)) 8, zpb (znu n p i).2 (p i))
/-- back from a number -/
def zud (n : Nat) : Nat → Nat → List Nat
  | 0, _ => []
  | i + 1, r => zud n i (r / (n - i)) ++ [r % (n - i)]
def zpick : List Nat → List Nat → List Nat
  | [], _ => []
  | d :: ds, rem => rem.getD d 0 :: zpick ds (rem.eraseIdx d)
def zunr (n r : Nat) : List Nat := zpick (zud n n r) (List.range n)
def zchk (n : Nat) (l : List Nat) : Bool := decide ((znu n (fun i => l.getD i 0) n).1 = zrk n (fun i => l.getD i 0) n) && (decide (zrk n (fun i => l.getD i 0) n < 720) && decide (zunr n (zrk n (fun i => l.getD i 0) n) = l))
theorem zchk_all : ∀ n, n < 7 → zpa n (zchk n) n [] = true := by decide +kernel
theorem zcu_cg {P Q : Nat → Bool} : ∀ n, (∀ k, k < n → P k = Q k) → zcu P n = zcu Q n
  | 0, _ => rfl
  | n + 1, h => by
    show zcu P n + (if P n then 1 else 0) = zcu Q n + (if Q n then 1 else 0)
    rw [zcu_cg n (fun k hk => h k (by omega)), h n (by omega)]
theorem zrk_cg {n : Nat} {p p' : Nat → Nat} (h : ∀ i, i < n → p i = p' i) : ∀ i, i ≤ n → zrk n p i = zrk n p' i
  | 0, _ => rfl
  | i + 1, hi => by
    show zrk n p i * (n - i) + zcu (fun k => decide (i < k) && decide (p k < p i)) n = zrk n p' i * (n - i) + zcu (fun k => decide (i < k) && decide (p' k < p' i)) n
    rw [zrk_cg h i (by omega), zcu_cg n (fun k hk => by rw [h k hk, h i (by omega)])]
theorem znu_cg {n : Nat} {p p' : Nat → Nat} : ∀ i, (∀ j, j < i → p j = p' j) → znu n p i = znu n p' i
  | 0, _ => rfl
  | i + 1, h => by
    show ((znu n p i).1 * (n - i) + zcu (fun v => !zbi (znu n p i).2 v && decide (v < p i)) 8, zpb (znu n p i).2 (p i)) = ((znu n p' i).1 * (n - i) + zcu (fun v => !zbi (znu n p' i).2 v && decide (v < p' i)) 8, zpb (znu n p' i).2 (p' i))
    rw [znu_cg i (fun j hj => h j (by omega)), h i (by omega)]
theorem map_getD {p : Nat → Nat} {n i : Nat} (h : i < n) : ((List.range n).map p).getD i 0 = p i := by
  simp [List.getD_eq_getElem?_getD, h]
theorem rk_ok {n : Nat} (hn : n ≤ 6) {p : Nat → Nat} (hp : zar n p) : (znu n p n).1 = zrk n p n ∧ zrk n p n < 720 ∧ zunr n (zrk n p n) = (List.range n).map p := by
  have h := zpa_ok hp n [] 0 (by omega) rfl (zchk_all n (by omega))
  unfold zchk at h
  rw [Bool.and_eq_true_iff, Bool.and_eq_true_iff, decide_eq_true_iff, decide_eq_true_iff, decide_eq_true_iff, znu_cg (p' := p) n (fun j hj => map_getD hj), zrk_cg (p' := p) (fun j hj => map_getD hj) n (Nat.le_refl _)] at h
  exact h
/-- a code of all names -/
def zAr (n c : Nat) : Prop := c < 8 ^ n ∧ zar n (zfg c)
def zK (n c : Nat) : Nat := zrk n (zfg c) n
theorem zK_lt {n c : Nat} (hn : n ≤ 6) (h : zAr n c) : zK n c < 720 := (rk_ok hn h.2).2.1
theorem zK_inj {n c c' : Nat} (hn : n ≤ 6) (h : zAr n c) (h' : zAr n c') (e : zK n c = zK n c') : c = c' := by
  have h1 := (rk_ok hn h.2).2.2
  have h2 := (rk_ok hn h'.2).2.2
  unfold zK at e
  rw [e, h2] at h1
  refine zcd_ext h.1 h'.1 (fun i hi => ?_)
  rw [← map_getD (p := zfg c) hi, ← map_getD (p := zfg c') hi, h1]
theorem zAr_of {n : Nat} (hn : n ≤ 8) {p : Nat → Nat} (hp : zar n p) : zAr n (zcd p n) := by
  have h8 : ∀ i, i < n → p i < 8 := fun i hi => by
    have := hp.1 i hi
    omega
  refine ⟨zcd_lt n h8, fun i hi => ?_, fun i hi j hj e => ?_⟩
  · rw [zcd_fg n h8 i hi]
    exact hp.1 i hi
  · rw [zcd_fg n h8 i hi, zcd_fg n h8 j hj] at e
    exact hp.2 i hi j hj e
theorem zK_of {n : Nat} (hn : n ≤ 8) {p : Nat → Nat} (hp : zar n p) : zK n (zcd p n) = zrk n p n := zrk_cg (fun i hi => zcd_fg n (fun i hi => by
  have := hp.1 i hi
  omega) i hi) n (Nat.le_refl _)
theorem zar_sw {n a b : Nat} {p : Nat → Nat} (hp : zar n p) (ha : a < n) (hb : b < n) : zar n (zsw a b p) := by
  have e : ∀ i, zsw a b p i = p (if i = a then b else if i = b then a else i) := fun i => by
    unfold zsw
    by_cases h1 : i = a
    · rw [if_pos h1, if_pos h1]
    · rw [if_neg h1, if_neg h1]
      by_cases h2 : i = b
      · rw [if_pos h2, if_pos h2]
      · rw [if_neg h2, if_neg h2]
  refine ⟨fun i hi => by rw [e]; exact hp.1 _ (zsg ha hb hi), fun i hi j hj h => ?_⟩
  rw [e, e] at h
  have := hp.2 _ (zsg ha hb hi) _ (zsg ha hb hj) h
  by_cases i1 : i = a
  · rw [if_pos i1] at this
    by_cases j1 : j = a
    · omega
    · rw [if_neg j1] at this
      by_cases j2 : j = b
      · rw [if_pos j2] at this; omega
      · rw [if_neg j2] at this; omega
  · rw [if_neg i1] at this
    by_cases i2 : i = b
    · rw [if_pos i2] at this
      by_cases j1 : j = a
      · rw [if_pos j1] at this; omega
      · rw [if_neg j1] at this
        by_cases j2 : j = b
        · omega
        · rw [if_neg j2] at this; omega
    · rw [if_neg i2] at this
      by_cases j1 : j = a
      · rw [if_pos j1] at this; omega
      · rw [if_neg j1] at this
        by_cases j2 : j = b
        · rw [if_pos j2] at this; omega
        · rw [if_neg j2] at this; omega
theorem bcn : ∀ U, U < 256 → ∀ f, f < 8 → zBC ((nI U ^^^ (-1)) &&& (nI (2 ^ f) - 1)) = nI (zcu (fun v => !zbi U v && decide (v < f)) 8) := by decide +kernel
theorem znu_b {n : Nat} {p : Nat → Nat} : ∀ i, (∀ j, j < i → p j < 8) → (znu n p i).2 < 256
  | 0, _ => by show (0 : Nat) < 256; omega
  | i + 1, h => (zpb_b _ (znu_b i (fun j hj => h j (by omega))) _ (h i (by omega))).1
section ZRK
variable {S : zSD} {M : zM}
theorem nb_x (hS : zSx S M) (hn : S 0 0 ≤ 6) {c : Nat} (hc : zAr (S 0 0) c) : F_X4_number 69 (nI c) M = zI (nI (zK (S 0 0) c)) M := by
  have h8 := pow8 (n := S 0 0) (by omega)
  have hcl := hc.1
  obtain ⟨k1, k2, -⟩ := rk_ok hn hc.2
  unfold F_X4_number
  rw [gr_69_0, gr_40_0, sx_n hS, zlt_eq]
  refine zfor (i := 0) (f := zN) (a := ()) (S 0 0) (fun f i (_ : Unit) => F_X4_number_L19 (nI c) (nI (S 0 0)) (fun (y1 : Int32) (M3 : zM) => zjo (fun (w1 : Int32) (M5 : zM) => zI w1 M5) (fun (k1 : Int32 → zM → zO) => zjo (fun  (M4 : zM) => k1 0 M4) (fun (k2 : zM → zO) => zit (y1 < 0) (k2 M3) (zit (720 ≤ y1) (k2 M3) (k1 y1 M3))))) f (nI (znu (S 0 0) (zfg c) i).1) (nI (znu (S 0 0) (zfg c) i).2) (nI i) M) (fun _ _ => True) (fun o => o = zI (nI (zK (S 0 0) c)) M) ?_ ?_ (by omega) (zN_ge (by omega)) trivial
  · rintro f i _ hi -
    refine Or.inr ⟨(), ?_, trivial⟩
    have hb := znu_b (n := S 0 0) (p := zfg c) i (fun j _ => zfg_lt c j)
    have hf := zfg_lt c i
    show F_X4_number_L19 (nI c) (nI (S 0 0)) _ (f + 1) _ _ _ M = _
    rw [F_X4_number_L19, zit_f (nI_ge hi (by omega))]
    unfold F_X4_figure
    rw [fig_e (by omega) (by omega), zbI_I, zlt_eq, bset _ hb _ hf, bpow _ (by omega), bc_F, zbI_I, bcn _ hb _ hf, zlt_eq, s_sub (by omega), pk_mul, nI_add, zlt_eq, nI_1]
    rfl
  · rintro f _ -
    show F_X4_number_L19 (nI c) (nI (S 0 0)) _ (f + 1) _ _ _ M = _
    rw [F_X4_number_L19, zit_t (nI_le (Nat.le_refl _) (by omega))]
    rw [zjo_eq, zjo_eq, k1, zit_f (nI_pos (by omega)), show (720 : Int32) = nI 720 from rfl, zit_f (nI_ge k2 (by omega))]
    rfl
theorem an_x (hS : zSx S M) (hn : S 0 0 ≤ 8) {w : zWD} (hW : zWx 40 w M) (hw : ∀ i, i < 8 → w.1 i < 8) : F_X4_arrangementNow 69 M = zI (nI (zcd w.1 (S 0 0))) M := by
  unfold F_X4_arrangementNow
  refine zfor (i := 0) (f := zN) (a := ()) (S 0 0) (fun f i (_ : Unit) => F_X4_arrangementNow_L4 69 (fun (y1 : Int32) (M1 : zM) => zI y1 M1) f (nI (zcd w.1 i)) (nI i) M) (fun _ _ => True) (fun o => o = zI (nI (zcd w.1 (S 0 0))) M) ?_ ?_ (by omega) (zN_ge (by omega)) trivial
  · rintro f i _ hi -
    refine Or.inr ⟨(), ?_, trivial⟩
    show F_X4_arrangementNow_L4 69 _ (f + 1) _ _ M = F_X4_arrangementNow_L4 69 _ f (nI (zcd w.1 i + w.1 i * 8 ^ i)) _ M
    have e : M 41 i = nI (w.1 i) := hW.1 i (by omega)
    rw [F_X4_arrangementNow_L4, gr_69_0, gr_40_0, sx_n hS, zit_f (nI_ge hi (by omega)), zin_k (k := i) (n := 8) (by omega) (by omega), zck_t, gr_40_1, zix_k (k := i) (by omega), e, shl8 (hw i (by omega)) (by omega), or8 (zcd_lt i (fun j hj => hw j (by omega))) (hw i (by omega)) (by omega), zlt_eq, nI_1]
  · rintro f _ -
    show F_X4_arrangementNow_L4 69 _ (f + 1) _ _ M = _
    rw [F_X4_arrangementNow_L4, gr_69_0, gr_40_0, sx_n hS, zit_t (nI_le (Nat.le_refl _) (by omega))]
/-- the reference's -/
theorem co_m (hS : zSm S M) (hn : S 0 0 ≤ 8) {r : Nat} (hr : zal r = 73) {p : Nat → Nat} (hp : ∀ i, i < S 0 0 → p i < 8) (h : ∀ i, i < S 0 0 → M r i = nI (p i)) : F_X12_codeOf 79 r M = zI (nI (zcd p (S 0 0))) M := by
  unfold F_X12_codeOf
  rw [sm_n hS, zlt_eq]
  have h0 : 0 = zcd p (S 0 0) / 8 ^ S 0 0 := (Nat.div_eq_of_lt (zcd_lt _ hp)).symm
  have key : F_X12_codeOf_L9 r (fun (y1 : Int32) (M1 : zM) => zI y1 M1) zN (nI (zcd p (S 0 0) / 8 ^ S 0 0)) (nI (S 0 0) - 1) M = zI (nI (zcd p (S 0 0))) M := by
    refine zdown (i := S 0 0) (f := zN) (a := ()) (fun f i (_ : Unit) => F_X12_codeOf_L9 r (fun (y1 : Int32) (M1 : zM) => zI y1 M1) f (nI (zcd p (S 0 0) / 8 ^ i)) (nI i - 1) M) (fun i _ => i ≤ S 0 0) (fun o => o = zI (nI (zcd p (S 0 0))) M) ?_ ?_ (zN_ge (by omega)) (Nat.le_refl _)
    · rintro f i _ hi
      refine Or.inr ⟨(), ?_, by omega⟩
      have e1 : zcd p (S 0 0) / 8 ^ i % 8 = p i := zcd_fg (S 0 0) hp i (by omega)
      have e2 : zcd p (S 0 0) / 8 ^ (i + 1) = zcd p (S 0 0) / 8 ^ i / 8 := by rw [Nat.pow_succ, Nat.div_div_eq_div_mul]
      show F_X12_codeOf_L9 r _ (f + 1) (nI (zcd p (S 0 0) / 8 ^ (i + 1))) (nI (i + 1) - 1) M = F_X12_codeOf_L9 r _ f _ _ M
      rw [F_X12_codeOf_L9, show nI (i + 1) - 1 = nI i from s_sub (b := 1) (by omega), zit_f (nI_pos (by omega)), hr, zin_k (k := i) (n := 73) (by omega) (by omega), zck_t, zix_k (k := i) (by omega), h i (by omega), show (8 : Int32) = nI 8 from rfl, pk_mul, nI_add, zlt_eq, ← Int32.sub_eq_add_neg, show 8 * (zcd p (S 0 0) / 8 ^ (i + 1)) + p i = zcd p (S 0 0) / 8 ^ i from by omega]
    · rintro f _ -
      show F_X12_codeOf_L9 r _ (f + 1) _ (nI 0 - 1) M = _
      rw [F_X12_codeOf_L9, zit_t (by decide), Nat.pow_zero, Nat.div_one]
  rw [← h0] at key
  exact key
theorem rko_m (hS : zSm S M) (hn : S 0 0 ≤ 8) {r : Nat} (hr : zal r = 73) {p : Nat → Nat} (hp : ∀ i, i < S 0 0 → p i < 8) (h : ∀ i, i < S 0 0 → M r i = nI (p i)) : F_X12_rankOf 79 r M = zI (nI (zrk (S 0 0) p (S 0 0))) M := by
  unfold F_X12_rankOf
  refine zfor (i := 0) (f := zN) (a := ()) (S 0 0) (fun f i (_ : Unit) => F_X12_rankOf_L4 79 r (fun (y2 : Int32) (M3 : zM) => zI y2 M3) f (nI (zrk (S 0 0) p i)) (nI i) M) (fun _ _ => True) (fun o => o = zI (nI (zrk (S 0 0) p (S 0 0))) M) ?_ ?_ (by omega) (zN_ge (by omega)) trivial
  · rintro f i _ hi -
    refine Or.inr ⟨(), ?_, trivial⟩
    have inner : ∀ (x : Int32) (K : Int32 → zM → zO), F_X12_rankOf_L20 79 r x (nI i) K zN 0 (nI (i + 1)) M = K (nI (zcu (fun k => decide (i < k) && decide (p k < p i)) (S 0 0))) M := fun x K => by
      have e0 : zcu (fun k => decide (i < k) && decide (p k < p i)) (i + 1) = 0 := zcu_lo (fun j hj => by rw [decide_eq_false (show ¬ i < j from by omega)]; rfl)
      have key : F_X12_rankOf_L20 79 r x (nI i) K zN (nI (zcu (fun k => decide (i < k) && decide (p k < p i)) (i + 1))) (nI (i + 1)) M = K (nI (zcu (fun k => decide (i < k) && decide (p k < p i)) (S 0 0))) M := by
        refine zfor (i := i + 1) (f := zN) (a := ()) (S 0 0) (fun f' j (_ : Unit) => F_X12_rankOf_L20 79 r x (nI i) K f' (nI (zcu (fun k => decide (i < k) && decide (p k < p i)) j)) (nI j) M) (fun j _ => i < j) (fun o => o = K (nI (zcu (fun k => decide (i < k) && decide (p k < p i)) (S 0 0))) M) ?_ ?_ (by omega) (zN_ge (by omega)) (by omega)
        · rintro f' j _ hj hij
          refine Or.inr ⟨(), ?_, by omega⟩
          have h1 := hp i hi
          have h2 := hp j hj
          show F_X12_rankOf_L20 79 r x (nI i) K (f' + 1) _ _ M = F_X12_rankOf_L20 79 r x (nI i) K f' _ _ M
          rw [F_X12_rankOf_L20, sm_n hS, zit_f (nI_ge hj (by omega)), hr, zin_k (k := j) (n := 73) (by omega) (by omega), zck_t, zin_k (k := i) (n := 73) (by omega) (by omega), zck_t, zjo_eq, zix_k (k := i) (by omega), zix_k (k := j) (by omega), h i hi, h j hj]
          by_cases hc : p j < p i
          · rw [zit_f (nI_ge hc (by omega))]
            dsimp only
            rw [zlt_eq, nI_1, nI_1, zcu_t (by rw [decide_eq_true hij, decide_eq_true hc]; rfl)]
          · rw [zit_t (nI_le (by omega) (by omega))]
            dsimp only
            rw [zlt_eq, Int32.add_zero, nI_1, zcu_f (by rw [decide_eq_false hc, Bool.and_false])]
        · rintro f' _ -
          show F_X12_rankOf_L20 79 r x (nI i) K (f' + 1) _ _ M = _
          rw [F_X12_rankOf_L20, sm_n hS, zit_t (nI_le (Nat.le_refl _) (by omega))]
      rw [e0] at key
      exact key
    show F_X12_rankOf_L4 79 r _ (f + 1) _ _ M = F_X12_rankOf_L4 79 r _ f (nI (zrk (S 0 0) p i * (S 0 0 - i) + zcu (fun k => decide (i < k) && decide (p k < p i)) (S 0 0))) _ M
    rw [F_X12_rankOf_L4, sm_n hS, zit_f (nI_ge hi (by omega)), nI_1, zlt_eq, inner, sm_n hS, s_sub (by omega), pk_mul, nI_add, zlt_eq]
  · rintro f _ -
    show F_X12_rankOf_L4 79 r _ (f + 1) _ _ M = _
    rw [F_X12_rankOf_L4, sm_n hS, zit_t (nI_le (Nat.le_refl _) (by omega))]
theorem no_m (hS : zSm S M) (hn : S 0 0 ≤ 8) {c : Nat} (hc : c < 2 ^ 31) : ∃ M', F_X12_namesOf 79 (nI c) 103 M = zV M' ∧ ((∀ i, i < S 0 0 → M' 103 i = nI (zfg c i)) ∧ (∀ i, S 0 0 ≤ i → M' 103 i = M 103 i) ∧ zoff [103] M M') := by
  unfold F_X12_namesOf
  have key : ∃ M', F_X12_namesOf_L5 79 103 (fun (M2 : zM) => zV M2) zN (nI (c / 8 ^ 0)) 0 M = zV M' ∧ ((∀ i, i < S 0 0 → M' 103 i = nI (zfg c i)) ∧ (∀ i, S 0 0 ≤ i → M' 103 i = M 103 i) ∧ zoff [103] M M') := by
    refine zfor (i := 0) (f := zN) (a := M) (S 0 0) (fun f i (M1 : zM) => F_X12_namesOf_L5 79 103 (fun (M2 : zM) => zV M2) f (nI (c / 8 ^ i)) (nI i) M1) (fun i M1 => (∀ j, j < i → M1 103 j = nI (zfg c j)) ∧ (∀ j, S 0 0 ≤ j → M1 103 j = M 103 j) ∧ zoff [103] M M1) (fun o => ∃ M', o = zV M' ∧ ((∀ i, i < S 0 0 → M' 103 i = nI (zfg c i)) ∧ (∀ i, S 0 0 ≤ i → M' 103 i = M 103 i) ∧ zoff [103] M M')) ?_ ?_ (by omega) (zN_ge (by omega)) ⟨fun i hi => absurd hi (Nat.not_lt_zero _), fun _ _ => rfl, zoff_rfl⟩
    · rintro f i M1 hi ⟨h1, h2, o1⟩
      refine Or.inr ?_
      have hd : c / 8 ^ i ≤ c := Nat.div_le_self _ _
      have n1 : M1 79 1 = nI (S 0 0) := by rw [o1 79 (by decide)]; exact sm_n hS
      show ∃ M2, F_X12_namesOf_L5 79 103 _ (f + 1) _ _ M1 = F_X12_namesOf_L5 79 103 _ f (nI (c / 8 ^ (i + 1))) _ M2 ∧ _
      rw [F_X12_namesOf_L5, n1, zit_f (nI_ge hi (by omega)), show (!decide (8 = 0)) = true from by decide, zck_t, zal103, zin_k (k := i) (n := 73) (by omega) (by omega), zck_t, show (8 : Int32) = nI 8 from rfl, pk_rem (by omega) (by omega) (by omega), zst_eq, zck_t, pk_div (by omega) (by omega) (by omega), zlt_eq, zix_k (k := i) (by omega), nI_1, Nat.div_div_eq_div_mul, ← Nat.pow_succ]
      refine ⟨_, rfl, fun j hj => ?_, fun j hj => ?_, zoff_up o1 (by decide)⟩
      · rw [zup_row]
        by_cases e : j = i
        · rw [e, upd_eq]
          rfl
        · rw [upd_ne e]
          exact h1 j (by omega)
      · rw [zup_row, upd_ne (by omega)]
        exact h2 j hj
    · rintro f M1 ⟨h1, h2, o1⟩
      have n1 : M1 79 1 = nI (S 0 0) := by rw [o1 79 (by decide)]; exact sm_n hS
      show ∃ M2, F_X12_namesOf_L5 79 103 _ (f + 1) _ _ M1 = _ ∧ _
      rw [F_X12_namesOf_L5, n1, zit_t (nI_le (Nat.le_refl _) (by omega))]
      exact ⟨M1, rfl, h1, h2, o1⟩
  rw [Nat.pow_zero, Nat.div_one] at key
  exact key
end ZRK
