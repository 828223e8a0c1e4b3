/-! WAYS THROUGH SETS -/
def zll (s : Nat) : Nat := zvo (zbi s) 8 0
theorem lo_x : ∀ s, s < 256 → 0 < s → zBC ((nI s &&& (-nI s)) - 1) = nI (zll s) := by decide +kernel
theorem lo_b : ∀ s, s < 256 → 0 < s → zbi s (zll s) = true ∧ zll s < 8 ∧ ∀ j, j < 8 → (j < zll s → zbi s j = false) := by decide +kernel
theorem bcnt : ∀ s, s < 256 → zBC (nI s) = nI (zcu (zbi s) 8) := by decide +kernel
theorem bpow : ∀ k, k < 9 → (1 : Int32) <<< (nI k &&& 31) = nI (2 ^ k) := by decide +kernel
def zpb (L k : Nat) : Nat := if zbi L k = true then L else L + 2 ^ k
theorem bset : ∀ L, L < 256 → ∀ k, k < 8 → nI L ||| ((1 : Int32) <<< (nI k &&& 31)) = nI (zpb L k) := by decide +kernel
theorem zpb_b : ∀ L, L < 256 → ∀ k, k < 8 → zpb L k < 256 ∧ ∀ j, j < 8 → zbi (zpb L k) j = (zbi L j || decide (j = k)) := by decide +kernel
theorem cutl0 : ∀ s, s < 256 → ∀ e, e < 8 → (!(zbi s e && !decide (e = zll s)) || (decide (zll (zcb s e) = zll s) && (decide (zcb s e < s) && (decide (0 < zcb s e) && decide (zll s < e))))) = true := by decide +kernel
theorem cutl (s : Nat) (hs : s < 256) (e : Nat) (he : e < 8) (hb : zbi s e = true) (hl : e ≠ zll s) : zll (zcb s e) = zll s ∧ zcb s e < s ∧ 0 < zcb s e ∧ zll s < e := by
  have := cutl0 s hs e he
  rw [hb, decide_eq_false hl] at this
  simpa using this
theorem cut_put : ∀ s, s < 256 → ∀ e, e < 8 → zbi s e = true → zpb (zcb s e) e = s ∧ zbi (zcb s e) e = false := by decide +kernel
theorem put_cut0 : ∀ t, t < 256 → ∀ e, e < 8 → (!(decide (0 < t) && (!zbi t e && decide (zll t < e))) || (zbi (zpb t e) e && (decide (zcb (zpb t e) e = t) && (decide (zll (zpb t e) = zll t) && decide (t < zpb t e))))) = true := by decide +kernel
theorem put_cut (t : Nat) (ht : t < 256) (h0 : 0 < t) (e : Nat) (he : e < 8) (hb : zbi t e = false) (hl : zll t < e) : zbi (zpb t e) e = true ∧ zcb (zpb t e) e = t ∧ zll (zpb t e) = zll t ∧ t < zpb t e := by
  have := put_cut0 t ht e he
  rw [hb, decide_eq_true hl, decide_eq_true h0] at this
  simpa using this
theorem pow_bits : ∀ e, e < 8 → 2 ^ e < 256 ∧ zll (2 ^ e) = e ∧ ∀ j, j < 8 → zbi (2 ^ e) j = decide (j = e) := by decide +kernel
theorem pow_one : ∀ s, s < 256 → ∀ e, e < 8 → s = 2 ^ e → e = zll s := by decide +kernel
theorem in_lt : ∀ n, n < 9 → ∀ s, s < 256 → s < 2 ^ n → ∀ e, e < 8 → zbi s e = true → e < n := by decide +kernel
theorem put_in : ∀ n, n < 9 → ∀ s, s < 256 → s < 2 ^ n → ∀ e, e < 8 → e < n → zpb s e < 2 ^ n := by decide +kernel
def zax (P : Nat → Bool) : Nat → Bool
  | 0 => false
  | j + 1 => zax P j || P j
theorem zax_s {P : Nat → Bool} {j : Nat} : zax P (j + 1) = (zax P j || P j) := rfl
theorem zax_cg {P Q : Nat → Bool} : ∀ n, (∀ k, k < n → P k = Q k) → zax P n = zax Q n
  | 0, _ => rfl
  | n + 1, h => by rw [zax_s, zax_s, zax_cg n (fun k hk => h k (by omega)), h n (by omega)]
theorem zax_no {P : Nat → Bool} : ∀ n, (∀ k, k < n → P k = false) → zax P n = false
  | 0, _ => rfl
  | n + 1, h => by rw [zax_s, zax_no n (fun k hk => h k (by omega)), h n (by omega)]; rfl
/-- by a set's number: where ways through just these can end that begin at the least of them -/
def zet (S : zSD) (w : zWD) : Nat → Nat → Nat → Bool
  | 0 => fun _ _ => false
  | T + 1 => fun s e => if s = T then zbi T e && (decide (T = 2 ^ e) || (!decide (e = zll T) && zax (fun k => zet S w T (zcb T e) k && zwt S w k e) (S 0 0))) else zet S w T s e
def zE' (S : zSD) (w : zWD) (s e : Nat) : Bool := zet S w (s + 1) s e
theorem zet_st {S : zSD} {w : zWD} {s e : Nat} : ∀ T, s < T → zet S w T s e = zE' S w s e
  | 0, h => absurd h (Nat.not_lt_zero _)
  | T + 1, h => by
    by_cases hs : s = T
    · rw [hs]
      rfl
    · show (if s = T then _ else zet S w T s e) = _
      rw [if_neg hs]
      exact zet_st T (by omega)
theorem zE_eq {S : zSD} {w : zWD} {s e : Nat} (hs : s < 256) (he : e < 8) : zE' S w s e = (zbi s e && (decide (s = 2 ^ e) || (!decide (e = zll s) && zax (fun k => zE' S w (zcb s e) k && zwt S w k e) (S 0 0)))) := by
  have h1 : zE' S w s e = (zbi s e && (decide (s = 2 ^ e) || (!decide (e = zll s) && zax (fun k => zet S w s (zcb s e) k && zwt S w k e) (S 0 0)))) := by
    show (if s = s then _ else _) = _
    rw [if_pos rfl]
  rw [h1]
  cases hb : zbi s e with
  | false => rfl
  | true =>
    by_cases hl : e = zll s
    · rw [decide_eq_true hl]
      rfl
    · obtain ⟨-, h2, -⟩ := cutl s hs e he hb hl
      congr 3
      exact zax_cg _ (fun k _ => by rw [zet_st s h2])
theorem zwt_self (S : zSD) (w : zWD) (i : Nat) : zwt S w i i = false := decide_eq_false (Nat.lt_irrefl _)
theorem zE_in {S : zSD} {w : zWD} {s e : Nat} (hs : s < 256) (he : e < 8) (h : zE' S w s e = true) : zbi s e = true := by
  rw [zE_eq hs he] at h
  exact (Bool.and_eq_true_iff.mp h).1
def zbk (S : zSD) (w : zWD) (s : Nat) : Bool := zax (fun e => zE' S w s e && zwt S w e (zll s)) (S 0 0)
/-- the smallest that would leave; 0: none -/
def zlv (S : zSD) (w : zWD) : Nat → Nat
  | 0 => 0
  | T + 1 => if T ≠ 0 ∧ zbk S w T = true ∧ (zlv S w T = 0 ∨ zcu (zbi T) 8 < zcu (zbi (zlv S w T)) 8) then T else zlv S w T
theorem zlv_s {S : zSD} {w : zWD} {T : Nat} : zlv S w (T + 1) = if T ≠ 0 ∧ zbk S w T = true ∧ (zlv S w T = 0 ∨ zcu (zbi T) 8 < zcu (zbi (zlv S w T)) 8) then T else zlv S w T := rfl
theorem zlv_lt {S : zSD} {w : zWD} : ∀ T, zlv S w T ≤ T
  | 0 => Nat.le_refl _
  | T + 1 => by
    rw [zlv_s]
    have := zlv_lt (S := S) (w := w) T
    split <;> omega
def zlvI (k : Nat) : Int32 := if k = 0 then -1 else nI k
/-- a row of such sets -/
def zTb (n : Nat) (f : Nat → Nat → Bool) (row : Nat → Int32) : Prop := ∀ s, 0 < s → s < 2 ^ n → ∃ B, B < 256 ∧ row s = nI B ∧ ∀ e, e < 8 → zbi B e = f s e
theorem zTb_ext {n : Nat} {f g : Nat → Nat → Bool} {row : Nat → Int32} (h : zTb n f row) (e : ∀ s, 0 < s → s < 2 ^ n → ∀ k, k < 8 → f s k = g s k) : zTb n g row := fun s h1 h2 => by
  obtain ⟨B, b1, b2, b3⟩ := h s h1 h2
  exact ⟨B, b1, b2, fun k hk => by rw [b3 k hk, e s h1 h2 k hk]⟩
theorem zTb_put {n : Nat} {f : Nat → Nat → Bool} {row : Nat → Int32} (h : zTb n f row) {s0 e0 : Nat} (h0 : 0 < s0) (h1 : s0 < 2 ^ n) (he : e0 < 8) : zTb n (fun s e => f s e || (decide (s = s0) && decide (e = e0))) (upd row s0 (row s0 ||| ((1 : Int32) <<< (nI e0 &&& 31)))) := fun s g1 g2 => by
  obtain ⟨B, b1, b2, b3⟩ := h s g1 g2
  by_cases e : s = s0
  · subst e
    obtain ⟨c1, c2⟩ := zpb_b B b1 e0 he
    refine ⟨zpb B e0, c1, ?_, fun k hk => ?_⟩
    · rw [upd_eq, b2, bset B b1 e0 he]
    · show _ = (f s k || (decide (s = s) && decide (k = e0)))
      rw [c2 k hk, b3 k hk, decide_eq_true (rfl : s = s), Bool.true_and]
  · exact ⟨B, b1, by rw [upd_ne e]; exact b2, fun k hk => by
      show _ = (f s k || (decide (s = s0) && decide (k = e0)))
      rw [b3 k hk, decide_eq_false e, Bool.false_and, Bool.or_false]⟩
/-- rows filled -/
theorem fi_x {M : zM} {a n : Nat} {v : Int32} (ha : zal a = n) (hn : n ≤ 5000) : F_J7_fill_53178 a v M = zV (zupA M a (fun i => if i < n then v else M a i)) := by
  unfold F_J7_fill_53178
  rw [zlt_eq, ha, show Int32.ofNat n = nI n from rfl]
  have e0 : M = zupA M a (fun i => if i < 0 then v else M a i) := (zupA_self M a).symm.trans (congrArg (zupA M a) (funext fun i => (if_neg (by omega)).symm))
  have key := zfor (i := 0) (f := zN) (a := ()) n (fun m k (_ : Unit) => F_J7_fill_53178_L5 a v (nI n) (fun (M2 : zM) => zV M2) m (nI k) (zupA M a (fun i => if i < k then v else M a i))) (fun _ _ => True) (fun o => o = zV (zupA M a (fun i => if i < n then v else M a i))) (by
    rintro m k _ hk -
    refine Or.inr ⟨(), ?_, trivial⟩
    show F_J7_fill_53178_L5 a v (nI n) _ (m + 1) _ _ = F_J7_fill_53178_L5 a v (nI n) _ m _ _
    rw [F_J7_fill_53178_L5, ha]
    simp (disch := omega) only [zck_t, zst_eq, c_le_f, li_1, nI_add, zin_k, zix_k, zup_upA]
    congr 1
    congr 1
    funext i
    by_cases h : i = k
    · rw [h, upd_eq, if_pos (by omega)]
    · rw [upd_ne h]
      by_cases h2 : i < k
      · rw [if_pos h2, if_pos (by omega)]
      · rw [if_neg h2, if_neg (by omega)]) (by
    rintro m _ -
    show F_J7_fill_53178_L5 a v (nI n) _ (m + 1) _ _ = _
    rw [F_J7_fill_53178_L5]
    simp (disch := omega) only [c_le_t]) (by omega) (by unfold zN; omega) trivial
  rw [← e0] at key
  exact key
theorem fb_x {M : zM} {a n : Nat} {v : Int32} (ha : zal a = n) (hn : n ≤ 5000) : F_J7_fill_031fb a v M = zV (zupA M a (fun i => if i < n then v.toInt8.toInt32 else M a i)) := by
  unfold F_J7_fill_031fb
  rw [zlt_eq, ha, show Int32.ofNat n = nI n from rfl]
  have e0 : M = zupA M a (fun i => if i < 0 then v.toInt8.toInt32 else M a i) := (zupA_self M a).symm.trans (congrArg (zupA M a) (funext fun i => (if_neg (by omega)).symm))
  have key := zfor (i := 0) (f := zN) (a := ()) n (fun m k (_ : Unit) => F_J7_fill_031fb_L5 a v (nI n) (fun (M2 : zM) => zV M2) m (nI k) (zupA M a (fun i => if i < k then v.toInt8.toInt32 else M a i))) (fun _ _ => True) (fun o => o = zV (zupA M a (fun i => if i < n then v.toInt8.toInt32 else M a i))) (by
    rintro m k _ hk -
    refine Or.inr ⟨(), ?_, trivial⟩
    show F_J7_fill_031fb_L5 a v (nI n) _ (m + 1) _ _ = F_J7_fill_031fb_L5 a v (nI n) _ m _ _
    rw [F_J7_fill_031fb_L5, ha]
    simp (disch := omega) only [zck_t, zst_eq, c_le_f, li_1, nI_add, zin_k, zix_k, zup_upA]
    congr 1
    congr 1
    funext i
    by_cases h : i = k
    · rw [h, upd_eq, if_pos (by omega)]
    · rw [upd_ne h]
      by_cases h2 : i < k
      · rw [if_pos h2, if_pos (by omega)]
      · rw [if_neg h2, if_neg (by omega)]) (by
    rintro m _ -
    show F_J7_fill_031fb_L5 a v (nI n) _ (m + 1) _ _ = _
    rw [F_J7_fill_031fb_L5]
    simp (disch := omega) only [c_le_t]) (by omega) (by unfold zN; omega) trivial
  rw [← e0] at key
  exact key
