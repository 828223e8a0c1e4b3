/-! clerks -/
def zgn (S : zSD) (w : zWD) (i c o : Nat) : Int32 := if c = o then 0 else nI (10 * S 3 c) - nI (zap S c (w.1 i))
def zbe (S : zSD) (w : zWD) (i c o : Nat) : Bool := decide (∀ k, k < S 0 0 → zgn S w i k o ≤ zgn S w i c o)
def zcc (S : zSD) (w : zWD) (i j a b : Nat) : Bool := zbe S w i a b && zbe S w j b a
section ZCK
variable {S : zSD} {w : zWD} {M : zM}
theorem gn_x (hS : zSx S M) (ho : zSok S) (hW : zWx 40 w M) (hk : zWok S w) {i c o : Nat} (hi : i < S 0 0) (hc : c < S 0 0) (hoo : o < S 0 0) : F_X11_claimGain 0 (nI i) (nI c) (nI o) M = zI (zgn S w i c o) M := by
  have hn := so_n ho
  have hw : ∀ i, i < 8 → M 41 i = nI (w.1 i) := hW.1
  have hwi := wo_n hk i hi
  obtain ⟨a3, b3, a5, a6, a7⟩ := so_i ho c hc
  obtain ⟨c3, d3, c5, c6, c7⟩ := so_i ho _ hwi
  unfold F_X11_claimGain zgn
  by_cases p : c = o
  · rw [if_pos p, zit_t (by rw [p])]
  · rw [if_neg p, zit_f (fun e => p ((nI_eq (by omega) (by omega)).mp e))]
    unfold F_X6_apart
    simp (disch := omega) only [zck_t, zbI_I, li_0, li_10, gr_0_1, gr_0_4, gr_40_1, gr_3_4, gr_4_1, gr_3_6, gr_3_7, zin_k, zix_k, hw, sx_3 hS, sx_5 hS, sx_6 hS, z_abs, nI_add, pk_mul]
    rfl
theorem gn_m (hS : zSm S M) (ho : zSok S) (hW : zWr (M 102) 0 w) (hk : zWok S w) {i c o : Nat} (hi : i < S 0 0) (hc : c < S 0 0) (hoo : o < S 0 0) : F_X12_gains 79 (nI i) (nI c) (nI o) M = zI (zgn S w i c o) M := by
  have hn := so_n ho
  have hw := wr_n hW
  have hwi := wo_n hk i hi
  unfold F_X12_gains zgn
  simp only [zjo_eq]
  by_cases p : c = o
  · rw [if_pos p, zit_t (by rw [p])]
  · rw [if_neg p, zit_f (fun e => p ((nI_eq (by omega) (by omega)).mp e)), gr_79_47, gr_79_6, zix_k (k := i) (by omega), hw i (by omega), ap_m (sm_5 hS) (sm_6 hS) ho hc hwi]
    simp (disch := omega) only [zck_t, zbI_I, li_10, zin_k, zix_k, sm_3 hS, pk_mul]
theorem be_x (hS : zSx S M) (ho : zSok S) (hW : zWx 40 w M) (hk : zWok S w) {i c o : Nat} (hi : i < S 0 0) (hc : c < S 0 0) (hoo : o < S 0 0) : F_X11_isBestClaim 0 (nI i) (nI c) (nI o) M = zI (if zbe S w i c o = true then 1 else 0) M := by
  have hn := so_n ho
  unfold F_X11_isBestClaim
  rw [gn_x hS ho hW hk hi hc hoo, zbI_I]
  refine zfor (i := 0) (f := zN) (a := ()) (S 0 0) (fun f k (_ : Unit) => F_X11_isBestClaim_L12 0 (nI i) (nI o) (zgn S w i c o) (fun (M3 : zM) => zck (zbo 1) (zI 1 M3)) f (nI k) M) (fun k _ => ∀ j, j < k → zgn S w i j o ≤ zgn S w i c o) (fun r => r = zI (if zbe S w i c o = true then 1 else 0) M) ?_ ?_ (by omega) (zN_ge (by omega)) (fun j hj => absurd hj (Nat.not_lt_zero _))
  · rintro f k _ hkk hI
    show F_X11_isBestClaim_L12 0 _ _ _ _ (f + 1) _ M = _ ∨ ∃ _, F_X11_isBestClaim_L12 0 _ _ _ _ (f + 1) _ M = F_X11_isBestClaim_L12 0 _ _ _ _ f _ M ∧ _
    rw [F_X11_isBestClaim_L12, gn_x hS ho hW hk hi hkk hoo, zbI_I, gr_0_1, sx_n hS, zit_f (nI_ge hkk (by omega)), nI_1]
    by_cases p : zgn S w i k o ≤ zgn S w i c o
    · rw [zit_t p]
      refine Or.inr ⟨(), rfl, fun j hj => ?_⟩
      by_cases hjk : j = k
      · rw [hjk]; exact p
      · exact hI j (by omega)
    · rw [zit_f p, show zbe S w i c o = false from decide_eq_false (fun z => p (z k hkk))]
      exact Or.inl rfl
  · rintro f _ hI
    show F_X11_isBestClaim_L12 0 _ _ _ _ (f + 1) _ M = _
    rw [F_X11_isBestClaim_L12, gr_0_1, sx_n hS, zit_t (nI_le (Nat.le_refl _) (by omega)), show zbe S w i c o = true from decide_eq_true hI]
    rfl
theorem cl_x1 (hS : zSx S M) (ho : zSok S) (hW : zWx 40 w M) (hk : zWok S w) {i j a : Nat} (hi : i < S 0 0) (hj : j < S 0 0) (ha : a < S 0 0) (x3 : Int32) (K : Int32 → Int32 → zM → zO) (c : Nat) (s : Int32) : F_X11_clerks_L34 0 (nI i) (nI j) x3 (nI a) K zN (nI c) s 0 M = K (nI (c + zcu (zcc S w i j a) (S 0 0))) (zg1 (zcc S w i j a) a s (S 0 0)) M := by
  have hn := so_n ho
  refine zfor (i := 0) (f := zN) (a := ()) (S 0 0) (fun f b (_ : Unit) => F_X11_clerks_L34 0 (nI i) (nI j) x3 (nI a) K f (nI (c + zcu (zcc S w i j a) b)) (zg1 (zcc S w i j a) a s b) (nI b) M) (fun _ _ => True) (fun o => o = _) ?_ ?_ (by omega) (zN_ge (by omega)) trivial
  · rintro f b _ hb -
    refine Or.inr ⟨(), ?_, trivial⟩
    show F_X11_clerks_L34 0 _ _ _ _ K (f + 1) _ _ _ M = F_X11_clerks_L34 0 _ _ _ _ K f _ _ _ M
    rw [F_X11_clerks_L34, gr_0_1, sx_n hS, zit_f (nI_ge hb (by omega)), be_x hS ho hW hk hi ha hb, zbI_I]
    simp only [zjo_eq, be_x hS ho hW hk hj hb ha, zbI_I, nI_1, li_10, pk_mul, nI_add]
    have hs : zg1 (zcc S w i j a) a s (b + 1) = if zcc S w i j a b = true ∧ zg1 (zcc S w i j a) a s b = -1 then nI (10 * a + b) else zg1 (zcc S w i j a) a s b := rfl
    rw [hs]
    have no : zcc S w i j a b = false → F_X11_clerks_L34 0 (nI i) (nI j) x3 (nI a) K f (nI (c + zcu (zcc S w i j a) b)) (zg1 (zcc S w i j a) a s b) (nI (b + 1)) M = F_X11_clerks_L34 0 (nI i) (nI j) x3 (nI a) K f (nI (c + zcu (zcc S w i j a) (b + 1))) (if zcc S w i j a b = true ∧ zg1 (zcc S w i j a) a s b = -1 then nI (10 * a + b) else zg1 (zcc S w i j a) a s b) (nI (b + 1)) M := fun hz => by
      rw [zcu_f hz, if_neg (fun z => by rw [hz] at z; exact absurd z.1 (by decide))]
    cases h1 : zbe S w i a b with
    | true =>
      rw [if_pos rfl, zit_f (by decide)]
      cases h2 : zbe S w j b a with
      | true =>
        have hg : zcc S w i j a b = true := by unfold zcc; rw [h1, h2]; rfl
        rw [if_pos rfl, zit_f (by decide), zcu_t hg]
        by_cases p : zg1 (zcc S w i j a) a s b = -1
        · rw [zit_t p, if_pos ⟨hg, p⟩]
          rfl
        · rw [zit_f p, if_neg (fun z => p z.2)]
          rfl
      | false =>
        rw [if_neg (by decide), zit_t (by decide)]
        exact no (by unfold zcc; rw [h1, h2]; rfl)
    | false =>
      rw [if_neg (by decide), zit_t (by decide)]
      exact no (by unfold zcc; rw [h1]; rfl)
  · rintro f _ -
    show F_X11_clerks_L34 0 _ _ _ _ K (f + 1) _ _ _ M = _
    rw [F_X11_clerks_L34, gr_0_1, sx_n hS, zit_t (nI_le (Nat.le_refl _) (by omega))]
theorem fl_m (hS : zSm S M) (ho : zSok S) (hW : zWr (M 102) 0 w) (hk : zWok S w) {i j a b : Nat} (hi : i < S 0 0) (hj : j < S 0 0) (ha : a < S 0 0) (hb : b < S 0 0) (x3 x4 x5 : Int32) (K : Int32 → zM → zO) : F_X12_clerks_L86 79 (nI i) (nI j) x3 x4 x5 (nI a) (nI b) K zN 1 0 M = K (if zcc S w i j a b = true then 1 else 0) M := by
  have hn := so_n ho
  have hcc : zcc S w i j a b = decide (∀ k, k < S 0 0 → zgn S w i k b ≤ zgn S w i a b ∧ zgn S w j k a ≤ zgn S w j b a) := by
    unfold zcc zbe
    rw [← Bool.decide_and]
    exact decide_eq_decide.mpr ⟨fun z k hk => ⟨z.1 k hk, z.2 k hk⟩, fun z => ⟨fun k hk => (z k hk).1, fun k hk => (z k hk).2⟩⟩
  refine zfor (i := 0) (f := zN) (a := 1) (S 0 0) (fun f k (x : Int32) => F_X12_clerks_L86 79 (nI i) (nI j) x3 x4 x5 (nI a) (nI b) K f x (nI k) M) (fun k x => x = 1 ∧ (∀ z, z < k → zgn S w i z b ≤ zgn S w i a b ∧ zgn S w j z a ≤ zgn S w j b a) ∨ x = 0 ∧ zcc S w i j a b = false) (fun o => o = _) ?_ ?_ (by omega) (zN_ge (by omega)) (Or.inl ⟨rfl, fun z hz => absurd hz (Nat.not_lt_zero _)⟩)
  · rintro f k x hkk hI
    refine Or.inr ?_
    show ∃ x', F_X12_clerks_L86 79 _ _ _ _ _ _ _ K (f + 1) x _ M = F_X12_clerks_L86 79 _ _ _ _ _ _ _ K f x' _ M ∧ _
    rw [F_X12_clerks_L86, sm_n hS, zit_f (nI_ge hkk (by omega))]
    simp only [zjo_eq, gn_m hS ho hW hk hi hkk hb, gn_m hS ho hW hk hi ha hb, gn_m hS ho hW hk hj hkk ha, gn_m hS ho hW hk hj hb ha, zbI_I, nI_1]
    rcases hI with ⟨rfl, hI⟩ | ⟨rfl, hI⟩
    · rw [zit_f (by decide)]
      by_cases p1 : zgn S w i k b ≤ zgn S w i a b
      · rw [zit_f (Int32.not_lt.mpr p1)]
        by_cases p2 : zgn S w j k a ≤ zgn S w j b a
        · rw [zit_f (Int32.not_lt.mpr p2)]
          refine ⟨1, rfl, Or.inl ⟨rfl, fun z hz => ?_⟩⟩
          by_cases hzk : z = k
          · rw [hzk]; exact ⟨p1, p2⟩
          · exact hI z (by omega)
        · rw [zit_t (Int32.not_le.mp p2)]
          exact ⟨0, rfl, Or.inr ⟨rfl, by rw [hcc]; exact decide_eq_false (fun z => p2 (z k hkk).2)⟩⟩
      · rw [zit_t (Int32.not_le.mp p1)]
        exact ⟨0, rfl, Or.inr ⟨rfl, by rw [hcc]; exact decide_eq_false (fun z => p1 (z k hkk).1)⟩⟩
    · rw [zit_t (by decide)]
      exact ⟨0, rfl, Or.inr ⟨rfl, hI⟩⟩
  · rintro f x hI
    show F_X12_clerks_L86 79 _ _ _ _ _ _ _ K (f + 1) x _ M = _
    rw [F_X12_clerks_L86, sm_n hS, zit_t (nI_le (Nat.le_refl _) (by omega))]
    rcases hI with ⟨rfl, hI⟩ | ⟨rfl, hI⟩
    · rw [hcc, decide_eq_true hI]
      rfl
    · rw [hI]
      rfl
theorem cl_m1 (hS : zSm S M) (ho : zSok S) (hW : zWr (M 102) 0 w) (hk : zWok S w) {i j a : Nat} (hi : i < S 0 0) (hj : j < S 0 0) (ha : a < S 0 0) (x3 : Int32) (K : Int32 → Int32 → zM → zO) (c : Nat) (s : Int32) : F_X12_clerks_L71 79 (nI i) (nI j) x3 (nI a) K zN (nI c) s 0 M = K (nI (c + zcu (zcc S w i j a) (S 0 0))) (zg1 (zcc S w i j a) a s (S 0 0)) M := by
  have hn := so_n ho
  refine zfor (i := 0) (f := zN) (a := ()) (S 0 0) (fun f b (_ : Unit) => F_X12_clerks_L71 79 (nI i) (nI j) x3 (nI a) K f (nI (c + zcu (zcc S w i j a) b)) (zg1 (zcc S w i j a) a s b) (nI b) M) (fun _ _ => True) (fun o => o = _) ?_ ?_ (by omega) (zN_ge (by omega)) trivial
  · rintro f b _ hb -
    refine Or.inr ⟨(), ?_, trivial⟩
    show F_X12_clerks_L71 79 _ _ _ _ K (f + 1) _ _ _ M = F_X12_clerks_L71 79 _ _ _ _ K f _ _ _ M
    rw [F_X12_clerks_L71, sm_n hS, zit_f (nI_ge hb (by omega)), fl_m hS ho hW hk hi hj ha hb]
    simp only [zjo_eq, zlt_eq, nI_1, li_10, pk_mul, nI_add]
    have hs : zg1 (zcc S w i j a) a s (b + 1) = if zcc S w i j a b = true ∧ zg1 (zcc S w i j a) a s b = -1 then nI (10 * a + b) else zg1 (zcc S w i j a) a s b := rfl
    rw [hs]
    cases hg : zcc S w i j a b with
    | true =>
      rw [if_pos rfl, zit_f (by decide), zcu_t hg]
      by_cases p : zg1 (zcc S w i j a) a s b = -1
      · rw [zit_t p, if_pos ⟨rfl, p⟩]
        rfl
      · rw [zit_f p, if_neg (fun z => p z.2)]
        rfl
    | false =>
      rw [if_neg (by decide), zit_t (by decide), zcu_f hg, if_neg (fun z => absurd z.1 (by decide))]
  · rintro f _ -
    show F_X12_clerks_L71 79 _ _ _ _ K (f + 1) _ _ _ M = _
    rw [F_X12_clerks_L71, sm_n hS, zit_t (nI_le (Nat.le_refl _) (by omega))]
end ZCK
theorem op_clerks (q : zSt) (ho : zok q) (a b c : Int32) : zOp 2 (F_X11_clerks 0 a b c) (F_X12_clerks 79 a b c) zNSE zIAE q := by
  have hn := qo_n ho
  have hY : ∀ M, F_X12_clerks 79 a b c M = F_X12_clerks 79 a b c (zup M 79 0 0) := fun M => by unfold F_X12_clerks; rw [zup_idem]
  have w1 : ∀ (t : Nat) (M : zM), t ≤ 1 → F_X11_needFirstOrCount (nI t) M = zV M := fun t M ht => by
    unfold F_X11_needFirstOrCount
    have : t = 0 ∨ t = 1 := by omega
    rcases this with rfl | rfl
    · simp only [zjo_eq]; rw [zit_t (by decide)]
    · simp only [zjo_eq]; rw [zit_f (by decide), zit_t (by decide)]
  have w0 : (c < 0 ∨ nI 1 < c) → ∀ M, F_X11_needFirstOrCount c M = zE zNSE M := fun hc M => by
    unfold F_X11_needFirstOrCount
    simp only [zjo_eq, li_0, li_1]
    rw [zit_f (out_ne hc (by omega) (by omega)), zit_f (out_ne hc (by omega) (by omega))]
  rcases zci hn a with ⟨i, hi, rfl⟩ | ha
  · rcases zci hn b with ⟨j, hj, rfl⟩ | hb
    · rcases zca (m := 1) (by omega) c with ⟨t, ht, rfl⟩ | hc
      · by_cases hij : i = j
        · subst hij
          refine zop_rf hY 2 (Or.inr rfl) (by omega) (fun M h => ?_) (fun M h h0 => ⟨0, ?_⟩)
          · unfold F_X11_clerks
            rw [w1 t M ht, zbV_V, px_two_same (sx_n (qx_S h)) hn hi, zbV_E]
            rfl
          · unfold F_X12_clerks
            rw [zst_eq, zup_same h0, pm_one_in h0 (sm_n (qm_S h)) hn hi, zbI_I, zjo_eq, zit_f (by decide), pm_one_in h0 (sm_n (qm_S h)) hn hi, zbI_I, zit_f (by decide), show (1 : Int32) = nI 1 from rfl, pm_what_in h0 ht (by omega), zbI_I, zit_f (by decide), zjo_eq, zit_t rfl]
            show zbI (F_X12_right 79 0 2 M) _ = _
            rw [pm_right0 h0 (by decide), zbI_I]
            rfl
        · have hne : ¬ nI i = nI j := fun e => hij ((nI_eq (by omega) (by omega)).mp e)
          refine zop_self hY (zop0_ret (r := if t = 0 then nI (zsm (fun a => zcu (zcc (tS q) (tW q) i j a) (tS q 0 0)) (tS q 0 0)) else zg2 (zcc (tS q) (tW q) i j) (tS q 0 0) (tS q 0 0)) (fun M h => ⟨M, ?_, zoff_rfl⟩) (fun M h h0 => ⟨M, ?_, zoff_rfl⟩))
          · unfold F_X11_clerks
            rw [w1 t M ht, zbV_V, px_two_in (sx_n (qx_S h)) hn hi hj hij, zbV_V]
            refine zfor (i := 0) (f := zN) (a := ()) (tS q 0 0) (fun f k (_ : Unit) => F_X11_clerks_L19 0 (nI i) (nI j) (nI t) (fun (y3 : Int32) (y4 : Int32) (M8 : zM) => zjo (fun (w4 : Int32) (M9 : zM) => zI w4 M9) (fun (k3 : Int32 → zM → zO) => zit (nI t = 0) (k3 y3 M8) (k3 y4 M8))) f (nI (zsm (fun a => zcu (zcc (tS q) (tW q) i j a) (tS q 0 0)) k)) (zg2 (zcc (tS q) (tW q) i j) (tS q 0 0) k) (nI k) M) (fun _ _ => True) (fun o => o = _) ?_ ?_ (by omega) (zN_ge (by omega)) trivial
            · rintro f k _ hk -
              refine Or.inr ⟨(), ?_, trivial⟩
              show F_X11_clerks_L19 0 _ _ _ _ (f + 1) _ _ _ M = F_X11_clerks_L19 0 _ _ _ _ f _ _ _ M
              rw [F_X11_clerks_L19, gr_0_1, sx_n (qx_S h), zit_f (nI_ge hk (by omega)), cl_x1 (qx_S h) (qo_S ho) (qx_W h) (qo_W ho) hi hj hk, nI_1]
              rfl
            · rintro f _ -
              show F_X11_clerks_L19 0 _ _ _ _ (f + 1) _ _ _ M = _
              rw [F_X11_clerks_L19, gr_0_1, sx_n (qx_S h), zit_t (nI_le (Nat.le_refl _) (by omega))]
              have : t = 0 ∨ t = 1 := by omega
              rcases this with rfl | rfl
              · rfl
              · rfl
          · unfold F_X12_clerks
            rw [zst_eq, zup_same h0, pm_one_in h0 (sm_n (qm_S h)) hn hi, zbI_I, zjo_eq, zit_f (by decide), pm_one_in h0 (sm_n (qm_S h)) hn hj, zbI_I, zit_f (by decide), show F_X12_isWhat 79 (nI t) 1 M = zI 1 M from pm_what_in (m := 1) h0 ht (by omega), zbI_I, zit_f (by decide), zjo_eq, zit_f hne]
            show zbI (F_X12_right 79 1 2 M) _ = _
            rw [pm_right1 h0 (by decide), zbI_I, zit_f (by decide)]
            refine zfor (i := 0) (f := zN) (a := ()) (tS q 0 0) (fun f k (_ : Unit) => F_X12_clerks_L59 79 (nI i) (nI j) (nI t) (fun (y3 : Int32) (y4 : Int32) (M8 : zM) => zjo (fun (w4 : Int32) (M9 : zM) => zI w4 M9) (fun (k3 : Int32 → zM → zO) => zit (nI t = 0) (k3 y3 M8) (k3 y4 M8))) f (nI (zsm (fun a => zcu (zcc (tS q) (tW q) i j a) (tS q 0 0)) k)) (zg2 (zcc (tS q) (tW q) i j) (tS q 0 0) k) (nI k) M) (fun _ _ => True) (fun o => o = _) ?_ ?_ (by omega) (zN_ge (by omega)) trivial
            · rintro f k _ hk -
              refine Or.inr ⟨(), ?_, trivial⟩
              show F_X12_clerks_L59 79 _ _ _ _ (f + 1) _ _ _ M = F_X12_clerks_L59 79 _ _ _ _ f _ _ _ M
              rw [F_X12_clerks_L59, sm_n (qm_S h), zit_f (nI_ge hk (by omega)), cl_m1 (qm_S h) (qo_S ho) (qm_W h) (qo_W ho) hi hj hk, nI_1]
              rfl
            · rintro f _ -
              show F_X12_clerks_L59 79 _ _ _ _ (f + 1) _ _ _ M = _
              rw [F_X12_clerks_L59, sm_n (qm_S h), zit_t (nI_le (Nat.le_refl _) (by omega))]
              have : t = 0 ∨ t = 1 := by omega
              rcases this with rfl | rfl
              · rfl
              · rfl
      · refine zop_rf hY 1 (Or.inl rfl) (by omega) (fun M h => ?_) (fun M h h0 => ⟨0, ?_⟩)
        · unfold F_X11_clerks
          rw [w0 hc, zbV_E]
          rfl
        · unfold F_X12_clerks
          rw [zst_eq, zup_same h0, pm_one_in h0 (sm_n (qm_S h)) hn hi, zbI_I, zjo_eq, zit_f (by decide), pm_one_in h0 (sm_n (qm_S h)) hn hj, zbI_I, zit_f (by decide), show F_X12_isWhat 79 c 1 M = zI 0 (zup M 79 0 1) from pm_what_out (m := 1) h0 hc, zbI_I]
          rfl
    · refine zop_rf hY 1 (Or.inl rfl) (by omega) (fun M h => ?_) (fun M h h0 => ⟨0, ?_⟩)
      · unfold F_X11_clerks
        rcases zca (m := 1) (by omega) c with ⟨t, ht, rfl⟩ | hc
        · rw [w1 t M ht, zbV_V, px_two_out2 (sx_n (qx_S h)) hn hi hb, zbV_E]
          rfl
        · rw [w0 hc, zbV_E]
          rfl
      · unfold F_X12_clerks
        rw [zst_eq, zup_same h0, pm_one_in h0 (sm_n (qm_S h)) hn hi, zbI_I, zjo_eq, zit_f (by decide), pm_one_out h0 (sm_n (qm_S h)) hb, zbI_I]
        rfl
  · refine zop_rf hY 1 (Or.inl rfl) (by omega) (fun M h => ?_) (fun M h h0 => ⟨0, ?_⟩)
    · unfold F_X11_clerks
      rcases zca (m := 1) (by omega) c with ⟨t, ht, rfl⟩ | hc
      · rw [w1 t M ht, zbV_V, px_two_out1 (sx_n (qx_S h)) ha, zbV_E]
        rfl
      · rw [w0 hc, zbV_E]
        rfl
    · unfold F_X12_clerks
      rw [zst_eq, zup_same h0, pm_one_out h0 (sm_n (qm_S h)) ha, zbI_I]
      rfl
