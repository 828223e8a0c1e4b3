/-! glad -/
/-- the first couple: an isle's, all isles' -/
def zg1 (P : Nat → Bool) (a : Nat) (s : Int32) : Nat → Int32
  | 0 => s
  | b + 1 => if P b = true ∧ zg1 P a s b = -1 then nI (10 * a + b) else zg1 P a s b
def zg2 (P : Nat → Nat → Bool) (n : Nat) : Nat → Int32
  | 0 => -1
  | a + 1 => zg1 (P a) a (zg2 P n a) n
theorem zg1_lo {P : Nat → Bool} {a : Nat} {s : Int32} : ∀ {m : Nat}, (∀ i, i < m → P i = false) → zg1 P a s m = s
  | 0, _ => rfl
  | m + 1, h => by
    show (if P m = true ∧ _ then _ else zg1 P a s m) = s
    rw [if_neg (fun z => by rw [h m (by omega)] at z; exact absurd z.1 (by decide)), zg1_lo (fun i hi => h i (by omega))]
theorem nI_n1 {k : Nat} (h : k < 2 ^ 31) : nI k ≠ -1 := n_eqpn (b := 1) (by omega) h (by omega)
theorem zg1_up {P : Nat → Bool} {a : Nat} {s : Int32} {b : Nat} : ∀ d, zg1 P a s b ≠ -1 → zg1 P a s (b + d) = zg1 P a s b
  | 0, _ => rfl
  | d + 1, h => by
    have ih := zg1_up d h
    show (if P (b + d) = true ∧ zg1 P a s (b + d) = -1 then _ else zg1 P a s (b + d)) = _
    rw [ih, if_neg (fun z => h z.2)]
theorem zg2_up {P : Nat → Nat → Bool} {n a : Nat} : ∀ d, zg2 P n a ≠ -1 → zg2 P n (a + d) = zg2 P n a
  | 0, _ => rfl
  | d + 1, h => by
    have ih := zg2_up d h
    show zg1 (P (a + d)) (a + d) (zg2 P n (a + d)) n = _
    rw [ih]
    have := zg1_up (P := P (a + d)) (a := a + d) (s := zg2 P n a) (b := 0) n h
    rwa [Nat.zero_add] at this
/-- couples that are glad -/
def zgd (S : zSD) (w : zWD) (a b : Nat) : Bool := decide (a < b) && (zwt S w a b && zwt S w b a)
section ZGD
variable {S : zSD} {w : zWD} {M : zM}
theorem gc_x1 (hS : zSx S M) (ho : zSok S) (hW : zWx 40 w M) (hk : zWok S w) {a : Nat} (ha : a < S 0 0) (K : Int32 → zM → zO) (c : Nat) : F_X1_gladCouples_L19 63 (nI a) K zN (nI c) (nI (a + 1)) M = K (nI (c + zcu (zgd S w a) (S 0 0))) M := by
  have hn := so_n ho
  have h0 : zcu (zgd S w a) (a + 1) = 0 := zcu_lo (fun i hi => by unfold zgd; rw [decide_eq_false (by omega)]; rfl)
  refine zfor (i := a + 1) (f := zN) (a := c) (S 0 0) (fun f b (x : Nat) => F_X1_gladCouples_L19 63 (nI a) K f (nI x) (nI b) M) (fun b x => a < b ∧ x = c + zcu (zgd S w a) b) (fun o => o = _) ?_ ?_ (by omega) (zN_ge (by omega)) ⟨by omega, by rw [h0]; rfl⟩
  · rintro f b x hb ⟨hab, rfl⟩
    refine Or.inr ⟨c + zcu (zgd S w a) (b + 1), ?_, by omega, rfl⟩
    show F_X1_gladCouples_L19 63 (nI a) K (f + 1) _ _ M = F_X1_gladCouples_L19 63 (nI a) K f _ _ M
    rw [F_X1_gladCouples_L19, wt_x hS ho hW hk ha hb, zbI_I]
    simp (disch := omega) only [gr_63_0, sx_n hS, c_le_f, zjo_eq, zlt_eq, wt_x hS ho hW hk hb ha, zbI_I]
    have hz : zgd S w a b = (zwt S w a b && zwt S w b a) := by unfold zgd; rw [decide_eq_true hab]; rfl
    cases h1 : zwt S w a b with
    | true =>
      rw [if_pos rfl, zit_f (by decide)]
      cases h2 : zwt S w b a with
      | true =>
        rw [zcu_t (by rw [hz, h1, h2]; rfl), if_pos rfl, zit_f (by decide), nI_1, nI_1]
        rfl
      | false =>
        rw [zcu_f (by rw [hz, h1, h2]; rfl), if_neg (by decide), zit_t rfl, nI_1, Int32.add_zero]
    | false =>
      rw [zcu_f (by rw [hz, h1]; rfl), if_neg (by decide), zit_t rfl, nI_1, Int32.add_zero]
  · rintro f x ⟨-, rfl⟩
    show F_X1_gladCouples_L19 63 (nI a) K (f + 1) _ _ M = _
    rw [F_X1_gladCouples_L19]
    simp (disch := omega) only [gr_63_0, sx_n hS, c_le_t]
theorem gc_x (hS : zSx S M) (ho : zSok S) (hW : zWx 40 w M) (hk : zWok S w) : F_X1_gladCouples 63 M = zI (nI (zsm (fun a => zcu (zgd S w a) (S 0 0)) (S 0 0))) M := by
  have hn := so_n ho
  unfold F_X1_gladCouples
  refine zfor (i := 0) (f := zN) (a := ()) (S 0 0) (fun f a (_ : Unit) => F_X1_gladCouples_L4 63 (fun (y2 : Int32) (M6 : zM) => zI y2 M6) f (nI (zsm (fun a => zcu (zgd S w a) (S 0 0)) a)) (nI a) M) (fun _ _ => True) (fun o => o = _) ?_ ?_ (by omega) (zN_ge (by omega)) trivial
  · rintro f a _ ha -
    refine Or.inr ⟨(), ?_, trivial⟩
    show F_X1_gladCouples_L4 63 _ (f + 1) _ _ M = F_X1_gladCouples_L4 63 _ f _ _ M
    rw [F_X1_gladCouples_L4]
    simp (disch := omega) only [gr_63_0, sx_n hS, c_le_f, zlt_eq, nI_1]
    rw [gc_x1 hS ho hW hk ha]
    rfl
  · rintro f _ -
    show F_X1_gladCouples_L4 63 _ (f + 1) _ _ M = _
    rw [F_X1_gladCouples_L4]
    simp (disch := omega) only [gr_63_0, sx_n hS, c_le_t]
theorem gf_x (hS : zSx S M) (ho : zSok S) (hW : zWx 40 w M) (hk : zWok S w) : F_X1_firstGladCouple 63 M = zI (zg2 (zgd S w) (S 0 0) (S 0 0)) M := by
  have hn := so_n ho
  unfold F_X1_firstGladCouple
  refine zfor (i := 0) (f := zN) (a := ()) (S 0 0) (fun f a (_ : Unit) => F_X1_firstGladCouple_L2 63 (fun (M5 : zM) => zI (-1) M5) f (nI a) M) (fun a _ => zg2 (zgd S w) (S 0 0) a = -1) (fun o => o = zI (zg2 (zgd S w) (S 0 0) (S 0 0)) M) ?_ ?_ (by omega) (zN_ge (by omega)) rfl
  · rintro f a _ ha hI
    have inner : F_X1_firstGladCouple_L17 63 (nI a) (fun (M4 : zM) => F_X1_firstGladCouple_L2 63 (fun (M5 : zM) => zI (-1) M5) f (nI a + 1) M4) zN (nI (a + 1)) M = zI (zg2 (zgd S w) (S 0 0) (S 0 0)) M ∨ (zg2 (zgd S w) (S 0 0) (a + 1) = -1 ∧ F_X1_firstGladCouple_L17 63 (nI a) (fun (M4 : zM) => F_X1_firstGladCouple_L2 63 (fun (M5 : zM) => zI (-1) M5) f (nI a + 1) M4) zN (nI (a + 1)) M = F_X1_firstGladCouple_L2 63 (fun (M5 : zM) => zI (-1) M5) f (nI a + 1) M) := by
      refine zfor (i := a + 1) (f := zN) (a := ()) (S 0 0) (fun f' b (_ : Unit) => F_X1_firstGladCouple_L17 63 (nI a) (fun (M4 : zM) => F_X1_firstGladCouple_L2 63 (fun (M5 : zM) => zI (-1) M5) f (nI a + 1) M4) f' (nI b) M) (fun b _ => a < b ∧ zg1 (zgd S w a) a (zg2 (zgd S w) (S 0 0) a) b = -1) (fun o => o = zI (zg2 (zgd S w) (S 0 0) (S 0 0)) M ∨ (zg2 (zgd S w) (S 0 0) (a + 1) = -1 ∧ o = F_X1_firstGladCouple_L2 63 (fun (M5 : zM) => zI (-1) M5) f (nI a + 1) M)) ?_ ?_ (by omega) (zN_ge (by omega)) ⟨by omega, by rw [zg1_lo (fun i hi => by unfold zgd; rw [decide_eq_false (by omega)]; rfl)]; exact hI⟩
      · rintro f' b _ hb ⟨hab, hJ⟩
        show (F_X1_firstGladCouple_L17 63 (nI a) _ (f' + 1) _ M = _ ∨ _ ∧ F_X1_firstGladCouple_L17 63 (nI a) _ (f' + 1) _ M = _) ∨ ∃ _, F_X1_firstGladCouple_L17 63 (nI a) _ (f' + 1) _ M = F_X1_firstGladCouple_L17 63 (nI a) _ f' _ M ∧ _
        rw [F_X1_firstGladCouple_L17, wt_x hS ho hW hk ha hb, zbI_I]
        simp (disch := omega) only [gr_63_0, sx_n hS, c_le_f, zjo_eq, wt_x hS ho hW hk hb ha, zbI_I, nI_1, li_10, pk_mul, nI_add]
        have hz : zgd S w a b = (zwt S w a b && zwt S w b a) := by unfold zgd; rw [decide_eq_true hab]; rfl
        have hs : zg1 (zgd S w a) a (zg2 (zgd S w) (S 0 0) a) (b + 1) = if zgd S w a b = true ∧ zg1 (zgd S w a) a (zg2 (zgd S w) (S 0 0) a) b = -1 then nI (10 * a + b) else zg1 (zgd S w a) a (zg2 (zgd S w) (S 0 0) a) b := rfl
        have no : zgd S w a b = false → a < b + 1 ∧ zg1 (zgd S w a) a (zg2 (zgd S w) (S 0 0) a) (b + 1) = -1 := fun h => ⟨by omega, by rw [hs, if_neg (fun z => by rw [h] at z; exact absurd z.1 (by decide)), hJ]⟩
        cases h1 : zwt S w a b with
        | true =>
          rw [if_pos rfl, zit_f (by decide)]
          cases h2 : zwt S w b a with
          | true =>
            rw [if_pos rfl, zit_f (by decide)]
            refine Or.inl (Or.inl ?_)
            have hv : zg1 (zgd S w a) a (zg2 (zgd S w) (S 0 0) a) (b + 1) = nI (10 * a + b) := by rw [hs, if_pos ⟨by rw [hz, h1, h2]; rfl, hJ⟩]
            have hne : nI (10 * a + b) ≠ -1 := nI_n1 (by omega)
            have h3 := zg1_up (P := zgd S w a) (a := a) (s := zg2 (zgd S w) (S 0 0) a) (b := b + 1) (S 0 0 - (b + 1)) (by rw [hv]; exact hne)
            rw [show b + 1 + (S 0 0 - (b + 1)) = S 0 0 from by omega, hv] at h3
            have h4 := zg2_up (P := zgd S w) (n := S 0 0) (a := a + 1) (S 0 0 - (a + 1)) (by
              show zg1 (zgd S w a) a (zg2 (zgd S w) (S 0 0) a) (S 0 0) ≠ -1
              rw [h3]; exact hne)
            rw [show a + 1 + (S 0 0 - (a + 1)) = S 0 0 from by omega] at h4
            rw [h4]
            show _ = zI (zg1 (zgd S w a) a (zg2 (zgd S w) (S 0 0) a) (S 0 0)) M
            rw [h3]
          | false =>
            rw [if_neg (by decide), zit_t rfl]
            exact Or.inr ⟨(), rfl, no (by rw [hz, h1, h2]; rfl)⟩
        | false =>
          rw [if_neg (by decide), zit_t rfl]
          exact Or.inr ⟨(), rfl, no (by rw [hz, h1]; rfl)⟩
      · rintro f' _ ⟨-, hJ⟩
        refine Or.inr ⟨hJ, ?_⟩
        show F_X1_firstGladCouple_L17 63 (nI a) _ (f' + 1) _ M = _
        rw [F_X1_firstGladCouple_L17]
        simp (disch := omega) only [gr_63_0, sx_n hS, c_le_t]
    show F_X1_firstGladCouple_L2 63 _ (f + 1) _ M = _ ∨ ∃ _, F_X1_firstGladCouple_L2 63 _ (f + 1) _ M = F_X1_firstGladCouple_L2 63 _ f _ M ∧ _
    rw [F_X1_firstGladCouple_L2]
    simp (disch := omega) only [gr_63_0, sx_n hS, c_le_f, zlt_eq]
    rw [nI_1] at inner ⊢
    rcases inner with h | ⟨h1, h2⟩
    · exact Or.inl h
    · exact Or.inr ⟨(), h2, h1⟩
  · rintro f _ hI
    show F_X1_firstGladCouple_L2 63 _ (f + 1) _ M = _
    rw [F_X1_firstGladCouple_L2, hI]
    simp (disch := omega) only [gr_63_0, sx_n hS, c_le_t]
theorem gl_m1 (hS : zSm S M) (ho : zSok S) (hW : zWr (M 102) 0 w) (hk : zWok S w) {a : Nat} (ha : a < S 0 0) (x1 : Int32) (K : Int32 → Int32 → zM → zO) (c : Nat) (s : Int32) : F_X12_glad_L38 79 x1 (nI a) K zN (nI c) s (nI (a + 1)) M = K (nI (c + zcu (zgd S w a) (S 0 0))) (zg1 (zgd S w a) a s (S 0 0)) M := by
  have hn := so_n ho
  have hw := wr_n hW
  have hwa := wo_n hk a ha
  have hlo : ∀ i, i < a + 1 → zgd S w a i = false := fun i hi => by unfold zgd; rw [decide_eq_false (by omega)]; rfl
  have key : F_X12_glad_L38 79 x1 (nI a) K zN (nI (c + zcu (zgd S w a) (a + 1))) (zg1 (zgd S w a) a s (a + 1)) (nI (a + 1)) M = K (nI (c + zcu (zgd S w a) (S 0 0))) (zg1 (zgd S w a) a s (S 0 0)) M := by
    refine zfor (i := a + 1) (f := zN) (a := ()) (S 0 0) (fun f b (_ : Unit) => F_X12_glad_L38 79 x1 (nI a) K f (nI (c + zcu (zgd S w a) b)) (zg1 (zgd S w a) a s b) (nI b) M) (fun b _ => a < b) (fun o => o = _) ?_ ?_ (by omega) (zN_ge (by omega)) (by omega)
    · rintro f b _ hb hab
      refine Or.inr ⟨(), ?_, by omega⟩
      have hwb := wo_n hk b hb
      show F_X12_glad_L38 79 x1 (nI a) K (f + 1) _ _ _ M = F_X12_glad_L38 79 x1 (nI a) K f _ _ _ M
      rw [F_X12_glad_L38]
      simp (disch := omega) only [sm_n hS, c_le_f, zjo_eq, zlt_eq, zck_t, zin_k, zix_k, gr_79_47, hw, nI_1, li_10, pk_mul, nI_add]
      rw [lk_m hS ho hW hk ha hwb hwa, zbI_I, hw a (by omega), hw b (by omega), lk_m hS ho hW hk hb hwa hwb, zbI_I]
      have hz : zgd S w a b = (zlk S w a (w.1 b) (w.1 a) && zlk S w b (w.1 a) (w.1 b)) := by unfold zgd zwt; rw [decide_eq_true hab]; rfl
      have hs : zg1 (zgd S w a) a s (b + 1) = if zgd S w a b = true ∧ zg1 (zgd S w a) a s b = -1 then nI (10 * a + b) else zg1 (zgd S w a) a s b := rfl
      rw [hs]
      cases h1 : zlk S w a (w.1 b) (w.1 a) with
      | true =>
        rw [if_pos rfl, zit_f (by decide)]
        cases h2 : zlk S w b (w.1 a) (w.1 b) with
        | true =>
          have hg : zgd S w a b = true := by rw [hz, h1, h2]; rfl
          rw [if_pos rfl, zit_f (by decide), zcu_t hg]
          by_cases p : zg1 (zgd S w a) a s b = -1
          · rw [zit_t p, if_pos ⟨hg, p⟩]
            rfl
          · rw [zit_f p, if_neg (fun z => p z.2)]
            rfl
        | false =>
          have hg : zgd S w a b = false := by rw [hz, h1, h2]; rfl
          rw [if_neg (by decide), zit_t rfl, zcu_f hg, if_neg (fun z => by rw [hg] at z; exact absurd z.1 (by decide))]
      | false =>
        have hg : zgd S w a b = false := by rw [hz, h1]; rfl
        rw [if_neg (by decide), zit_t rfl, zcu_f hg, if_neg (fun z => by rw [hg] at z; exact absurd z.1 (by decide))]
    · rintro f _ -
      show F_X12_glad_L38 79 x1 (nI a) K (f + 1) _ _ _ M = _
      rw [F_X12_glad_L38]
      simp (disch := omega) only [sm_n hS, c_le_t]
  rw [zcu_lo hlo, zg1_lo hlo] at key
  exact key
end ZGD
theorem op_glad (q : zSt) (ho : zok q) (a : Int32) : zOp 1 (F_X11_glad 0 a) (F_X12_glad 79 a) zNSE zIAE q := by
  have hn := qo_n ho
  have hY : ∀ M, F_X12_glad 79 a M = F_X12_glad 79 a (zup M 79 0 0) := fun M => by unfold F_X12_glad; rw [zup_idem]
  rcases zca (m := 1) (by omega) a with ⟨t, ht, rfl⟩ | ha
  · refine zop_self hY (zop0_ret (r := if t = 0 then nI (zsm (fun a => zcu (zgd (tS q) (tW q) a) (tS q 0 0)) (tS q 0 0)) else zg2 (zgd (tS q) (tW q)) (tS q 0 0) (tS q 0 0)) (fun M h => ⟨M, ?_, zoff_rfl⟩) (fun M h h0 => ⟨M, ?_, zoff_rfl⟩))
    · unfold F_X11_glad F_X11_needFirstOrCount
      have : t = 0 ∨ t = 1 := by omega
      rcases this with rfl | rfl
      · simp only [zjo_eq]
        rw [zit_t (by decide), zbV_V, zit_t (by decide), gr_0_9, gc_x (qx_S h) (qo_S ho) (qx_W h) (qo_W ho), zbI_I]
        rfl
      · simp only [zjo_eq]
        rw [zit_f (by decide), zit_t (by decide), zbV_V, zit_f (by decide), gr_0_9, gf_x (qx_S h) (qo_S ho) (qx_W h) (qo_W ho), zbI_I]
        rfl
    · unfold F_X12_glad
      rw [zst_eq, zup_same h0, show (1 : Int32) = nI 1 from rfl, pm_what_in h0 ht (by omega), zbI_I, zit_f (by decide)]
      refine zfor (i := 0) (f := zN) (a := ()) (tS q 0 0) (fun f k (_ : Unit) => F_X12_glad_L23 79 (nI t) (fun (y3 : Int32) (y4 : Int32) (M7 : zM) => zjo (fun (w3 : Int32) (M8 : zM) => zI w3 M8) (fun (k2 : Int32 → zM → zO) => zit (nI t = 0) (k2 y3 M7) (k2 y4 M7))) f (nI (zsm (fun a => zcu (zgd (tS q) (tW q) a) (tS q 0 0)) k)) (zg2 (zgd (tS q) (tW q)) (tS q 0 0) k) (nI k) M) (fun _ _ => True) (fun o => o = _) ?_ ?_ (by omega) (zN_ge (by omega)) trivial
      · rintro f k _ hk -
        refine Or.inr ⟨(), ?_, trivial⟩
        show F_X12_glad_L23 79 (nI t) _ (f + 1) _ _ _ M = F_X12_glad_L23 79 (nI t) _ f _ _ _ M
        rw [F_X12_glad_L23]
        simp (disch := omega) only [sm_n (qm_S h), c_le_f, zlt_eq, nI_1]
        rw [gl_m1 (qm_S h) (qo_S ho) (qm_W h) (qo_W ho) hk]
        rfl
      · rintro f _ -
        show F_X12_glad_L23 79 (nI t) _ (f + 1) _ _ _ M = _
        rw [F_X12_glad_L23]
        simp (disch := omega) only [sm_n (qm_S h), c_le_t, zjo_eq]
        have : t = 0 ∨ t = 1 := by omega
        rcases this with rfl | rfl
        · rfl
        · rfl
  · refine zop_rf hY 1 (Or.inl rfl) (by omega) (fun M h => ?_) (fun M h h0 => ⟨0, ?_⟩)
    · unfold F_X11_glad F_X11_needFirstOrCount
      simp only [zjo_eq, li_0, li_1]
      rw [zit_f (out_ne ha (by omega) (by omega)), zit_f (out_ne ha (by omega) (by omega)), zbV_E]
      rfl
    · unfold F_X12_glad
      rw [zst_eq, zup_same h0, show (1 : Int32) = nI 1 from rfl, pm_what_out h0 ha, zbI_I]
      rfl
