/-! the reference's loop over operators: one step of it -/
def zKX : zM → zO := fun (M50 : zM) => zbI (F_X12_isGood 79 M50) (fun r15 M51 => zjo (fun (M53 : zM) => zbV (F_X12_drops 79 0 M53) (fun M54 => zbV (F_X12_puts 79 0 M54) (fun M55 => zV M55))) (fun (k13 : zM → zO) => zit (r15 = 0) (k13 M51) (zit ((M51 79 35) ≤ 1) (k13 M51) (zbV (F_X12_wrong 79 1 M51) (fun M52 => k13 M52)))))
def zML (f : Nat) (M : zM) : zO := F_X12_expression_L29 79 zKX f 1 M
def zKP : zM → zO := fun (M18 : zM) => zbV (F_X12_part 79 M18) (fun M19 => zV M19)
def zOL (g : Nat) (b : Int32) (M : zM) : zO := F_X12_operand_L4 79 zKP g b 1 M
def zAN (g : Nat) (b : Int32) (M : zM) : zO := zbI (F_X12_isGood 79 M) (fun r5 M10 => zjo (fun (w1 : Int32) (M13 : zM) => zjo (fun (w2 : Int32) (M17 : zM) => F_X12_operand_L4 79 zKP g w2 w1 M17) (fun (k4 : Int32 → zM → zO) => zit (w1 = 0) (k4 b M13) (zbV (F_X12_waitsFor 79 14 M13) (fun M14 => zbV (F_X12_goes 79 M14) (fun M15 => zbV (F_X12_deeper 79 M15) (fun M16 => k4 1 M16)))))) (fun (k2 : Int32 → zM → zO) => zjo (fun (M12 : zM) => k2 0 M12) (fun (k3 : zM → zO) => zit (r5 = 0) (k3 M10) (zbI (F_X12_isSign 79 40 M10) (fun r6 M11 => zit (r6 = 0) (k3 M11) (k2 1 M11))))))
def zBx (f : Nat) (M : zM) : zO := zbI (F_X12_isSign 79 43 M) (fun r7 M19 => zjo (fun (M34 : zM) => zbV (F_X12_drops 79 5 M34) (fun M35 => zbI (F_X12_isSign 79 43 M35) (fun r14 M36 => zjo (fun (w3 : Int32) (M37 : zM) => zbV (F_X12_waitsFor 79 w3 M37) (fun M38 => zbV (F_X12_goes 79 M38) (fun M39 => zbV (F_X12_operand 79 0 M39) (fun M40 => (fun (w6 : Int32) (M49 : zM) => F_X12_expression_L29 79 zKX f w6 M49) 1 M40)))) (fun (k10 : Int32 → zM → zO) => zit (r14 = 0) (k10 9 M36) (k10 8 M36))))) (fun (k6 : zM → zO) => zit (r7 = 0) (zbI (F_X12_isSign 79 45 M19) (fun r8 M20 => zit (r8 = 0) (zbI (F_X12_isSign 79 42 M20) (fun r9 M21 => zjo (fun (M27 : zM) => zbV (F_X12_drops 79 6 M27) (fun M28 => zbI (F_X12_isSign 79 42 M28) (fun r13 M29 => zjo (fun (w2 : Int32) (M30 : zM) => zbV (F_X12_waitsFor 79 w2 M30) (fun M31 => zbV (F_X12_goes 79 M31) (fun M32 => zbV (F_X12_operand 79 0 M32) (fun M33 => (fun (w6 : Int32) (M49 : zM) => F_X12_expression_L29 79 zKX f w6 M49) 1 M33)))) (fun (k9 : Int32 → zM → zO) => zit (r13 = 0) (k9 11 M29) (k9 10 M29))))) (fun (k7 : zM → zO) => zit (r9 = 0) (zbI (F_X12_isSign 79 47 M21) (fun r10 M22 => zit (r10 = 0) (zbI (F_X12_isSign 79 41 M22) (fun r11 M23 => zjo (fun (M26 : zM) => (fun (w6 : Int32) (M49 : zM) => F_X12_expression_L29 79 zKX f w6 M49) 0 M26) (fun (k8 : zM → zO) => zit (r11 = 0) (k8 M23) (zbI (F_X12_isOpened 79 M23) (fun r12 M24 => zit (r12 = 0) (k8 M24) (zbV (F_X12_closes 79 M24) (fun M25 => (fun (w6 : Int32) (M49 : zM) => F_X12_expression_L29 79 zKX f w6 M49) 1 M25))))))) (k7 M22))) (k7 M21)))) (k6 M20))) (k6 M19)))
def zWo (f : Nat) (a b : Int32) (M : zM) : zO := zbV (F_X12_waitsFor 79 a M) (fun M37 => zbV (F_X12_goes 79 M37) (fun M39 => zbV (F_X12_operand 79 b M39) (fun M40 => zML f M40)))
def zWt (f : Nat) (a b v : Int32) (M : zM) : zO := zbV (F_X12_waitsFor 79 a M) (fun M45 => zck (zin (M45 79 35) 9 && zbo v) (zst (zup M45 (zgr 79 46) (zix (M45 79 35)) v) (fun M46 => zbV (F_X12_goes 79 M46) (fun M47 => zbV (F_X12_operand 79 b M47) (fun M48 => zML f M48)))))
section ZST
variable {B : Nat → Nat} {n : Nat}
theorem tkw_17 {i : Nat} (h : tkk B n i ≠ 257) : tkw B n i = 17 := by
  have h1 := tkw_le (B := B) (n := n) i
  by_cases c : tkw B n i < 17
  · exact absurd (tkw_k c) h
  · omega
theorem kwI {k : Nat} (h : k ≤ 17) {c : Nat} (hc : c < 17) : ((if k < 17 then nI k else -1) = nI c) = (k = c) := by
  by_cases e : k < 17
  · rw [if_pos e]
    exact i_eq (by omega) (by omega)
  · rw [if_neg e]
    apply propext
    constructor
    · intro z
      exact absurd z.symm (nI_n1 (by omega))
    · intro z
      omega
theorem ml_kw (ht : zTxt B n) {i : Nat} {M : zM} (h : zTmx B n (0, i) M) (c1 : tkw B n i ≠ 14) (c2 : tkw B n i ≠ 15) (f : Nat) : zML (f + 1) M = zbI (F_X12_isSign 79 60 M) (fun r4 M8 => zjo (fun (M18 : zM) => zBx f M18) (fun (k3 : zM → zO) => zjo (fun (M : zM) => zck (zin (M 79 35) 9) (zit ((M (zgr 79 46) (zix (M 79 35))) = 0) (zbV (F_X12_drops 79 4 M) (fun M11 => zbI (F_X12_isSign 79 60 M11) (fun r6 M12 => zjo (fun (w1 : Int32) (M13 : zM) => zbV (F_X12_waitsFor 79 w1 M13) (fun M14 => zck (zin (M14 79 35) 9 && zbo 1) (zst (zup M14 (zgr 79 46) (zix (M14 79 35)) 1) (fun M15 => zbV (F_X12_goes 79 M15) (fun M16 => zbV (F_X12_operand 79 0 M16) (fun M17 => (fun (w6 : Int32) (M49 : zM) => F_X12_expression_L29 79 zKX f w6 M49) 1 M17)))))) (fun (k5 : Int32 → zM → zO) => zit (r6 = 0) (k5 7 M12) (k5 6 M12))))) (k3 M))) (fun (k4 : zM → zO) => zit (r4 = 0) (zbI (F_X12_isSign 79 61 M8) (fun r5 M9 => zit (r5 = 0) (k3 M9) (k4 M9))) (k4 M8)))) := by
  have e1 := kwI (tkw_le (B := B) (n := n) i) (c := 14) (by omega)
  have e2 := kwI (tkw_le (B := B) (n := n) i) (c := 15) (by omega)
  unfold zML
  rw [F_X12_expression_L29, zit_f (by decide), gd_m h, zbI_I, if_pos rfl, zit_f (by decide), kw_m ht h, zbI_I, zjo_eq, zjo_eq]
  dsimp only
  rw [zit_f (show ¬ (if tkw B n i < 17 then nI (tkw B n i) else -1) = (14 : Int32) from fun z => c1 (e1.mp z)), zit_f (show ¬ (if tkw B n i < 17 then nI (tkw B n i) else -1) = (15 : Int32) from fun z => c2 (e2.mp z))]
  rfl
theorem ml_and (ht : zTxt B n) {i : Nat} {M : zM} (h : zTmx B n (0, i) M) (c1 : tkw B n i = 14) (f : Nat) : zML (f + 1) M = zbV (F_X12_drops 79 2 M) (fun M43 => zWt f 4 1 0 M43) := by
  unfold zML
  rw [F_X12_expression_L29, zit_f (by decide), gd_m h, zbI_I, if_pos rfl, zit_f (by decide), kw_m ht h, zbI_I, zjo_eq, zjo_eq]
  dsimp only
  rw [c1, if_pos (by omega), zit_t (by decide)]
  try dsimp only
  rw [zjo_eq, zit_t (by decide)]
  try dsimp only
  congr 1
theorem ml_or (ht : zTxt B n) {i : Nat} {M : zM} (h : zTmx B n (0, i) M) (c1 : tkw B n i = 15) (f : Nat) : zML (f + 1) M = zbV (F_X12_drops 79 1 M) (fun M43 => zWt f 5 1 0 M43) := by
  unfold zML
  rw [F_X12_expression_L29, zit_f (by decide), gd_m h, zbI_I, if_pos rfl, zit_f (by decide), kw_m ht h, zbI_I, zjo_eq, zjo_eq]
  dsimp only
  rw [c1, if_pos (by omega), zit_f (by decide), zit_t (by decide)]
  try dsimp only
  rw [zjo_eq, zit_f (by decide)]
  try dsimp only
  congr 1
theorem ml_B (ht : zTxt B n) {i : Nat} {M : zM} (h : zTmx B n (0, i) M) (c1 : tkw B n i ≠ 14) (c2 : tkw B n i ≠ 15) {D : Nat} (hD : D < 9) (h35 : M 79 35 = nI D) (c3 : (tkk B n i ≠ 60 ∧ tkk B n i ≠ 61) ∨ M 101 D ≠ 0) (f : Nat) : zML (f + 1) M = zBx f M := by
  rw [ml_kw ht h c1 c2, show F_X12_isSign 79 60 M = _ from isg_m ht h (c := 60) (by decide), zbI_I, zjo_eq, zjo_eq]
  dsimp only
  have tst : M 101 D ≠ 0 → zck (zin (M 79 35) 9) (zit ((M (zgr 79 46) (zix (M 79 35))) = 0) (zbV (F_X12_drops 79 4 M) (fun M11 => zbI (F_X12_isSign 79 60 M11) (fun r6 M12 => zjo (fun (w1 : Int32) (M13 : zM) => zbV (F_X12_waitsFor 79 w1 M13) (fun M14 => zck (zin (M14 79 35) 9 && zbo 1) (zst (zup M14 (zgr 79 46) (zix (M14 79 35)) 1) (fun M15 => zbV (F_X12_goes 79 M15) (fun M16 => zbV (F_X12_operand 79 0 M16) (fun M17 => F_X12_expression_L29 79 zKX f 1 M17)))))) (fun (k5 : Int32 → zM → zO) => zit (r6 = 0) (k5 7 M12) (k5 6 M12))))) (zBx f M)) = zBx f M := fun hz => by
    rw [h35, zin_k (k := D) (n := 9) hD (by omega), zck_t, gr_79_46, zix_k (k := D) (by omega), zit_f hz]
  by_cases d1 : tkk B n i = 60
  · rw [if_pos d1, zit_f (by decide)]
    exact tst (c3.resolve_left (fun z => z.1 d1))
  · rw [if_neg d1, zit_t rfl, show F_X12_isSign 79 61 M = _ from isg_m ht h (c := 61) (by decide), zbI_I]
    dsimp only
    by_cases d2 : tkk B n i = 61
    · rw [if_pos d2, zit_f (by decide)]
      exact tst (c3.resolve_left (fun z => z.2 d2))
    · rw [if_neg d2, zit_t rfl]
theorem ml_T (ht : zTxt B n) {i : Nat} {M : zM} (h : zTmx B n (0, i) M) {D : Nat} (hD : D < 9) (h35 : M 79 35 = nI D) (c3 : tkk B n i = 60 ∨ tkk B n i = 61) (h101 : M 101 D = 0) (f : Nat) : zML (f + 1) M = zbV (F_X12_drops 79 4 M) (fun M11 => zbI (F_X12_isSign 79 60 M11) (fun r6 M12 => zjo (fun (w1 : Int32) (M13 : zM) => zWt f w1 0 1 M13) (fun (k5 : Int32 → zM → zO) => zit (r6 = 0) (k5 7 M12) (k5 6 M12)))) := by
  have hw := tkw_17 (B := B) (n := n) (i := i) (by omega)
  rw [ml_kw ht h (by omega) (by omega), show F_X12_isSign 79 60 M = _ from isg_m ht h (c := 60) (by decide), zbI_I, zjo_eq, zjo_eq]
  dsimp only
  have tst : ∀ X : zO, zck (zin (M 79 35) 9) (zit ((M (zgr 79 46) (zix (M 79 35))) = 0) (zbV (F_X12_drops 79 4 M) (fun M11 => zbI (F_X12_isSign 79 60 M11) (fun r6 M12 => zjo (fun (w1 : Int32) (M13 : zM) => zbV (F_X12_waitsFor 79 w1 M13) (fun M14 => zck (zin (M14 79 35) 9 && zbo 1) (zst (zup M14 (zgr 79 46) (zix (M14 79 35)) 1) (fun M15 => zbV (F_X12_goes 79 M15) (fun M16 => zbV (F_X12_operand 79 0 M16) (fun M17 => F_X12_expression_L29 79 zKX f 1 M17)))))) (fun (k5 : Int32 → zM → zO) => zit (r6 = 0) (k5 7 M12) (k5 6 M12))))) X) = zbV (F_X12_drops 79 4 M) (fun M11 => zbI (F_X12_isSign 79 60 M11) (fun r6 M12 => zjo (fun (w1 : Int32) (M13 : zM) => zWt f w1 0 1 M13) (fun (k5 : Int32 → zM → zO) => zit (r6 = 0) (k5 7 M12) (k5 6 M12)))) := fun X => by
    rw [h35, zin_k (k := D) (n := 9) hD (by omega), zck_t, gr_79_46, zix_k (k := D) (by omega), zit_t h101]
    unfold zWt zML
    rw [gr_79_46]
  by_cases d1 : tkk B n i = 60
  · rw [if_pos d1, zit_f (by decide)]
    exact tst _
  · rw [if_neg d1, zit_t rfl, show F_X12_isSign 79 61 M = _ from isg_m ht h (c := 61) (by decide), zbI_I]
    dsimp only
    rw [if_pos (c3.resolve_left d1), zit_f (by decide)]
    exact tst _
theorem bx_S (ht : zTxt B n) {i : Nat} {M : zM} (h : zTmx B n (0, i) M) (c : tkk B n i = 43 ∨ tkk B n i = 45) (f : Nat) : zBx f M = zbV (F_X12_drops 79 5 M) (fun M35 => zbI (F_X12_isSign 79 43 M35) (fun r14 M36 => zjo (fun (w3 : Int32) (M37 : zM) => zWo f w3 0 M37) (fun (k10 : Int32 → zM → zO) => zit (r14 = 0) (k10 9 M36) (k10 8 M36)))) := by
  unfold zBx
  rw [show F_X12_isSign 79 43 M = _ from isg_m ht h (c := 43) (by decide), zbI_I, zjo_eq]
  dsimp only
  by_cases d1 : tkk B n i = 43
  · rw [if_pos d1, zit_f (by decide)]
    rfl
  · rw [if_neg d1, zit_t rfl, show F_X12_isSign 79 45 M = _ from isg_m ht h (c := 45) (by decide), zbI_I]
    dsimp only
    rw [if_pos (c.resolve_left d1), zit_f (by decide)]
    rfl
theorem bx_P (ht : zTxt B n) {i : Nat} {M : zM} (h : zTmx B n (0, i) M) (c : tkk B n i = 42 ∨ tkk B n i = 47) (f : Nat) : zBx f M = zbV (F_X12_drops 79 6 M) (fun M28 => zbI (F_X12_isSign 79 42 M28) (fun r13 M29 => zjo (fun (w2 : Int32) (M30 : zM) => zWo f w2 0 M30) (fun (k9 : Int32 → zM → zO) => zit (r13 = 0) (k9 11 M29) (k9 10 M29)))) := by
  unfold zBx
  rw [show F_X12_isSign 79 43 M = _ from isg_m ht h (c := 43) (by decide), zbI_I, zjo_eq]
  dsimp only
  rw [if_neg (by omega), zit_t rfl, show F_X12_isSign 79 45 M = _ from isg_m ht h (c := 45) (by decide), zbI_I]
  dsimp only
  rw [if_neg (by omega), zit_t rfl, show F_X12_isSign 79 42 M = _ from isg_m ht h (c := 42) (by decide), zbI_I, zjo_eq]
  dsimp only
  by_cases d1 : tkk B n i = 42
  · rw [if_pos d1, zit_f (by decide)]
    rfl
  · rw [if_neg d1, zit_t rfl, show F_X12_isSign 79 47 M = _ from isg_m ht h (c := 47) (by decide), zbI_I]
    dsimp only
    rw [if_pos (c.resolve_left d1), zit_f (by decide)]
    rfl
theorem bx_E (ht : zTxt B n) {i : Nat} {M : zM} (h : zTmx B n (0, i) M) (c1 : tkk B n i ≠ 43) (c2 : tkk B n i ≠ 45) (c3 : tkk B n i ≠ 42) (c4 : tkk B n i ≠ 47) (f : Nat) : zBx f M = if tkk B n i = 41 then zbI (F_X12_isOpened 79 M) (fun r12 M24 => zit (r12 = 0) (F_X12_expression_L29 79 zKX f 0 M24) (zbV (F_X12_closes 79 M24) (fun M25 => zML f M25))) else F_X12_expression_L29 79 zKX f 0 M := by
  unfold zBx
  rw [show F_X12_isSign 79 43 M = _ from isg_m ht h (c := 43) (by decide), zbI_I, zjo_eq]
  dsimp only
  rw [if_neg c1, zit_t rfl, show F_X12_isSign 79 45 M = _ from isg_m ht h (c := 45) (by decide), zbI_I]
  dsimp only
  rw [if_neg c2, zit_t rfl, show F_X12_isSign 79 42 M = _ from isg_m ht h (c := 42) (by decide), zbI_I, zjo_eq]
  dsimp only
  rw [if_neg c3, zit_t rfl, show F_X12_isSign 79 47 M = _ from isg_m ht h (c := 47) (by decide), zbI_I]
  dsimp only
  rw [if_neg c4, zit_t rfl, show F_X12_isSign 79 41 M = _ from isg_m ht h (c := 41) (by decide), zbI_I, zjo_eq]
  dsimp only
  by_cases d : tkk B n i = 41
  · rw [if_pos d, if_pos d, zit_f (by decide)]
    rfl
  · rw [if_neg d, if_neg d, zit_t rfl]
/-- the end of the loop -/
theorem ml_0 (f : Nat) (M : zM) : F_X12_expression_L29 79 zKX (f + 1) 0 M = zKX M := by
  rw [F_X12_expression_L29, zit_t rfl]
/-- good, and the rows -/
def zEg (B : Nat → Nat) (n : Nat) (s : zLs) (W P : List Nat) (D : Nat) (M : zM) : Prop := zTmx B n s.1 M ∧ s.1.1 = 0 ∧ s.1.2 ≤ 700 ∧ zYs s.2 W P D s.1.2 M
theorem zEg_0 {s : zLs} {W P : List Nat} {D : Nat} {M : zM} (h : zEg B n s W P D M) : zTmx B n (0, s.1.2) M := by
  have := h.1
  rw [show s.1 = (0, s.1.2) from Prod.ext h.2.1 rfl] at this
  exact this
/-- one more waits -/
theorem wfy_m {c : List (Nat × Nat)} {W : List Nat} {D bd a : Nat} {M : zM} (h : zYs c W [] D bd M) (hb : bd ≤ 700) : ∃ M', F_X12_waitsFor 79 (nI a) M = zV M' ∧ (zYs c (W ++ [a]) [] D (bd + 1) M' ∧ M' 101 = M 101 ∧ zEy M M') := by
  obtain ⟨⟨o, a1, a2, a3, a4⟩, b1, b2, b3, b4, b5⟩ := id h
  rw [List.append_nil] at b1 b2 b3 a4
  rw [wf_m b1 (by omega)]
  refine ⟨_, rfl, ⟨⟨o, ?_, ?_, a3, ?_⟩, ?_, ?_, ?_, by omega, ?_⟩, by rw [zup_ne (by decide), zup_ne (by decide)], fun k hk => by rw [zup_row, upd_ne (by omega), zup_ne (by decide)], zoff_up (zoff_up zoff_rfl (by decide)) (by decide)⟩
  · rw [zup_row, upd_ne (by decide), zup_ne (by decide), a1]
  · rw [zup_ne (by decide), zup_ne (by decide)]
    exact a2
  · simp only [List.length_append, List.length_singleton, List.length_nil]
    omega
  · rw [zup_row, upd_eq]
    simp only [List.length_append, List.length_singleton, List.length_nil, Nat.add_zero]
  · rw [zup_ne (by decide), zup_row, List.append_nil]
    exact zrow_ap b2
  · simp only [List.length_append, List.length_singleton, List.length_nil]
    omega
  · rw [zup_row, upd_ne (by decide), zup_ne (by decide), b5]
/-- on to the next token -/
theorem gog_m (ht : zTxt B n) {i : Nat} {c : List (Nat × Nat)} {W P : List Nat} {D : Nat} {M : zM} (h : zTmx B n (0, i) M) (hk : tkk B n i ≠ 256) (hy : zYs c W P D (i + 1) M) : ∃ M', F_X12_goes 79 M = zV M' ∧ (zEg B n ((0, i + 1), c) W P D M' ∧ M' 101 = M 101 ∧ zEo M M') := by
  obtain ⟨M1, e1, t1, o1⟩ := goz_m ht h
  have := (tk_lt hk).1
  have := ht.1
  exact ⟨M1, e1, ⟨t1, rfl, by dsimp only; omega, zYs_o hy o1⟩, o1.2 101 (by decide), zEo_o o1⟩
/-- an operator: dropped, waited for -/
theorem wo_m (ht : zTxt B n) {s : zLs} {W : List Nat} {D a : Nat} {b : Int32} {M : zM} (h : zEg B n s W [] D M) (hk : tkk B n s.1.2 ≠ 256) (f : Nat) : ∃ M', zWo f (nI a) b M = zbV (F_X12_operand 79 b M') (fun M40 => zML f M40) ∧ (zEg B n (zstp s.1, s.2) (W ++ [a]) [] D M' ∧ M' 101 = M 101 ∧ zEo M M') := by
  obtain ⟨h1, h2, h3, h4⟩ := id h
  obtain ⟨M1, e1, y1, q1, o1⟩ := wfy_m (a := a) h4 h3
  obtain ⟨M2, e2, y2, q2, o2⟩ := gog_m ht (zEy_t (zEg_0 h) o1) hk y1
  refine ⟨M2, ?_, ?_, q2.trans q1, zEo_tr (zEy_o o1) o2⟩
  · unfold zWo
    rw [e1, zbV_V, e2, zbV_V]
  · rw [zstp_0 h2]
    exact y2
theorem wt_m (ht : zTxt B n) {s : zLs} {W : List Nat} {D a : Nat} {b : Int32} {M : zM} (hD : D < 9) {v : Int32} (hv : zbo v = true) (h : zEg B n s W [] D M) (hk : tkk B n s.1.2 ≠ 256) (f : Nat) : ∃ M', zWt f (nI a) b v M = zbV (F_X12_operand 79 b M') (fun M40 => zML f M40) ∧ (zEg B n (zstp s.1, s.2) (W ++ [a]) [] D M' ∧ M' 101 D = v ∧ (∀ d, d ≠ D → M' 101 d = M 101 d) ∧ zEo M M') := by
  obtain ⟨h1, h2, h3, h4⟩ := id h
  obtain ⟨M1, e1, y1, q1, o1⟩ := wfy_m (a := a) h4 h3
  have h35 : M1 79 35 = nI D := y1.2.2.2.2.2
  obtain ⟨M2, hM2⟩ : ∃ M2, zup M1 101 D v = M2 := ⟨_, rfl⟩
  have o2 : zEy M1 M2 := by
    rw [← hM2]
    exact ⟨fun k hk => by rw [zup_ne (by decide)], zoff_up zoff_rfl (by decide)⟩
  have y2 : zYs s.2 (W ++ [a]) [] D (s.1.2 + 1) M2 := by
    rw [← hM2]
    exact zYs_cg y1 (fun k _ _ => by rw [zup_ne (by decide)]) (by rw [zup_ne (by decide)]) (by rw [zup_ne (by decide)])
  obtain ⟨M3, e3, y3, q3, o3⟩ := gog_m ht (zEy_t (zEy_t (zEg_0 h) o1) o2) hk y2
  refine ⟨M3, ?_, ?_, ?_, fun d hd => ?_, zEo_tr (zEy_o o1) (zEo_tr (zEy_o o2) o3)⟩
  · unfold zWt
    rw [e1, zbV_V, h35, zin_k (k := D) (n := 9) hD (by omega), hv, Bool.and_self, zck_t, zst_eq, gr_79_46, zix_k (k := D) (by omega), hM2, e3, zbV_V]
  · rw [zstp_0 h2]
    exact y3
  · rw [q3, ← hM2, zup_row, upd_eq]
  · rw [q3, ← hM2, zup_row, upd_ne hd, q1]
end ZST
