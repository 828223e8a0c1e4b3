/-! ROUTES, the reference's -/
def ztk (q : zSt) : zSt := (tS q, tL q, tW q, tA q, tV q, tG q, tT q, tF q, tR q, tC q + 1)
def zBl : List Nat := [103, 105, 106, 109, 110, 111, 112]
def zBr (M0 M : zM) : Prop := zoff zBl M0 M ∧ ∀ i, i < 720 → M 109 i = M0 109 i ∨ M 109 i = M0 79 60
theorem zBr_rfl {M : zM} : zBr M M := ⟨zoff_rfl, fun _ _ => Or.inl rfl⟩
theorem zBr_of {M0 M M' : zM} {l : List Nat} (h : zBr M0 M) (o : zoff l M M') (hl : ∀ i ∈ l, i ∈ zBl ∧ i ≠ 109) : zBr M0 M' := ⟨zoff_trans h.1 (zoff_mono o (fun i hi => (hl i hi).1)), fun i hi => by
  rw [o 109 (fun hz => (hl 109 hz).2 rfl)]
  exact h.2 i hi⟩
theorem zBr_st {M0 M : zM} {j : Nat} (h : zBr M0 M) : zBr M0 (zup M 109 j (M 79 60)) := ⟨zoff_up h.1 (by decide), fun i hi => by
  rw [zup_row, h.1 79 (by decide)]
  by_cases e : i = j
  · rw [e, upd_eq]
    exact Or.inr rfl
  · rw [upd_ne e]
    exact h.2 i hi⟩
theorem zBr_q {q : zSt} {M0 M : zM} (h : zQm q M0) (r : zBr M0 M) : zQm q M := by
  have h1 : zQm q (zupA M 109 (M0 109)) := zQm_off h (fun i h1 h2 h3 => by
    by_cases e : i = 109
    · rw [e, zupA_eq]
    · rw [zupA_ne e]
      refine r.1 i (fun hz => ?_)
      simp only [zBl, List.mem_cons, List.mem_nil_iff, or_false] at hz
      rcases hz with rfl | rfl | rfl | rfl | rfl | rfl | rfl
      · exact h3 (by decide)
      · exact h3 (by decide)
      · exact h3 (by decide)
      · exact e rfl
      · exact h3 (by decide)
      · exact h3 (by decide)
      · exact h3 (by decide)) (fun k _ => by rw [zupA_ne (by omega), r.1 79 (by decide)])
  obtain ⟨ho, hS, hI, hT, hF, hR, k, hk, h60, h109⟩ := h1
  unfold zSm zLm at hS
  simp (disch := omega) only [zupA_ne] at hS hI hT hF hR h60
  refine ⟨ho, hS, hI, hT, hF, hR, k, hk, h60, fun i hi => ?_⟩
  have h2 := h109 i hi
  rw [zupA_eq] at h2
  rcases r.2 i hi with e | e
  · rw [e]
    exact h2
  · rw [e, ← r.1 79 (by decide)]
    exact Or.inr ⟨k, Nat.le_refl _, h60⟩
def zMq (n : Nat) (Q : List zQe) (M : zM) : Prop := (∀ j, j < Q.length → M 110 j = nI (Q.getD j (0, 0, 0)).1 ∧ M 111 j = (Q.getD j (0, 0, 0)).2.2 ∧ M 112 j = nI (Q.getD j (0, 0, 0)).2.1) ∧ ∀ c, zAr n c → (M 109 (zK n c) = M 79 60 ↔ ∃ e ∈ Q, e.1 = c)
theorem zMq_off {n : Nat} {Q : List zQe} {M M' : zM} (h : zMq n Q M) (e0 : M' 79 = M 79) (e1 : M' 109 = M 109) (e2 : M' 110 = M 110) (e3 : M' 111 = M 111) (e4 : M' 112 = M 112) : zMq n Q M' := by
  unfold zMq
  rw [e0, e1, e2, e3, e4]
  exact h
theorem zpi_pre (a b : Nat) : ∀ d, ∃ T, zpi a (b + d) = zpi a b ++ T
  | 0 => ⟨[], (List.append_nil _).symm⟩
  | d + 1 => by
    obtain ⟨T, hT⟩ := zpi_pre a b d
    refine ⟨T ++ (if a < b + d then [(a, b + d)] else []), ?_⟩
    rw [← List.append_assoc, ← hT]
    rfl
theorem zpo_pre (n a : Nat) : ∀ d, ∃ T, zpo n (a + d) = zpo n a ++ T
  | 0 => ⟨[], (List.append_nil _).symm⟩
  | d + 1 => by
    obtain ⟨T, hT⟩ := zpo_pre n a d
    refine ⟨T ++ zpi (a + d) n, ?_⟩
    rw [← List.append_assoc, ← hT]
    rfl
theorem zpr_pre {n a b : Nat} (ha : a < n) (hb : b ≤ n) : ∃ T, zpr n = (zpo n a ++ zpi a b) ++ T := by
  obtain ⟨T, hT⟩ := zpo_pre n (a + 1) (n - (a + 1))
  obtain ⟨U, hU⟩ := zpi_pre a b (n - b)
  rw [show a + 1 + (n - (a + 1)) = n from by omega] at hT
  rw [show b + (n - b) = n from by omega] at hU
  refine ⟨U ++ T, ?_⟩
  rw [zpr_eq, hT]
  show (zpo n a ++ zpi a n) ++ T = _
  rw [hU, List.append_assoc, List.append_assoc, List.append_assoc]
section ZBF
variable {S : zSD} {L : zLw} {w : zWD} {M0 : zM}
/-- with a name's row in hand -/
def zMj (S : zSD) (w : zWD) (M0 : zM) (g c : Nat) (Q : List zQe) (M : zM) : Prop := (∀ z ∈ Q, z.1 ≠ g) ∧ zBr M0 M ∧ zMq (S 0 0) Q M ∧ ∃ p : Nat → Nat, (∀ i, i < S 0 0 → p i = zfg c i) ∧ zWr (M 103) 0 (p, w.2.1, w.2.2)
theorem b1_m (env : ∀ M, zBr M0 M → zSm S M ∧ zLm L M) (ho : zSok S) (hl : zLok L) (hn : S 0 0 ≤ 6) {g wh : Nat} (hgl : g < 2 ^ 31) (hwh : wh ≤ 1) {k : Nat} (hk7 : k < 720) {Q0 Q7 : List zQe} (hQ0 : zQo (S 0 0) Q0) (hQ7 : zQo (S 0 0) Q7) (hk : k < Q0.length) {e : zQe} (he : Q0.getD k (0, 0, 0) = e) (hin : ∀ z ∈ zgo S L w e Q0 (zpr (S 0 0)), z ∈ Q7) {a : Nat} (ha : a < S 0 0) (K : Int32 → zM → zO) {M1 : zM} (hI : zMj S w M0 g e.1 (zgo S L w e Q0 (zpo (S 0 0) a)) M1) :
    (∃ M', F_X12_swaps_L186 79 (nI g) (nI wh) (nI k) (nI a) K zN (nI (zgo S L w e Q0 (zpo (S 0 0) a)).length) (nI (a + 1)) M1 = zI (zsr Q7 g (decide (wh = 0))) M' ∧ zBr M0 M') ∨
    (∃ M', F_X12_swaps_L186 79 (nI g) (nI wh) (nI k) (nI a) K zN (nI (zgo S L w e Q0 (zpo (S 0 0) a)).length) (nI (a + 1)) M1 = K (nI (zgo S L w e Q0 (zpo (S 0 0) (a + 1))).length) M' ∧ zMj S w M0 g e.1 (zgo S L w e Q0 (zpo (S 0 0) (a + 1))) M') := by
  have heQ : e ∈ Q0 := by rw [← he]; exact getD_in _ Q0 k hk
  have hA := hQ0.1 e heQ
  have hfar := zQo_far hn hQ0 heQ
  have h8 := pow8 (n := S 0 0) (by omega)
  have hfk := hQ0.2.2 k hk
  rw [he] at hfk
  have grow : ∀ P, (∀ s ∈ P, s.1 < S 0 0 ∧ s.2 < S 0 0) → zQo (S 0 0) (zgo S L w e Q0 P) ∧ k < (zgo S L w e Q0 P).length ∧ (zgo S L w e Q0 P).getD k (0, 0, 0) = e := fun P hP => by
    obtain ⟨T, hT⟩ := zgo_pre S L w e P Q0
    refine ⟨?_, ?_, ?_⟩
    · have := zgo_ok (S := S) (L := L) (w := w) (by omega) hk P Q0 ⟨[], (List.append_nil _).symm⟩ hQ0 hP
      rw [he] at this
      exact this
    · rw [hT, List.length_append]; omega
    · rw [hT, getD_l _ Q0 T k hk, he]
  have e00 : zgo S L w e Q0 (zpo (S 0 0) a) = zgo S L w e Q0 (zpo (S 0 0) a ++ zpi a (a + 1)) := by rw [zpi_lo a (a + 1) (Nat.le_refl _), List.append_nil]
  rw [e00] at hI ⊢
  refine zfor (i := a + 1) (f := zN) (a := M1) (S 0 0) (fun f b (M2 : zM) => F_X12_swaps_L186 79 (nI g) (nI wh) (nI k) (nI a) K f (nI (zgo S L w e Q0 (zpo (S 0 0) a ++ zpi a b)).length) (nI b) M2) (fun b M2 => a < b ∧ zMj S w M0 g e.1 (zgo S L w e Q0 (zpo (S 0 0) a ++ zpi a b)) M2) (fun o => (∃ M', o = zI (zsr Q7 g (decide (wh = 0))) M' ∧ zBr M0 M') ∨ (∃ M', o = K (nI (zgo S L w e Q0 (zpo (S 0 0) (a + 1))).length) M' ∧ zMj S w M0 g e.1 (zgo S L w e Q0 (zpo (S 0 0) (a + 1))) M')) ?_ ?_ (by omega) (zN_ge (by omega)) ⟨by omega, hI⟩
  · rintro f b M2 hb ⟨hab, c1, c2, c3, p, c4, c5⟩
    have hP : ∀ s ∈ zpo (S 0 0) a ++ zpi a b, s.1 < S 0 0 ∧ s.2 < S 0 0 := fun s hs => by
      obtain ⟨T, hT⟩ := zpr_pre ha (Nat.le_of_lt hb)
      have := zpr_in (S 0 0) (by omega) s (by rw [hT]; exact List.mem_append_left _ hs)
      exact ⟨this.1, this.2.1⟩
    obtain ⟨q1, q3, q4⟩ := grow _ hP
    have eP : zgo S L w e Q0 (zpo (S 0 0) a ++ zpi a (b + 1)) = zgs S L w e (zgo S L w e Q0 (zpo (S 0 0) a ++ zpi a b)) (a, b) := by
      rw [← zgo_ap]
      congr 1
      show zpo (S 0 0) a ++ (zpi a b ++ (if a < b then [(a, b)] else [])) = _
      rw [if_pos hab, List.append_assoc]
    have hin' : ∀ z ∈ zgo S L w e Q0 (zpo (S 0 0) a ++ zpi a (b + 1)), z ∈ Q7 := fun z hz => hin z (by
      obtain ⟨T, hT⟩ := zpr_pre (a := a) (b := b + 1) ha hb
      obtain ⟨U, hU⟩ := zgo_pre S L w e T (zgo S L w e Q0 (zpo (S 0 0) a ++ zpi a (b + 1)))
      rw [hT, zgo_split, hU]
      exact List.mem_append_left _ hz)
    obtain ⟨Q, hQ⟩ : ∃ Q, zgo S L w e Q0 (zpo (S 0 0) a ++ zpi a b) = Q := ⟨_, rfl⟩
    rw [hQ] at q1 q3 q4 c1 c3 eP
    have hQl := zQo_len hn q1
    have hpa : p a < S 0 0 := by rw [c4 a ha]; exact hA.2.1 a ha
    have hpb : p b < S 0 0 := by rw [c4 b hb]; exact hA.2.1 b hb
    obtain ⟨hS2, hL2⟩ := env M2 c2
    obtain ⟨M3, e3, o3⟩ := lt_m (Or.inr rfl) hS2 ho hl hL2 c5 (a := a) (b := b) (by omega) (by omega) hpa hpb
    have ez : zmay S L (p, w.2.1, w.2.2) a b = zmw S L w a b (zfg e.1 a) (zfg e.1 b) := by
      rw [← c4 a ha, ← c4 b hb]
      rfl
    rw [ez] at e3
    have r3 : zBr M0 M3 := zBr_of c2 o3 (by decide)
    have q3' : zMq (S 0 0) Q M3 := zMq_off c3 (o3 79 (by decide)) (o3 109 (by decide)) (o3 110 (by decide)) (o3 111 (by decide)) (o3 112 (by decide))
    have w3 : zWr (M3 103) 0 (p, w.2.1, w.2.2) := by rw [o3 103 (by decide)]; exact c5
    show ((∃ M', F_X12_swaps_L186 79 (nI g) (nI wh) (nI k) (nI a) K (f + 1) (nI (zgo S L w e Q0 (zpo (S 0 0) a ++ zpi a b)).length) (nI b) M2 = _ ∧ _) ∨ ∃ M', F_X12_swaps_L186 79 (nI g) (nI wh) (nI k) (nI a) K (f + 1) (nI (zgo S L w e Q0 (zpo (S 0 0) a ++ zpi a b)).length) (nI b) M2 = _ ∧ _) ∨ ∃ M4, F_X12_swaps_L186 79 (nI g) (nI wh) (nI k) (nI a) K (f + 1) (nI (zgo S L w e Q0 (zpo (S 0 0) a ++ zpi a b)).length) (nI b) M2 = F_X12_swaps_L186 79 (nI g) (nI wh) (nI k) (nI a) K f (nI (zgo S L w e Q0 (zpo (S 0 0) a ++ zpi a (b + 1))).length) (nI (b + 1)) M4 ∧ _
    rw [hQ, eP, F_X12_swaps_L186, sm_n hS2, zit_f (nI_ge hb (by omega)), gr_79_48, e3, zbI_I, zjo_eq, nI_1]
    cases hz : zmw S L w a b (zfg e.1 a) (zfg e.1 b) with
    | false =>
      have eg : zgs S L w e Q (a, b) = Q := by
        unfold zgs
        rw [hz, Bool.false_and, if_neg (by decide)]
      rw [if_neg (by decide), zit_t (by decide), eg]
      exact Or.inr ⟨M3, rfl, by omega, c1, r3, q3', p, c4, w3⟩
    | true =>
      rw [if_pos rfl, zit_f (by decide)]
      obtain ⟨M4, e4, w4, o4⟩ := chg_m (M := M3) (a := a) (b := b) (p := p) (w := w) (by omega) (by omega) w3
      rw [e4, zbV_V]
      have r4 : zBr M0 M4 := zBr_of r3 o4 (by decide)
      obtain ⟨hS4, -⟩ := env M4 r4
      have esw : ∀ i, i < S 0 0 → zsw a b p i = zsw a b (zfg e.1) i := fun i hi => by
        unfold zsw
        by_cases h1 : i = a
        · rw [if_pos h1, if_pos h1, c4 b hb]
        · rw [if_neg h1, if_neg h1]
          by_cases h2 : i = b
          · rw [if_pos h2, if_pos h2, c4 a ha]
          · rw [if_neg h2, if_neg h2, c4 i hi]
      have hsw := zar_sw hA.2 ha hb
      have hp8 : ∀ i, i < S 0 0 → zsw a b p i < 8 := fun i hi => by
        rw [esw i hi]
        have := hsw.1 i hi
        omega
      have h4 : ∀ i, i < S 0 0 → M4 103 i = nI (zsw a b p i) := fun i hi => wr_n w4 i (by omega)
      have hcd := zAr_of (n := S 0 0) (by omega) hsw
      have ecd : zcd (zsw a b p) (S 0 0) = zcd (zsw a b (zfg e.1)) (S 0 0) := zcd_cg _ esw
      have erk : zrk (S 0 0) (zsw a b p) (S 0 0) = zK (S 0 0) (zcd (zsw a b (zfg e.1)) (S 0 0)) := by
        rw [zK_of (by omega) hsw]
        exact zrk_cg esw _ (Nat.le_refl _)
      rw [co_m hS4 (by omega) zal103 hp8 h4, zbI_I, rko_m hS4 (by omega) zal103 hp8 h4, zbI_I, ecd, erk]
      obtain ⟨M5, e5, w5, o5⟩ := chg_m (M := M4) (a := a) (b := b) (p := zsw a b p) (w := w) (by omega) (by omega) w4
      rw [zsw_2 (by omega)] at w5
      have r5 : zBr M0 M5 := zBr_of r4 o5 (by decide)
      have q5 : zMq (S 0 0) Q M5 := zMq_off q3' (by rw [o5 79 (by decide), o4 79 (by decide)]) (by rw [o5 109 (by decide), o4 109 (by decide)]) (by rw [o5 110 (by decide), o4 110 (by decide)]) (by rw [o5 111 (by decide), o4 111 (by decide)]) (by rw [o5 112 (by decide), o4 112 (by decide)])
      have hkk := zK_lt hn hcd
      rw [e5, zbV_V, zin_k (k := zK (S 0 0) (zcd (zsw a b (zfg e.1)) (S 0 0))) (n := 720) hkk (by omega), zck_t, gr_79_55, zix_k (k := zK (S 0 0) (zcd (zsw a b (zfg e.1)) (S 0 0))) (by omega)]
      have eg : zgs S L w e Q (a, b) = if Q.any (fun z => z.1 == zcd (zsw a b (zfg e.1)) (S 0 0)) = true then Q else Q ++ [(zcd (zsw a b (zfg e.1)) (S 0 0), e.2.1 + 1, if e.2.1 = 0 then nI (10 * a + b) else e.2.2)] := by
        unfold zgs
        rw [hz, Bool.true_and]
        cases Q.any (fun z => z.1 == zcd (zsw a b (zfg e.1)) (S 0 0)) <;> rfl
      rw [eP, eg] at hin'
      rw [eg]
      obtain ⟨cc, hcc⟩ : ∃ cc, zcd (zsw a b (zfg e.1)) (S 0 0) = cc := ⟨_, rfl⟩
      rw [hcc] at hcd hkk hin' ⊢
      by_cases hany : Q.any (fun z => z.1 == cc) = true
      · rw [if_pos hany, zit_t ((q5.2 cc hcd).mpr (any_t hany))]
        exact Or.inr ⟨M5, rfl, by omega, c1, r5, q5, p, c4, w5⟩
      · have hne := any_f hany
        rw [if_neg hany] at hin'
        rw [if_neg hany, zit_f (fun z => by
          obtain ⟨e', he', e1⟩ := (q5.2 cc hcd).mp z
          exact hne e' he' e1), zck_t, zst_eq]
        obtain ⟨M6, hM6⟩ : ∃ M6, zup M5 109 (zK (S 0 0) cc) (M5 79 60) = M6 := ⟨_, rfl⟩
        rw [hM6]
        have r6 : zBr M0 M6 := by rw [← hM6]; exact zBr_st r5
        obtain ⟨first, hfirst⟩ : ∃ v, (if e.2.1 = 0 then nI (10 * a + b) else e.2.2) = v := ⟨_, rfl⟩
        have hQ' := zQo_add (e := (cc, e.2.1 + 1, first)) q1 hcd hne (show e.2.1 + 1 ≤ Q.length from by omega) (fun _ => Nat.succ_pos _)
        have hl' := zQo_len hn hQ'
        have el : (Q ++ [(cc, e.2.1 + 1, first)]).length = Q.length + 1 := by rw [List.length_append]; rfl
        rw [el] at hl'
        rw [hfirst] at hin'
        rw [zin_k (k := Q.length) (n := 720) (by omega) (by omega), zck_t, zst_eq, gr_79_56, gr_79_57, gr_79_58, zix_k (k := Q.length) (by omega), zjo_eq, zin_k (k := k) (n := 720) (by omega) (by omega), zix_k (k := k) (by omega), zup_ne (by omega)]
        have k111 : M6 111 k = e.2.2 := by
          rw [← hM6, zup_ne (by omega), (q5.1 k q3).2.1, q4]
        have k112 : M6 112 k = nI e.2.1 := by
          rw [← hM6, zup_ne (by omega), (q5.1 k q3).2.2, q4]
        have main : ∀ v : Int32, v = first → (((∃ M', zck true (zst (zup (zup M6 110 Q.length (nI cc)) 111 Q.length v) (fun M22 => zck true (zck true (zst (zup M22 112 Q.length (M22 112 k + 1)) (fun M23 => zit (nI cc = nI g) (zjo (fun (w2 : Int32) (M24 : zM) => zI w2 M24) (fun (k4 : Int32 → zM → zO) => zit (nI wh = 0) (zck true (k4 (M23 112 Q.length) M23)) (zck true (k4 (M23 111 Q.length) M23)))) (F_X12_swaps_L186 79 (nI g) (nI wh) (nI k) (nI a) K f (nI Q.length + 1) (nI (b + 1)) M23)))))) = zI (zsr Q7 g (decide (wh = 0))) M' ∧ zBr M0 M') ∨ ∃ M', zck true (zst (zup (zup M6 110 Q.length (nI cc)) 111 Q.length v) (fun M22 => zck true (zck true (zst (zup M22 112 Q.length (M22 112 k + 1)) (fun M23 => zit (nI cc = nI g) (zjo (fun (w2 : Int32) (M24 : zM) => zI w2 M24) (fun (k4 : Int32 → zM → zO) => zit (nI wh = 0) (zck true (k4 (M23 112 Q.length) M23)) (zck true (k4 (M23 111 Q.length) M23)))) (F_X12_swaps_L186 79 (nI g) (nI wh) (nI k) (nI a) K f (nI Q.length + 1) (nI (b + 1)) M23)))))) = K (nI (zgo S L w e Q0 (zpo (S 0 0) (a + 1))).length) M' ∧ zMj S w M0 g e.1 (zgo S L w e Q0 (zpo (S 0 0) (a + 1))) M') ∨ ∃ M4, zck true (zst (zup (zup M6 110 Q.length (nI cc)) 111 Q.length v) (fun M22 => zck true (zck true (zst (zup M22 112 Q.length (M22 112 k + 1)) (fun M23 => zit (nI cc = nI g) (zjo (fun (w2 : Int32) (M24 : zM) => zI w2 M24) (fun (k4 : Int32 → zM → zO) => zit (nI wh = 0) (zck true (k4 (M23 112 Q.length) M23)) (zck true (k4 (M23 111 Q.length) M23)))) (F_X12_swaps_L186 79 (nI g) (nI wh) (nI k) (nI a) K f (nI Q.length + 1) (nI (b + 1)) M23)))))) = F_X12_swaps_L186 79 (nI g) (nI wh) (nI k) (nI a) K f (nI (Q ++ [(cc, e.2.1 + 1, first)]).length) (nI (b + 1)) M4 ∧ a < b + 1 ∧ zMj S w M0 g e.1 (Q ++ [(cc, e.2.1 + 1, first)]) M4) := fun v hv => by
          rw [zck_t, zst_eq, zck_t, zck_t, zst_eq, show zup (zup M6 110 Q.length (nI cc)) 111 Q.length v 112 k = nI e.2.1 from by rw [zup_ne (by omega), zup_ne (by omega), k112], show nI e.2.1 + 1 = nI (e.2.1 + 1) from nI_1 _, show nI Q.length + 1 = nI (Q.length + 1) from nI_1 _]
          obtain ⟨M7, hM7⟩ : ∃ M7, zup (zup (zup M6 110 Q.length (nI cc)) 111 Q.length v) 112 Q.length (nI (e.2.1 + 1)) = M7 := ⟨_, rfl⟩
          rw [hM7]
          have o7 : zoff [110, 111, 112] M6 M7 := by rw [← hM7]; exact zoff_up (zoff_up (zoff_up zoff_rfl (by decide)) (by decide)) (by decide)
          have r7 : zBr M0 M7 := zBr_of r6 o7 (by decide)
          have hccl := hcd.1
          by_cases hg : cc = g
          · rw [zit_t (by rw [hg]), zjo_eq]
            refine Or.inl (Or.inl ⟨M7, ?_, r7⟩)
            have hm := hin' (cc, e.2.1 + 1, first) (List.mem_append_right _ (List.mem_singleton.mpr rfl))
            rw [zsr_some hQ7 hm hg]
            by_cases hw0 : wh = 0
            · rw [zit_t (by rw [hw0]; rfl), zck_t, decide_eq_true hw0, if_pos rfl, ← hM7, zup_row, upd_eq]
            · rw [zit_f (nI_ne0 (by omega) (by omega)), zck_t, decide_eq_false hw0, if_neg (by decide), ← hM7, zup_ne (by omega), zup_row, upd_eq, hv]
          · rw [zit_f (fun z => hg ((nI_eq (by omega) (by omega)).mp z)), el]
            refine Or.inr ⟨M7, rfl, by omega, fun z hz => ?_, r7, ⟨fun j hj => ?_, fun c hc => ?_⟩, p, c4, ?_⟩
            · rcases List.mem_append.mp hz with hz | hz
              · exact c1 z hz
              · rw [List.mem_singleton.mp hz]
                exact hg
            · rw [el] at hj
              rw [getD_ap _ _ Q j hj, ← hM7]
              rw [show zup (zup (zup M6 110 Q.length (nI cc)) 111 Q.length v) 112 Q.length (nI (e.2.1 + 1)) 110 = upd (M6 110) Q.length (nI cc) from by rw [zup_ne (by omega), zup_ne (by omega), zup_row], show zup (zup (zup M6 110 Q.length (nI cc)) 111 Q.length v) 112 Q.length (nI (e.2.1 + 1)) 111 = upd (M6 111) Q.length v from by rw [zup_ne (by omega), zup_row, zup_ne (by omega)], show zup (zup (zup M6 110 Q.length (nI cc)) 111 Q.length v) 112 Q.length (nI (e.2.1 + 1)) 112 = upd (M6 112) Q.length (nI (e.2.1 + 1)) from by rw [zup_row, zup_ne (by omega), zup_ne (by omega)]]
              by_cases ej : j = Q.length
              · rw [ej, if_pos rfl, upd_eq, upd_eq, upd_eq, hv]
                exact ⟨rfl, rfl, rfl⟩
              · rw [if_neg ej, upd_ne ej, upd_ne ej, upd_ne ej, ← hM6, zup_ne (by omega), zup_ne (by omega), zup_ne (by omega)]
                exact q5.1 j (by omega)
            · rw [o7 109 (by decide), o7 79 (by decide), ← hM6, zup_row, zup_ne (by omega)]
              by_cases ec : c = cc
              · rw [ec, upd_eq]
                exact ⟨fun _ => ⟨_, List.mem_append_right _ (List.mem_singleton.mpr rfl), rfl⟩, fun _ => rfl⟩
              · rw [upd_ne (fun z => ec (zK_inj hn hc hcd z)), q5.2 c hc]
                constructor
                · rintro ⟨e', he', e1⟩
                  exact ⟨e', List.mem_append_left _ he', e1⟩
                · rintro ⟨e', he', e1⟩
                  rcases List.mem_append.mp he' with he' | he'
                  · exact ⟨e', he', e1⟩
                  · rw [List.mem_singleton.mp he'] at e1
                    exact absurd e1.symm ec
            · rw [o7 103 (by decide), ← hM6, zup_ne (by omega)]
              exact w5
        rw [hfirst]
        by_cases h0 : k = 0
        · rw [zit_t (show nI k = 0 from by rw [h0]; rfl), show (10 : Int32) = nI 10 from rfl, pk_mul, nI_add]
          exact main _ (by rw [← hfirst, if_pos (by omega)])
        · rw [zit_f (nI_ne0 (by omega) (by omega)), zck_t, k111]
          exact main _ (by rw [← hfirst, if_neg (by omega)])
  · rintro f M2 ⟨-, hI2⟩
    refine Or.inr ?_
    show ∃ M', F_X12_swaps_L186 79 (nI g) (nI wh) (nI k) (nI a) K (f + 1) _ _ M2 = _ ∧ _
    rw [F_X12_swaps_L186, sm_n (env M2 hI2.2.1).1, zit_t (nI_le (Nat.le_refl _) (by omega))]
    exact ⟨M2, rfl, hI2⟩
end ZBF
