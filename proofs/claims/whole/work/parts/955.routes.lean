/-! ROUTES, the class's -/
def zXq (n : Nat) (Q : List zQe) (M : zM) : Prop := M 69 3 = nI Q.length ∧ (∀ j, j < Q.length → M 70 j = nI (Q.getD j (0, 0, 0)).1) ∧ ∀ c, zAr n c → (∀ e ∈ Q, e.1 = c → M 71 (zK n c) = nI e.2.1 ∧ M 72 (zK n c) = e.2.2) ∧ ((∀ e ∈ Q, e.1 ≠ c) → M 71 (zK n c) = -1)
theorem zXq_off {n : Nat} {Q : List zQe} {M M' : zM} (h : zXq n Q M) (e0 : M' 69 = M 69) (e1 : M' 70 = M 70) (e2 : M' 71 = M 71) (e3 : M' 72 = M 72) : zXq n Q M' := by
  unfold zXq
  rw [e0, e1, e2, e3]
  exact h
theorem any_t {Q : List zQe} {c : Nat} (h : Q.any (fun z => z.1 == c) = true) : ∃ e ∈ Q, e.1 = c := by
  obtain ⟨e, he, h2⟩ := List.any_eq_true.mp h
  exact ⟨e, he, eq_of_beq h2⟩
theorem any_f {Q : List zQe} {c : Nat} (h : ¬ Q.any (fun z => z.1 == c) = true) : ∀ e ∈ Q, e.1 ≠ c := fun e he h2 => h (List.any_eq_true.mpr ⟨e, he, beq_iff_eq.mpr h2⟩)
theorem zQo_far {n : Nat} (hn : n ≤ 6) {Q : List zQe} (h : zQo n Q) {e : zQe} (he : e ∈ Q) : e.2.1 < 720 := by
  obtain ⟨i, hi, ei⟩ := mem_getD (0, 0, 0) Q he
  have h1 := (h.2.2 i hi).1
  have h2 := zQo_len hn h
  rw [ei] at h1
  omega
section ZRT
variable {S : zSD} {L : zLw} {w : zWD}
theorem rc_x {M : zM} (hS : zSx S M) (hn : S 0 0 ≤ 6) {Q : List zQe} (hQ : zQo (S 0 0) Q) (hX : zXq (S 0 0) Q M) {c far : Nat} {first : Int32} (hc : zAr (S 0 0) c) (hf : far ≤ Q.length) (hf0 : 0 < Q.length → 0 < far) : ∃ M', F_X4_reach 69 (nI c) (nI far) first M = zV M' ∧ (zXq (S 0 0) (if Q.any (fun z => z.1 == c) = true then Q else Q ++ [(c, far, first)]) M' ∧ (∀ z, z ≠ 3 → M' 69 z = M 69 z) ∧ zoff [69, 70, 71, 72] M M') := by
  have hk := zK_lt hn hc
  obtain ⟨x1, x2, x3⟩ := id hX
  unfold F_X4_reach
  rw [nb_x hS hn hc, zbI_I, zin_k (k := zK (S 0 0) c) (n := 720) hk (by omega), zck_t, zjo_eq, gr_69_4, gr_69_5, gr_69_2, zix_k (k := zK (S 0 0) c) (by omega)]
  by_cases ha : Q.any (fun z => z.1 == c) = true
  · obtain ⟨e, he, e1⟩ := any_t ha
    have hfe := zQo_far hn hQ he
    rw [if_pos ha, ((x3 c hc).1 e he e1).1, zit_f (nI_n1 (by omega))]
    exact ⟨M, rfl, hX, fun _ _ => rfl, zoff_rfl⟩
  · have hne := any_f ha
    have hQ' := zQo_add (e := (c, far, first)) hQ hc hne hf hf0
    have hl' := zQo_len hn hQ'
    have el : (Q ++ [(c, far, first)]).length = Q.length + 1 := by rw [List.length_append]; rfl
    rw [el] at hl'
    rw [if_neg ha, (x3 c hc).2 hne, zit_t rfl, x1, show (720 : Int32) = nI 720 from rfl, zit_f (nI_ge (by omega) (by omega)), zck_t, zst_eq, zck_t, zst_eq, zup_ne (by omega), zup_ne (by omega), x1, zin_k (k := Q.length) (n := 720) (by omega) (by omega), zck_t, zst_eq, zst_eq, zix_k (k := Q.length) (by omega), zup_ne (by omega), zup_ne (by omega), zup_ne (by omega), x1, nI_1]
    refine ⟨_, rfl, ⟨?_, fun j hj => ?_, fun c' hc' => ?_⟩, fun z hz => ?_, zoff_up (zoff_up (zoff_up (zoff_up zoff_rfl (by decide)) (by decide)) (by decide)) (by decide)⟩
    · rw [zup_row, upd_eq, el]
    · rw [el] at hj
      rw [zup_ne (by omega), zup_row, zup_ne (by omega), zup_ne (by omega), getD_ap _ _ Q j hj]
      by_cases e : j = Q.length
      · rw [e, upd_eq, if_pos rfl]
      · rw [upd_ne e, if_neg e]
        exact x2 j (by omega)
    · have e71 : zup (zup (zup (zup M 71 (zK (S 0 0) c) (nI far)) 72 (zK (S 0 0) c) first) 70 Q.length (nI c)) 69 3 (nI (Q.length + 1)) 71 = upd (M 71) (zK (S 0 0) c) (nI far) := by
        rw [zup_ne (by omega), zup_ne (by omega), zup_ne (by omega), zup_row]
      have e72 : zup (zup (zup (zup M 71 (zK (S 0 0) c) (nI far)) 72 (zK (S 0 0) c) first) 70 Q.length (nI c)) 69 3 (nI (Q.length + 1)) 72 = upd (M 72) (zK (S 0 0) c) first := by
        rw [zup_ne (by omega), zup_ne (by omega), zup_row, zup_ne (by omega)]
      rw [e71, e72]
      by_cases ec : c' = c
      · subst ec
        rw [upd_eq, upd_eq]
        refine ⟨fun e he h1 => ?_, fun h1 => absurd rfl (h1 (c', far, first) (List.mem_append_right _ (List.mem_singleton.mpr rfl)))⟩
        rcases List.mem_append.mp he with he | he
        · exact absurd h1 (hne e he)
        · rw [List.mem_singleton.mp he]
          exact ⟨rfl, rfl⟩
      · have hkk : zK (S 0 0) c' ≠ zK (S 0 0) c := fun e => ec (zK_inj hn hc' hc e)
        rw [upd_ne hkk, upd_ne hkk]
        refine ⟨fun e he h1 => ?_, fun h1 => (x3 c' hc').2 (fun e he => h1 e (List.mem_append_left _ he))⟩
        rcases List.mem_append.mp he with he | he
        · exact (x3 c' hc').1 e he h1
        · rw [List.mem_singleton.mp he] at h1
          exact absurd h1.symm ec
    · rw [zup_row, upd_ne hz, zup_ne (by omega), zup_ne (by omega), zup_ne (by omega)]
/-- what the class's spreading stands on -/
def zGe (S : zSD) (L : zLw) (w : zWD) (M : zM) : Prop := zSx S M ∧ zLx L M ∧ zWx 40 w M ∧ zPk S L w (M 68)
def zRl : List Nat := [10, 12, 68, 69, 70, 71, 72]
theorem zGe_off {M M' : zM} (h : zGe S L w M) (o : zoff zRl M M') (hp : zPk S L w (M' 68)) : zGe S L w M' := by
  obtain ⟨h1, h2, h3, -⟩ := h
  refine ⟨zSx_off h1 (fun i hi => o i (fun hz => by
    simp only [zRl, List.mem_cons, List.mem_nil_iff, or_false] at hi hz
    omega)), zLx_off h2 (o 9 (by decide)) (o 11 (by decide)), ?_, hp⟩
  unfold zWx
  rw [o 40 (by decide), o (40 + 1) (by decide), o (40 + 2) (by decide)]
  exact h3
def zRi (S : zSD) (L : zLw) (w : zWD) (M0 : zM) (Q : List zQe) (M : zM) : Prop := zGe S L w M ∧ zXq (S 0 0) Q M ∧ (∀ z, z ≠ 3 → M 69 z = M0 69 z) ∧ zoff zRl M0 M
theorem sp_x {M : zM} (ho : zSok S) (hl : zLok L) (hn : S 0 0 ≤ 6) {Q0 : List zQe} (hQ0 : zQo (S 0 0) Q0) {k : Nat} (hk : k < Q0.length) (hG : zGe S L w M) (hX : zXq (S 0 0) Q0 M) : ∃ M', F_X4_spread 69 (nI (Q0.getD k (0, 0, 0)).1) M = zV M' ∧ zRi S L w M (zgo S L w (Q0.getD k (0, 0, 0)) Q0 (zpr (S 0 0))) M' := by
  have heQ := getD_in (0, 0, 0) Q0 k hk
  obtain ⟨e, he⟩ : ∃ e, Q0.getD k (0, 0, 0) = e := ⟨_, rfl⟩
  rw [he] at heQ ⊢
  have hA := hQ0.1 e heQ
  have hkk := zK_lt hn hA
  have hfar := zQo_far hn hQ0 heQ
  have h8 := pow8 (n := S 0 0) (by omega)
  have hcl := hA.1
  unfold F_X4_spread
  rw [nb_x hG.1 hn hA, zbI_I]
  have grow : ∀ P, (∀ s ∈ P, s.1 < S 0 0 ∧ s.2 < S 0 0) → zQo (S 0 0) (zgo S L w e Q0 P) ∧ e ∈ zgo S L w e Q0 P ∧ k < (zgo S L w e Q0 P).length ∧ (zgo S L w e Q0 P).getD k (0, 0, 0) = e := fun P hP => by
    obtain ⟨T, hT⟩ := zgo_pre S L w e P Q0
    refine ⟨?_, ?_, ?_, ?_⟩
    · have := zgo_ok (S := S) (L := L) (w := w) (by omega) hk P Q0 ⟨[], (List.append_nil _).symm⟩ hQ0 hP
      rw [he] at this
      exact this
    · rw [hT]; exact List.mem_append_left _ heQ
    · rw [hT, List.length_append]; omega
    · rw [hT, getD_l _ Q0 T k hk, he]
  have inner : ∀ a, a < S 0 0 → ∀ (K : zM → zO) (M1 : zM), zRi S L w M (zgo S L w e Q0 (zpo (S 0 0) a)) M1 → ∃ M2, F_X4_spread_L34 69 (nI e.1) (nI (zK (S 0 0) e.1)) (nI a) (nI (zfg e.1 a)) K zN (nI (a + 1)) M1 = K M2 ∧ zRi S L w M (zgo S L w e Q0 (zpo (S 0 0) (a + 1))) M2 := by
    intro a ha K M1 hI1
    refine zfor (i := a + 1) (f := zN) (a := M1) (S 0 0) (fun f b (M2 : zM) => F_X4_spread_L34 69 (nI e.1) (nI (zK (S 0 0) e.1)) (nI a) (nI (zfg e.1 a)) K f (nI b) M2) (fun b M2 => a < b ∧ zRi S L w M (zgo S L w e Q0 (zpo (S 0 0) a ++ zpi a b)) M2) (fun o => ∃ M2, o = K M2 ∧ zRi S L w M (zgo S L w e Q0 (zpo (S 0 0) (a + 1))) M2) ?_ ?_ (by omega) (zN_ge (by omega)) ⟨by omega, by rw [zpi_lo a (a + 1) (Nat.le_refl _), List.append_nil]; exact hI1⟩
    · rintro f b M2 hb ⟨hab, c1, c2, c3, c4⟩
      refine Or.inr ?_
      obtain ⟨g1, g2, g3, g4⟩ := id c1
      have hpa := hA.2.1 a ha
      have hpb := hA.2.1 b hb
      have hP : ∀ s ∈ zpo (S 0 0) a ++ zpi a b, s.1 < S 0 0 ∧ s.2 < S 0 0 := fun s hs => by
        rcases List.mem_append.mp hs with hs | hs
        · rw [zpo_eq] at hs
          obtain ⟨a', ha', hs⟩ := List.mem_flatMap.mp hs
          obtain ⟨b', hb', rfl⟩ := List.mem_map.mp hs
          have h1 := List.mem_range.mp ha'
          have h2 := List.mem_range.mp (List.mem_filter.mp hb').1
          exact ⟨show a' < S 0 0 from by omega, h2⟩
        · rw [zpi_eq] at hs
          obtain ⟨b', hb', rfl⟩ := List.mem_map.mp hs
          have h2 := List.mem_range.mp (List.mem_filter.mp hb').1
          exact ⟨ha, show b' < S 0 0 from by omega⟩
      obtain ⟨q1, q2, q3, q4⟩ := grow _ hP
      have eP : zgo S L w e Q0 (zpo (S 0 0) a ++ zpi a (b + 1)) = zgs S L w e (zgo S L w e Q0 (zpo (S 0 0) a ++ zpi a b)) (a, b) := by
        rw [← zgo_ap]
        congr 1
        show zpo (S 0 0) a ++ (zpi a b ++ (if a < b then [(a, b)] else [])) = _
        rw [if_pos hab, List.append_assoc]
      obtain ⟨Q, hQ⟩ : ∃ Q, zgo S L w e Q0 (zpo (S 0 0) a ++ zpi a b) = Q := ⟨_, rfl⟩
      rw [hQ] at q1 q2 q3 q4 c2 eP
      show ∃ M3, F_X4_spread_L34 69 (nI e.1) (nI (zK (S 0 0) e.1)) (nI a) (nI (zfg e.1 a)) K (f + 1) (nI b) M2 = F_X4_spread_L34 69 (nI e.1) (nI (zK (S 0 0) e.1)) (nI a) (nI (zfg e.1 a)) K f (nI (b + 1)) M3 ∧ a < b + 1 ∧ zRi S L w M (zgo S L w e Q0 (zpo (S 0 0) a ++ zpi a (b + 1))) M3
      rw [eP, F_X4_spread_L34, gr_69_0, gr_40_0, sx_n g1, zit_f (nI_ge hb (by omega))]
      unfold F_X4_figure
      rw [fig_e (by omega) (by omega), zbI_I, gr_69_1]
      obtain ⟨M3, e3, hc3, o3⟩ := al_x g1 ho hl g2 g3 g4 ha hb hpa hpb
      rw [e3, zbI_I, zjo_eq, nI_1]
      have o3' : zoff zRl M2 M3 := zoff_mono o3 (by decide)
      have hG3 : zGe S L w M3 := zGe_off c1 o3' hc3
      have hX3 : zXq (S 0 0) Q M3 := zXq_off c2 (o3 69 (by decide)) (o3 70 (by decide)) (o3 71 (by decide)) (o3 72 (by decide))
      cases hz : zmw S L w a b (zfg e.1 a) (zfg e.1 b) with
      | false =>
        have eg : zgs S L w e Q (a, b) = Q := by
          unfold zgs
          rw [hz, Bool.false_and, if_neg (by decide)]
        rw [if_neg (by decide), zit_t (by decide), eg]
        exact ⟨M3, rfl, by omega, hG3, hX3, fun z hz => by rw [o3 69 (by decide)]; exact c3 z hz, zoff_trans c4 o3'⟩
      | true =>
        have hcd := zAr_of (n := S 0 0) (by omega) (zar_sw hA.2 ha hb)
        have eg : zgs S L w e Q (a, b) = if Q.any (fun z => z.1 == zcd (zsw a b (zfg e.1)) (S 0 0)) = true then Q else Q ++ [(zcd (zsw a b (zfg e.1)) (S 0 0), e.2.1 + 1, if e.2.1 = 0 then nI (10 * a + b) else e.2.2)] := by
          unfold zgs
          rw [hz, Bool.true_and]
          cases Q.any (fun z => z.1 == zcd (zsw a b (zfg e.1)) (S 0 0)) <;> rfl
        obtain ⟨v1, v2⟩ := (hX3.2.2 e.1 hA).1 e q2 rfl
        have hfl := (q1.2.2 k q3).1
        rw [q4] at hfl
        rw [if_pos rfl, zit_f (by decide), zlt_eq, zin_k (k := zK (S 0 0) e.1) (n := 720) hkk (by omega), zck_t, zjo_eq, gr_69_4, gr_69_5, zix_k (k := zK (S 0 0) e.1) (by omega), v1, v2, eg]
        have fin : ∀ first : Int32, first = (if e.2.1 = 0 then nI (10 * a + b) else e.2.2) → ∃ M4, zbV (F_X4_reach 69 ((nI e.1 ^^^ ((nI (zfg e.1 a) ^^^ nI (zfg e.1 b)) <<< ((3 * nI a) &&& 31))) ^^^ ((nI (zfg e.1 a) ^^^ nI (zfg e.1 b)) <<< ((3 * nI b) &&& 31))) (nI e.2.1 + 1) first M3) (fun M6 => F_X4_spread_L34 69 (nI e.1) (nI (zK (S 0 0) e.1)) (nI a) (nI (zfg e.1 a)) K f (nI (b + 1)) M6) = F_X4_spread_L34 69 (nI e.1) (nI (zK (S 0 0) e.1)) (nI a) (nI (zfg e.1 a)) K f (nI (b + 1)) M4 ∧ a < b + 1 ∧ zRi S L w M (if Q.any (fun z => z.1 == zcd (zsw a b (zfg e.1)) (S 0 0)) = true then Q else Q ++ [(zcd (zsw a b (zfg e.1)) (S 0 0), e.2.1 + 1, if e.2.1 = 0 then nI (10 * a + b) else e.2.2)]) M4 := fun first hfirst => by
          rw [sw_code (by omega) hcl ha hb (by omega), nI_1]
          obtain ⟨M4, e4, hX4, f4, o4⟩ := rc_x hG3.1 hn q1 hX3 (c := zcd (zsw a b (zfg e.1)) (S 0 0)) (far := e.2.1 + 1) (first := first) hcd (by omega) (fun _ => by omega)
          rw [e4, zbV_V]
          rw [hfirst] at hX4
          have o4' : zoff zRl M3 M4 := zoff_mono o4 (by decide)
          exact ⟨M4, rfl, by omega, zGe_off hG3 o4' (by rw [o4 68 (by decide)]; exact hc3), hX4, fun z hz => by rw [f4 z hz, o3 69 (by decide)]; exact c3 z hz, zoff_trans c4 (zoff_trans o3' o4')⟩
        by_cases h0 : e.2.1 = 0
        · rw [zit_t (by rw [h0]; rfl)]
          dsimp only
          rw [zck_t, v1, show (10 : Int32) = nI 10 from rfl, pk_mul, nI_add]
          exact fin _ (by rw [if_pos h0])
        · rw [zit_f (nI_ne0 (by omega) (by omega)), zck_t]
          dsimp only
          rw [zck_t, v1]
          exact fin _ (by rw [if_neg h0])
    · rintro f M2 ⟨-, hI2⟩
      show ∃ M3, F_X4_spread_L34 69 _ _ _ _ K (f + 1) _ M2 = _ ∧ _
      rw [F_X4_spread_L34, gr_69_0, gr_40_0, sx_n hI2.1.1, zit_t (nI_le (Nat.le_refl _) (by omega))]
      exact ⟨M2, rfl, hI2⟩
  refine zfor (i := 0) (f := zN) (a := M) (S 0 0) (fun f a (M1 : zM) => F_X4_spread_L8 69 (nI e.1) (nI (zK (S 0 0) e.1)) (fun (M9 : zM) => zV M9) f (nI a) M1) (fun a M1 => zRi S L w M (zgo S L w e Q0 (zpo (S 0 0) a)) M1) (fun o => ∃ M', o = zV M' ∧ zRi S L w M (zgo S L w e Q0 (zpr (S 0 0))) M') ?_ ?_ (by omega) (zN_ge (by omega)) ⟨hG, hX, fun _ _ => rfl, zoff_rfl⟩
  · rintro f a M1 ha hI1
    refine Or.inr ?_
    obtain ⟨M2, e2, hI2⟩ := inner a ha (fun (M8 : zM) => F_X4_spread_L8 69 (nI e.1) (nI (zK (S 0 0) e.1)) (fun (M9 : zM) => zV M9) f (nI (a + 1)) M8) M1 hI1
    refine ⟨M2, ?_, hI2⟩
    show F_X4_spread_L8 69 (nI e.1) (nI (zK (S 0 0) e.1)) _ (f + 1) (nI a) M1 = _
    rw [F_X4_spread_L8, gr_69_0, gr_40_0, sx_n hI1.1.1, zit_f (nI_ge ha (by omega))]
    unfold F_X4_figure
    rw [fig_e (by omega) (by omega), zbI_I, zlt_eq, nI_1]
    exact e2
  · rintro f M1 hI1
    show ∃ M', F_X4_spread_L8 69 _ _ _ (f + 1) _ M1 = _ ∧ _
    rw [F_X4_spread_L8, gr_69_0, gr_40_0, sx_n hI1.1.1, zit_t (nI_le (Nat.le_refl _) (by omega))]
    refine ⟨M1, rfl, ?_⟩
    rw [← zpr_eq] at hI1
    exact hI1
end ZRT
