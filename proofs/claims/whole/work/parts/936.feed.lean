/-! feed -/
theorem bv255 : ∀ i, i < 8 → (255#32).getLsbD i = true := by decide
theorem bv_by (x : BitVec 32) (s : Nat) (hs : s ≤ 24) : (x.ushiftRight s).signExtend 8 = (x.sshiftRight s &&& 255#32).signExtend 8 := by
  apply BitVec.eq_of_getLsbD_eq
  intro i hi
  rw [BitVec.getLsbD_signExtend, BitVec.getLsbD_signExtend, if_pos (by omega), if_pos (by omega), BitVec.getLsbD_and, bv255 i hi, Bool.and_true]
  congr 1
  rw [show x.ushiftRight s = x >>> s from rfl, BitVec.getLsbD_ushiftRight, BitVec.getLsbD_sshiftRight]
  simp only [show ¬ 32 ≤ i from by omega, decide_false, Bool.not_false, Bool.true_and]
  rw [if_pos (by omega)]
/-- the byte at a shift -/
def zb8 (a s : Int32) : Nat := ((a >>> (s &&& 31)) &&& 255).toNatClampNeg
theorem zb8_eq (a s : Int32) : zb8 a s < 256 ∧ (a >>> (s &&& 31)) &&& 255 = nI (zb8 a s) := by
  obtain ⟨j, hj, e⟩ := pk_andE (a >>> (s &&& 31)) (m := 255) 8 (by decide)
  unfold zb8
  rw [e, nI_clamp (by omega)]
  exact ⟨by omega, rfl⟩
theorem zb8_x (a s : Int32) (hs : s = 24 ∨ s = 16 ∨ s = 8 ∨ s = 0) : (((a.toUInt32 >>> (s.toUInt32 &&& Int32.toUInt32 31)).toInt32).toInt8.toInt32).toInt8.toInt32 = (nI (zb8 a s)).toInt8.toInt32 := by
  rw [Int8.toInt8_toInt32, ← (zb8_eq a s).2]
  congr 1
  apply Int8.toBitVec_inj.1
  rcases hs with rfl | rfl | rfl | rfl
  · exact bv_by a.toBitVec 24 (by decide)
  · exact bv_by a.toBitVec 16 (by decide)
  · exact bv_by a.toBitVec 8 (by decide)
  · exact bv_by a.toBitVec 0 (by decide)
def zTx (T : List Nat) (M : zM) : Prop := M 1 1 = nI T.length ∧ ∀ i, i < T.length → M 2 i = (nI (T.getD i 0)).toInt8.toInt32
def zTm (T : List Nat) (M : zM) : Prop := M 79 15 = nI T.length ∧ ∀ i, i < T.length → M 89 i = nI (T.getD i 0)
theorem ln1 (T : List Nat) (b : Nat) : (T ++ [b]).length = T.length + 1 := by rw [List.length_append]; rfl
theorem pu_x {K : zM → zO} {n : Nat} {a s : Int32} {T : List Nat} {M : zM} (hs : s = 24 ∨ s = 16 ∨ s = 8 ∨ s = 0) (hT : zTx T M) (hl : T.length < 700) : ∃ M', F_X8_put_L3 1 a K (n + 1) s M = F_X8_put_L3 1 a K n (s + -8) M' ∧ (zTx (T ++ [zb8 a s]) M' ∧ (∀ k, k ≠ 1 → M' 1 k = M 1 k) ∧ zoff [1, 2] M M') := by
  obtain ⟨h1, h2⟩ := hT
  rw [F_X8_put_L3, zit_f (by rcases hs with rfl | rfl | rfl | rfl <;> decide), h1, show (700 : Int32) = nI 700 from rfl, zit_f (nI_ge hl (by omega)), zin_k hl (by omega), zck_t, zst_eq, zst_eq, gr_1_0, zix_k (k := T.length) (by omega), zb8_x a s hs, zup_ne (by omega), h1, nI_1]
  refine ⟨_, rfl, ⟨?_, fun i hi => ?_⟩, fun k hk => ?_, fun z hz => ?_⟩
  · rw [zup_row, upd_eq, ln1]
  · rw [ln1] at hi
    rw [zup_ne (by omega), zup_row, getD_ap _ _ _ i hi]
    by_cases e : i = T.length
    · rw [e, upd_eq, if_pos rfl]
    · rw [upd_ne e, if_neg e, h2 i (by omega)]
  · rw [zup_row, upd_ne hk, zup_ne (by omega)]
  · simp only [List.mem_cons, List.mem_nil_iff, or_false, not_or] at hz
    rw [zup_ne hz.1, zup_ne hz.2]
theorem pu_m {K : zM → zO} {n : Nat} {a s : Int32} {T : List Nat} {M : zM} (hs : s = 24 ∨ s = 16 ∨ s = 8 ∨ s = 0) (hT : zTm T M) (hl : T.length < 700) : ∃ M', F_X12_lays_L3 79 a K (n + 1) s M = F_X12_lays_L3 79 a K n (s + -8) M' ∧ (zTm (T ++ [zb8 a s]) M' ∧ (∀ k, k ≠ 15 → M' 79 k = M 79 k) ∧ zoff [79, 89] M M') := by
  obtain ⟨h1, h2⟩ := hT
  rw [F_X12_lays_L3, zit_f (by rcases hs with rfl | rfl | rfl | rfl <;> decide), h1, zin_k hl (by omega), zck_t, zst_eq, zst_eq, gr_79_14, zix_k (k := T.length) (by omega), (zb8_eq a s).2, zup_ne (by omega), h1, nI_1]
  refine ⟨_, rfl, ⟨?_, fun i hi => ?_⟩, fun k hk => ?_, fun z hz => ?_⟩
  · rw [zup_row, upd_eq, ln1]
  · rw [ln1] at hi
    rw [zup_ne (by omega), zup_row, getD_ap _ _ _ i hi]
    by_cases e : i = T.length
    · rw [e, upd_eq, if_pos rfl]
    · rw [upd_ne e, if_neg e, h2 i (by omega)]
  · rw [zup_row, upd_ne hk, zup_ne (by omega)]
  · simp only [List.mem_cons, List.mem_nil_iff, or_false, not_or] at hz
    rw [zup_ne hz.1, zup_ne hz.2]
def zfd (T : List Nat) (a : Int32) : List Nat := T ++ [zb8 a 24] ++ [zb8 a 16] ++ [zb8 a 8] ++ [zb8 a 0]
theorem zfd_len (T : List Nat) (a : Int32) : (zfd T a).length = T.length + 4 := by
  unfold zfd
  rw [ln1, ln1, ln1, ln1]
theorem zfd_by {T : List Nat} {a : Int32} (h : ∀ b ∈ T, b < 256) : ∀ b ∈ zfd T a, b < 256 := by
  intro b hb
  unfold zfd at hb
  simp only [List.mem_append, List.mem_singleton] at hb
  rcases hb with (((hb | rfl) | rfl) | rfl) | rfl
  · exact h b hb
  all_goals exact (zb8_eq a _).1
theorem sh1 : (24 : Int32) + -8 = 16 := by decide
theorem sh2 : (16 : Int32) + -8 = 8 := by decide
theorem sh3 : (8 : Int32) + -8 = 0 := by decide
theorem zN5 : zN = 999995 + 1 + 1 + 1 + 1 + 1 := rfl
theorem pt_x {a : Int32} {T : List Nat} {M : zM} (hT : zTx T M) (hl : T.length + 4 ≤ 700) : ∃ M', F_X8_put 1 a M = zV M' ∧ (zTx (zfd T a) M' ∧ (∀ k, k ≠ 1 → M' 1 k = M 1 k) ∧ zoff [1, 2] M M') := by
  unfold F_X8_put
  rw [zN5]
  obtain ⟨M1, e1, h1, g1, o1⟩ := pu_x (K := fun (M3 : zM) => zV M3) (n := 999995 + 1 + 1 + 1 + 1) (a := a) (s := 24) (Or.inl rfl) hT (by omega)
  obtain ⟨M2, e2, h2, g2, o2⟩ := pu_x (K := fun (M3 : zM) => zV M3) (n := 999995 + 1 + 1 + 1) (a := a) (s := 16) (Or.inr (Or.inl rfl)) h1 (by rw [ln1]; omega)
  obtain ⟨M3, e3, h3, g3, o3⟩ := pu_x (K := fun (M3 : zM) => zV M3) (n := 999995 + 1 + 1) (a := a) (s := 8) (Or.inr (Or.inr (Or.inl rfl))) h2 (by rw [ln1, ln1]; omega)
  obtain ⟨M4, e4, h4, g4, o4⟩ := pu_x (K := fun (M3 : zM) => zV M3) (n := 999995 + 1) (a := a) (s := 0) (Or.inr (Or.inr (Or.inr rfl))) h3 (by rw [ln1, ln1, ln1]; omega)
  rw [e1, sh1, e2, sh2, e3, sh3, e4, F_X8_put_L3, zit_t (by decide)]
  exact ⟨M4, rfl, h4, fun k hk => by rw [g4 k hk, g3 k hk, g2 k hk, g1 k hk], zoff_trans o1 (zoff_trans o2 (zoff_trans o3 o4))⟩
theorem pt_m {a : Int32} {T : List Nat} {M : zM} (hT : zTm T M) (hl : T.length + 4 ≤ 700) : ∃ M', F_X12_lays 79 a M = zV M' ∧ (zTm (zfd T a) M' ∧ (∀ k, k ≠ 15 → M' 79 k = M 79 k) ∧ zoff [79, 89] M M') := by
  unfold F_X12_lays
  rw [zN5]
  obtain ⟨M1, e1, h1, g1, o1⟩ := pu_m (K := fun (M3 : zM) => zV M3) (n := 999995 + 1 + 1 + 1 + 1) (a := a) (s := 24) (Or.inl rfl) hT (by omega)
  obtain ⟨M2, e2, h2, g2, o2⟩ := pu_m (K := fun (M3 : zM) => zV M3) (n := 999995 + 1 + 1 + 1) (a := a) (s := 16) (Or.inr (Or.inl rfl)) h1 (by rw [ln1]; omega)
  obtain ⟨M3, e3, h3, g3, o3⟩ := pu_m (K := fun (M3 : zM) => zV M3) (n := 999995 + 1 + 1) (a := a) (s := 8) (Or.inr (Or.inr (Or.inl rfl))) h2 (by rw [ln1, ln1]; omega)
  obtain ⟨M4, e4, h4, g4, o4⟩ := pu_m (K := fun (M3 : zM) => zV M3) (n := 999995 + 1) (a := a) (s := 0) (Or.inr (Or.inr (Or.inr rfl))) h3 (by rw [ln1, ln1, ln1]; omega)
  rw [e1, sh1, e2, sh2, e3, sh3, e4, F_X12_lays_L3, zit_t (by decide)]
  exact ⟨M4, rfl, h4, fun k hk => by rw [g4 k hk, g3 k hk, g2 k hk, g1 k hk], zoff_trans o1 (zoff_trans o2 (zoff_trans o3 o4))⟩
def zqT (q : zSt) (T : List Nat) : zSt := (tS q, tL q, tW q, tA q, tV q, tG q, T, tF q, tR q, tC q)
theorem zQx_tape {q : zSt} {M M' : zM} {T : List Nat} (h : zQx q M) (hT : zTx T M') (h7 : M' 1 8 = M 1 8) (hl : T.length ≤ 700) (hb : ∀ b ∈ T, b < 256) (e : ∀ i, i < 79 → i ≠ 1 → i ≠ 2 → M' i = M i) : zQx (zqT q T) M' := by
  have h1 : zQx q (zupA (zupA M' 1 (M 1)) 2 (M 2)) := zQx_off h (fun z h1 _ => by
    by_cases hz : z = 2
    · rw [hz, zupA_eq]
    · rw [zupA_ne hz]
      by_cases hz1 : z = 1
      · rw [hz1, zupA_eq]
      · rw [zupA_ne hz1, e z h1 hz1 hz])
  obtain ⟨ho, hS, hI, -, hF, hR, hC⟩ := h1
  unfold zSx zLx zHx zWx at hS
  unfold zHx zWx at hI
  unfold zmade at hC
  simp (disch := omega) only [zupA_ne, zupA_eq] at hS hI hF hR hC
  exact ⟨⟨ho.1, ho.2.1, ho.2.2.1, ho.2.2.2.1, hl, hb, ho.2.2.2.2.2.2⟩, hS, hI, hT, by rw [h7]; exact hF, hR, hC⟩
theorem zQm_tape {q : zSt} {M M' : zM} {T : List Nat} (h : zQm q M) (hT : zTm T M') (hl : T.length ≤ 700) (hb : ∀ b ∈ T, b < 256) (e79 : ∀ k, k ≠ 15 → M' 79 k = M 79 k) (e : ∀ i, 80 ≤ i → i < 124 → i ≠ 89 → M' i = M i) : zQm (zqT q T) M' := by
  have h1 : zQm q (zupA (zupA M' 79 (M 79)) 89 (M 89)) := zQm_off h (fun z h1 h2 _ => by
    by_cases hz : z = 89
    · rw [hz, zupA_eq]
    · rw [zupA_ne hz, zupA_ne (by omega), e z h1 h2 hz]) (fun k _ => by rw [zupA_ne (by omega), zupA_eq])
  obtain ⟨ho, hS, hI, -, hF, hR, hC⟩ := h1
  unfold zSm zLm at hS
  simp (disch := omega) only [zupA_ne, zupA_eq] at hS hI hF hR hC
  rw [← e79 17 (by omega)] at hF
  rw [← e79 73 (by omega), ← e79 74 (by omega), ← e79 75 (by omega)] at hI
  rw [← e79 60 (by omega)] at hC
  rw [← e79 1 (by omega), ← e79 2 (by omega), ← e79 3 (by omega), ← e79 4 (by omega), ← e79 50 (by omega), ← e79 64 (by omega)] at hS
  exact ⟨⟨ho.1, ho.2.1, ho.2.2.1, ho.2.2.2.1, hl, hb, ho.2.2.2.2.2.2⟩, hS, hI, hT, hF, hR, hC⟩
theorem op_feed (q : zSt) (ho : zok q) (a b c d e : Int32) : zOp 0 (F_X11_feed 0 a b c d e) (F_X12_feed 79 a b c d e) zNSE zIAE q := by
  have hY : ∀ M, F_X12_feed 79 a b c d e M = F_X12_feed 79 a b c d e (zup M 79 0 0) := fun M => by unfold F_X12_feed; rw [zup_idem]
  have hl0 := ho.2.2.2.2.1
  have hb0 := ho.2.2.2.2.2.1
  by_cases hl : (tT q).length + 20 ≤ 700
  · have hlen : (zfd (zfd (zfd (zfd (zfd (tT q) a) b) c) d) e).length = (tT q).length + 20 := by
      rw [zfd_len, zfd_len, zfd_len, zfd_len, zfd_len]
    have hby : ∀ z ∈ zfd (zfd (zfd (zfd (zfd (tT q) a) b) c) d) e, z < 256 := zfd_by (zfd_by (zfd_by (zfd_by (zfd_by hb0))))
    refine zop_self hY ⟨zqT q (zfd (zfd (zfd (zfd (zfd (tT q) a) b) c) d) e), nI ((tT q).length + 20), Nat.le_succ _, fun M h => ?_, fun M h h0 => ?_⟩
    · have hT : zTx (tT q) M := h.2.2.2.1
      obtain ⟨M1, e1, h1, g1, o1⟩ := pt_x (a := a) hT (by omega)
      obtain ⟨M2, e2, h2, g2, o2⟩ := pt_x (a := b) h1 (by rw [zfd_len]; omega)
      obtain ⟨M3, e3, h3, g3, o3⟩ := pt_x (a := c) h2 (by rw [zfd_len, zfd_len]; omega)
      obtain ⟨M4, e4, h4, g4, o4⟩ := pt_x (a := d) h3 (by rw [zfd_len, zfd_len, zfd_len]; omega)
      obtain ⟨M5, e5, h5, g5, o5⟩ := pt_x (a := e) h4 (by rw [zfd_len, zfd_len, zfd_len, zfd_len]; omega)
      unfold F_X11_feed F_X8_hasRoom
      rw [gr_0_0, hT.1, show (20 : Int32) = nI 20 from rfl, nI_add, zjo_eq, show (700 : Int32) = nI 700 from rfl, zit_f (nI_nlt hl (by omega))]
      dsimp only
      rw [zbo_1, zck_t, zbI_I, zit_f (by decide), e1, zbV_V, e2, zbV_V, e3, zbV_V, e4, zbV_V, e5, zbV_V]
      have oo : zoff [1, 2] M M5 := zoff_trans o1 (zoff_trans o2 (zoff_trans o3 (zoff_trans o4 o5)))
      refine ⟨M5, by rw [h5.1, hlen], zQx_tape h h5 (by rw [g5 8 (by omega), g4 8 (by omega), g3 8 (by omega), g2 8 (by omega), g1 8 (by omega)]) (by rw [hlen]; exact hl) hby (fun i _ hi1 hi2 => oo i (by simp [hi1, hi2])), fun i hi => oo i (by simp only [List.mem_cons, List.mem_nil_iff, or_false]; omega)⟩
    · have hT : zTm (tT q) M := h.2.2.2.1
      obtain ⟨M1, e1, h1, g1, o1⟩ := pt_m (a := a) hT (by omega)
      obtain ⟨M2, e2, h2, g2, o2⟩ := pt_m (a := b) h1 (by rw [zfd_len]; omega)
      obtain ⟨M3, e3, h3, g3, o3⟩ := pt_m (a := c) h2 (by rw [zfd_len, zfd_len]; omega)
      obtain ⟨M4, e4, h4, g4, o4⟩ := pt_m (a := d) h3 (by rw [zfd_len, zfd_len, zfd_len]; omega)
      obtain ⟨M5, e5, h5, g5, o5⟩ := pt_m (a := e) h4 (by rw [zfd_len, zfd_len, zfd_len, zfd_len]; omega)
      unfold F_X12_feed
      rw [zst_eq, zup_same h0, hT.1, show (20 : Int32) = nI 20 from rfl, nI_add, show (700 : Int32) = nI 700 from rfl, zit_t (nI_le hl (by omega)), e1, zbV_V, e2, zbV_V, e3, zbV_V, e4, zbV_V, e5, zbV_V]
      have oo : zoff [79, 89] M M5 := zoff_trans o1 (zoff_trans o2 (zoff_trans o3 (zoff_trans o4 o5)))
      have gg : ∀ k, k ≠ 15 → M5 79 k = M 79 k := fun k hk => by rw [g5 k hk, g4 k hk, g3 k hk, g2 k hk, g1 k hk]
      exact ⟨M5, by rw [h5.1, hlen], by rw [gg 0 (by omega), h0], zQm_tape h h5 (by rw [hlen]; exact hl) hby gg (fun i h1 h2 hi => oo i (by simp only [List.mem_cons, List.mem_nil_iff, or_false]; omega)), fun i hi => oo i (by simp only [List.mem_cons, List.mem_nil_iff, or_false]; omega)⟩
  · refine zop_self hY (zop0_ret (r := -1) (fun M h => ⟨M, ?_, zoff_rfl⟩) (fun M h h0 => ⟨M, ?_, zoff_rfl⟩))
    · have hT : zTx (tT q) M := h.2.2.2.1
      unfold F_X11_feed F_X8_hasRoom
      rw [gr_0_0, hT.1, show (20 : Int32) = nI 20 from rfl, nI_add, zjo_eq, show (700 : Int32) = nI 700 from rfl, zit_t (nI_lt (by omega) (by omega))]
      dsimp only
      rw [zbo_0, zck_t, zbI_I, zit_t rfl]
    · have hT : zTm (tT q) M := h.2.2.2.1
      unfold F_X12_feed
      rw [zst_eq, zup_same h0, hT.1, show (20 : Int32) = nI 20 from rfl, nI_add, show (700 : Int32) = nI 700 from rfl, zit_f (nI_ge (by omega) (by omega))]
