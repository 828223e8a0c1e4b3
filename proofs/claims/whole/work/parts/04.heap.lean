/-! fields, arrays, ends, calls -/
theorem zce_obj {G : zG} {row : Nat → Int32} {i c : Nat} (h : zsh i = c) (hc : c < 13) : zce G row i = .inr (c, (List.range (znf c)).map (zfv G.2.1 row i c)) := by
  unfold zce
  rw [h, if_pos hc]
theorem zce_arr {G : zG} {row : Nat → Int32} {i c : Nat} (h : zsh i = c) (hc : ¬ c < 13) (h23 : c ≠ 23) : zce G row i = .inl (G.2.2.1 c, (zal i, .inl row)) := by
  unfold zce
  rw [h, if_neg hc, if_neg h23]
theorem zce_lng {G : zG} {row : Nat → Int32} {i : Nat} (h : zsh i = 23) : zce G row i = .inl (G.2.2.1 23, (zal i, .inr (.inl (fun j => zmk (row (2 * j)) (row (2 * j + 1)))))) := by
  unfold zce
  rw [h, if_neg (by decide), if_pos rfl]
theorem zws_obj {G : zG} {M : zM} {i c : Nat} (h : zsh i = c) (hc : c < 13) : (zws G M)[i]? = some (G.2.1 + i, .inr (c, (List.range (znf c)).map (zfv G.2.1 (M i) i c))) := by
  rw [zws_get (zsh_lt h (by omega)), zce_obj h hc]
theorem zws_arr {G : zG} {M : zM} {i c : Nat} (h : zsh i = c) (hc : ¬ c < 13) (h23 : c ≠ 23) (h99 : c ≠ 99) : (zws G M)[i]? = some (G.2.1 + i, .inl (G.2.2.1 c, (zal i, .inl (M i)))) := by
  rw [zws_get (zsh_lt h h99), zce_arr h hc h23]
theorem zws_lng {G : zG} {M : zM} {i : Nat} (h : zsh i = 23) : (zws G M)[i]? = some (G.2.1 + i, .inl (G.2.2.1 23, (zal i, .inr (.inl (fun j => zmk (M i (2 * j)) (M i (2 * j + 1))))))) := by
  rw [zws_get (zsh_lt h (by decide)), zce_lng h]
/-- a field's row: the class's number, the field's place, its link, its type -/
def zFd (own : String) (idx ci k : Nat) (ty : FieldType) : Prop :=
  ∃ (C : String) (T : u_T) (N : Nat) (ty0 : Nat → FieldType), vwCl[ci]? = some (C, T, N) ∧ (∀ w ∈ u_ws C T N, w ∈ zT) ∧ k < N ∧ Cond.fieldLink own idx (T k).1 (T k).2.1 (T k).2.2.1 ∈ zT ∧
    (∀ k, k < N → parseFieldDescriptor (T k).2.2.1 = some (ty0 k)) ∧ (∀ a, a < N → ∀ b, b < N → a ≠ b → (T a).2.1 ≠ (T b).2.1) ∧ parseFieldDescriptor (T k).2.2.1 = some ty ∧ ci < 13 ∧ znf ci = N ∧ N < 1000
def zFw (own : String) (idx ci k : Nat) (ty : FieldType) : Prop := zFd own idx ci k ty ∧ (∀ q : vw_C, vwCl[ci]? = some q → (q.2.1 k).2.2.2 = false)
section ZH
variable {l : Launch} {G : zG} {Y : zY} {d u pc : Nat} {lv : List (Nat × Value)} {st : List Value} {M : zM} {X : zO}
theorem ev_get {idx ci k o : Nat} {ty : FieldType} (hf : zFd Y.1.cls idx ci k ty) (hd : decode Y.2.1 pc = .ok (.getfield idx, 3)) (hs : zsh o = ci) (kk : zEv l G Y d u (pc + 3) lv (zfv G.2.1 (M o) o ci k :: st) M X) : zEv l G Y d u pc lv (.ref (G.2.1 + o) :: st) M X := by
  intro r M' hX p e s m args below meth c H locs ls C hP hS hl
  obtain ⟨Cn, T, N, ty0, h1, h2, h3, h4, -, -, -, h8, h9, -⟩ := hf
  exact va_get (D := G.1) (ci := ci) (C := Cn) (T := T) (N := N) C.1 C.2.1 C.2.2.2.2.2.1 h2 C.2.2.2.2.1 C.2.2.2.2.2.2.2.1 hP o (zws_obj hs h8) h1 k h3 (C.2.2.2.2.2.1 _ h4) (fun _ h => h) (zr_get (by rw [h9]; exact h3)) hd (kk r M' hX p e s m args below meth c H locs ls C hP hS hl)
theorem ev_getI {idx ci k o : Nat} {ty : FieldType} (hf : zFd Y.1.cls idx ci k ty) (hd : decode Y.2.1 pc = .ok (.getfield idx, 3)) (hs : zsh o = ci) (h0 : zfk ci k = 0) (kk : zEv l G Y d u (pc + 3) lv (.int (M o k) :: st) M X) : zEv l G Y d u pc lv (.ref (G.2.1 + o) :: st) M X := by
  refine ev_get hf hd hs ?_
  unfold zfv
  rw [if_pos h0]
  exact kk
theorem ev_getR {idx ci k o : Nat} {ty : FieldType} (hf : zFd Y.1.cls idx ci k ty) (hd : decode Y.2.1 pc = .ok (.getfield idx, 3)) (hs : zsh o = ci) (h0 : zfk ci k = 1) (kk : zEv l G Y d u (pc + 3) lv (.ref (G.2.1 + zgr o k) :: st) M X) : zEv l G Y d u pc lv (.ref (G.2.1 + o) :: st) M X := by
  refine ev_get hf hd hs ?_
  unfold zfv
  rw [if_neg (by rw [h0]; decide), if_pos h0]
  exact kk
theorem ev_getL {idx ci k o : Nat} {ty : FieldType} (hf : zFd Y.1.cls idx ci k ty) (hd : decode Y.2.1 pc = .ok (.getfield idx, 3)) (hs : zsh o = ci) (h0 : zfk ci k = 2) (kk : zEv l G Y d u (pc + 3) lv (.long (zgL M o k) :: st) M X) : zEv l G Y d u pc lv (.ref (G.2.1 + o) :: st) M X := by
  refine ev_get hf hd hs ?_
  unfold zfv
  rw [if_neg (by rw [h0]; decide), if_neg (by rw [h0]; decide)]
  exact kk
theorem zput_int {G : zG} {M : zM} {o ci k : Nat} {v : Int32} (hs : zsh o = ci) (hc : ci < 13) (h0 : zfk ci k = 0) (hk : k < 1000) :
    (zws G M).set o (G.2.1 + o, .inr (ci, ((List.range (znf ci)).map (zfv G.2.1 (M o) o ci)).set k (.int v))) = zws G (zup M o k v) := by
  refine zws_set ?_ (fun j hj => zup_ne hj)
  rw [zce_obj hs hc, zup_row]
  congr 2
  symm
  refine zr_set ?_ (fun j hj => ?_)
  · unfold zfv
    rw [if_pos h0, pk_us]
  · unfold zfv
    rw [pk_un hj]
    by_cases h1 : zfk ci j = 2
    · have h5 : j + 1000 ≠ k := by omega
      rw [pk_un h5]
    · by_cases h2 : zfk ci j = 0
      · rw [if_pos h2, if_pos h2]
      · by_cases h3 : zfk ci j = 1
        · rw [if_neg h2, if_pos h3, if_neg h2, if_pos h3]
        · have h5 : j + 1000 ≠ k := by omega
          rw [pk_un h5]
theorem zput_lng {G : zG} {M : zM} {o ci k : Nat} {v : Int64} (hs : zsh o = ci) (hc : ci < 13) (h0 : zfk ci k = 2) (hk : k < 1000) (hn : znf ci < 1000) :
    (zws G M).set o (G.2.1 + o, .inr (ci, ((List.range (znf ci)).map (zfv G.2.1 (M o) o ci)).set k (.long v))) = zws G (zupL M o k v) := by
  refine zws_set ?_ (fun j hj => by unfold zupL; rw [zup_ne hj, zup_ne hj])
  have e : zupL M o k v o = upd (upd (M o) k (zhi v)) (k + 1000) (zlo v) := by
    unfold zupL
    rw [zup_row, zup_row]
  rw [zce_obj hs hc, e]
  congr 2
  apply List.ext_getElem?
  intro j
  rw [List.getElem?_set]
  rcases Nat.lt_or_ge j (znf ci) with hl | hl
  · rw [zr_get hl]
    by_cases hj : k = j
    · subst hj
      rw [if_pos rfl, List.length_map, List.length_range, if_pos hl]
      unfold zfv
      rw [if_neg (by rw [h0]; decide), if_neg (by rw [h0]; decide), pk_un (by omega), pk_us, pk_us, zmk_eq]
    · rw [if_neg hj, zr_get hl]
      unfold zfv
      rw [pk_un (show j ≠ k + 1000 by omega), pk_un (fun h => hj h.symm), pk_un (show j + 1000 ≠ k + 1000 by omega), pk_un (show j + 1000 ≠ k by omega)]
  · have h1 : ¬ (k = j ∧ k < znf ci) := fun h => by omega
    rw [List.getElem?_eq_none (by rw [List.length_map, List.length_range]; exact hl)]
    by_cases hj : k = j
    · rw [if_pos hj, if_neg (by rw [List.length_map, List.length_range]; omega)]
    · rw [if_neg hj, List.getElem?_eq_none (by rw [List.length_map, List.length_range]; exact hl)]
theorem ev_put0 {idx ci k o : Nat} {ty : FieldType} {v : Value} {M2 : zM} (hf : zFw Y.1.cls idx ci k ty) (hd : decode Y.2.1 pc = .ok (.putfield idx, 3)) (hs : zsh o = ci) (hn : narrow ty v = v) (hfit : fits ty v = true)
    (hset : (zws G M).set o (G.2.1 + o, .inr (ci, ((List.range (znf ci)).map (zfv G.2.1 (M o) o ci)).set k v)) = zws G M2) (kk : zEv l G Y d u (pc + 3) lv st M2 X) : zEv l G Y d u pc lv (v :: .ref (G.2.1 + o) :: st) M X := by
  intro r M' hX p e s m args below meth c H locs ls C hP hS hl
  obtain ⟨⟨Cn, T, N, ty0, h1, h2, h3, h4, h5, h6, h7, h8, h9, -⟩, hfin⟩ := hf
  refine va_put (D := G.1) (ci := ci) (C := Cn) (T := T) (N := N) (ty := ty) C.1 C.2.1 C.2.2.2.2.2.1 h2 ty0 h5 h6 C.2.2.2.2.1 C.2.2.2.2.2.2.2.1 hP (zws_D G M) hS o (zws_obj hs h8) h1 k h3 (C.2.2.2.2.2.1 _ h4) (fun _ h => h) (hfin _ h1) h7 hn hfit (by rw [List.length_map, List.length_range, h9]; exact h3) hd (fun H1 locs1 hP1 hD1 hS1 => ?_)
  rw [hset] at hP1
  exact kk r M' hX p e s m args below meth c H1 locs1 ls C hP1 hS1 hl
theorem ev_putI {idx ci k o : Nat} {v : Int32} (hf : zFw Y.1.cls idx ci k .int) (hd : decode Y.2.1 pc = .ok (.putfield idx, 3)) (hs : zsh o = ci) (h0 : zfk ci k = 0) (kk : zEv l G Y d u (pc + 3) lv st (zup M o k v) X) : zEv l G Y d u pc lv (.int v :: .ref (G.2.1 + o) :: st) M X := by
  have h8 : ci < 13 := by obtain ⟨⟨_, _, _, _, _, _, _, _, _, _, _, h, _⟩, _⟩ := hf; exact h
  have h9 : k < 1000 := by obtain ⟨⟨_, _, N, _, _, _, h3, _, _, _, _, _, h5, h6⟩, _⟩ := hf; omega
  exact ev_put0 hf hd hs rfl rfl (zput_int hs h8 h0 h9) kk
def zbo (v : Int32) : Bool := decide (v = 0 ∨ v = 1)
theorem zbo_nar {v : Int32} (h : zbo v = true) : narrow .boolean (.int v) = .int v ∧ fits .boolean (.int v) = true ∧ vp_nar .boolean v = v := by
  rcases of_decide_eq_true h with h | h <;> subst h <;> decide
theorem ev_putZ {idx ci k o : Nat} {v : Int32} (hf : zFw Y.1.cls idx ci k .boolean) (hd : decode Y.2.1 pc = .ok (.putfield idx, 3)) (hs : zsh o = ci) (h0 : zfk ci k = 0) (kk : zEv l G Y d u (pc + 3) lv st (zup M o k v) X) : zEv l G Y d u pc lv (.int v :: .ref (G.2.1 + o) :: st) M (zck (zbo v) X) := by
  have h8 : ci < 13 := by obtain ⟨⟨_, _, _, _, _, _, _, _, _, _, _, h, _⟩, _⟩ := hf; exact h
  have h9 : k < 1000 := by obtain ⟨⟨_, _, N, _, _, _, h3, _, _, _, _, _, h5, h6⟩, _⟩ := hf; omega
  exact ev_ck (fun hb => ev_put0 hf hd hs (zbo_nar hb).1 (zbo_nar hb).2.1 (zput_int hs h8 h0 h9) kk)
theorem ev_putL {idx ci k o : Nat} {v : Int64} (hf : zFw Y.1.cls idx ci k .long) (hd : decode Y.2.1 pc = .ok (.putfield idx, 3)) (hs : zsh o = ci) (h0 : zfk ci k = 2) (kk : zEv l G Y d u (pc + 3) lv st (zupL M o k v) X) : zEv l G Y d u pc lv (.long v :: .ref (G.2.1 + o) :: st) M X := by
  have h8 : ci < 13 := by obtain ⟨⟨_, _, _, _, _, _, _, _, _, _, _, h, _⟩, _⟩ := hf; exact h
  have h9 : k < 1000 ∧ znf ci < 1000 := by obtain ⟨⟨_, _, N, _, _, _, h3, _, _, _, _, _, h5, h6⟩, _⟩ := hf; omega
  exact ev_put0 hf hd hs rfl rfl (zput_lng hs h8 h0 h9.1 h9.2) kk
/-- arrays -/
theorem ev_iald {a : Nat} {i : Int32} {n : Nat} (hd : decode Y.2.1 pc = .ok (.iaload, 1)) (hs : zsh a = 20) (hn : zal a = n) (kk : zEv l G Y d u (pc + 1) lv (.int (M a (zix i)) :: st) M X) : zEv l G Y d u pc lv (.int i :: .ref (G.2.1 + a) :: st) M (zck (zin i n) X) :=
  ev_ck (fun hb => fun r M' hX p e s m args below meth c H locs ls C hP hS hl => va_iald C.1 C.2.1 C.2.2.2.2.2.2.2.1 hP a 0 (zws_arr hs (by decide) (by decide) (by decide)) rfl (by rw [hn]; exact zin_vp hb) hd (kk r M' hX p e s m args below meth c H locs ls C hP hS hl))
theorem ev_bald {a : Nat} {i : Int32} {n : Nat} (hd : decode Y.2.1 pc = .ok (.baload, 1)) (hs : zsh a = 21) (hn : zal a = n) (kk : zEv l G Y d u (pc + 1) lv (.int (M a (zix i)) :: st) M X) : zEv l G Y d u pc lv (.int i :: .ref (G.2.1 + a) :: st) M (zck (zin i n) X) :=
  ev_ck (fun hb => fun r M' hX p e s m args below meth c H locs ls C hP hS hl => va_bald C.1 C.2.1 C.2.2.2.2.2.2.2.1 hP a 1 (zws_arr hs (by decide) (by decide) (by decide)) rfl (by rw [hn]; exact zin_vp hb) hd (kk r M' hX p e s m args below meth c H locs ls C hP hS hl))
theorem ev_zald {a : Nat} {i : Int32} {n : Nat} (hd : decode Y.2.1 pc = .ok (.baload, 1)) (hs : zsh a = 22) (hn : zal a = n) (kk : zEv l G Y d u (pc + 1) lv (.int (M a (zix i)) :: st) M X) : zEv l G Y d u pc lv (.int i :: .ref (G.2.1 + a) :: st) M (zck (zin i n) X) :=
  ev_ck (fun hb => fun r M' hX p e s m args below meth c H locs ls C hP hS hl => va_zald C.1 C.2.1 C.2.2.2.2.2.2.2.1 hP a 2 (zws_arr hs (by decide) (by decide) (by decide)) rfl (by rw [hn]; exact zin_vp hb) hd (kk r M' hX p e s m args below meth c H locs ls C hP hS hl))
theorem ev_lald {a : Nat} {i : Int32} {n : Nat} (hd : decode Y.2.1 pc = .ok (.laload, 1)) (hs : zsh a = 23) (hn : zal a = n) (kk : zEv l G Y d u (pc + 1) lv (.long (zgA M a (zix i)) :: st) M X) : zEv l G Y d u pc lv (.int i :: .ref (G.2.1 + a) :: st) M (zck (zin i n) X) :=
  ev_ck (fun hb => fun r M' hX p e s m args below meth c H locs ls C hP hS hl => va_lald C.1 C.2.1 C.2.2.2.2.2.2.2.1 hP a 3 (zws_lng hs) rfl (by rw [hn]; exact zin_vp hb) hd (kk r M' hX p e s m args below meth c H locs ls C hP hS hl))
theorem zarr_set {a c : Nat} {M2 : zM} (hs : zsh a = c) (hc : ¬ c < 13) (h23 : c ≠ 23) (ho : ∀ j, j ≠ a → M2 j = M j) : (zws G M).set a (G.2.1 + a, .inl (G.2.2.1 c, (zal a, .inl (M2 a)))) = zws G M2 :=
  zws_set (zce_arr hs hc h23) ho
theorem ev_iast {a : Nat} {i x : Int32} {n : Nat} (hd : decode Y.2.1 pc = .ok (.iastore, 1)) (hs : zsh a = 20) (hn : zal a = n) (kk : zEv l G Y d u (pc + 1) lv st (zup M a (zix i) x) X) : zEv l G Y d u pc lv (.int x :: .int i :: .ref (G.2.1 + a) :: st) M (zck (zin i n) X) := by
  refine ev_ck (fun hb => ?_)
  intro r M' hX p e s m args below meth c H locs ls C hP hS hl
  refine va_iast C.1 C.2.1 C.2.2.2.2.2.2.2.1 hP (zws_D G M) hS a 0 (zws_arr hs (by decide) (by decide) (by decide)) rfl (by rw [hn]; exact zin_vp hb) hd (fun H1 locs1 hP1 hD1 hS1 => ?_)
  rw [← zup_row, zarr_set (M2 := zup M a (zix i) x) hs (by decide) (by decide) (fun j hj => zup_ne hj)] at hP1
  exact kk r M' hX p e s m args below meth c H1 locs1 ls C hP1 hS1 hl
theorem ev_bast {a : Nat} {i x : Int32} {n : Nat} (hd : decode Y.2.1 pc = .ok (.bastore, 1)) (hs : zsh a = 21) (hn : zal a = n) (kk : zEv l G Y d u (pc + 1) lv st (zup M a (zix i) x.toInt8.toInt32) X) : zEv l G Y d u pc lv (.int x :: .int i :: .ref (G.2.1 + a) :: st) M (zck (zin i n) X) := by
  refine ev_ck (fun hb => ?_)
  intro r M' hX p e s m args below meth c H locs ls C hP hS hl
  refine va_bast C.1 C.2.1 C.2.2.2.2.2.2.2.1 hP (zws_D G M) hS a 1 (zws_arr hs (by decide) (by decide) (by decide)) rfl (by rw [hn]; exact zin_vp hb) hd (fun H1 locs1 hP1 hD1 hS1 => ?_)
  rw [vp_nar_byte, ← zup_row, zarr_set (M2 := zup M a (zix i) x.toInt8.toInt32) hs (by decide) (by decide) (fun j hj => zup_ne hj)] at hP1
  exact kk r M' hX p e s m args below meth c H1 locs1 ls C hP1 hS1 hl
theorem ev_zast {a : Nat} {i x : Int32} {n : Nat} (hd : decode Y.2.1 pc = .ok (.bastore, 1)) (hs : zsh a = 22) (hn : zal a = n) (kk : zEv l G Y d u (pc + 1) lv st (zup M a (zix i) x) X) : zEv l G Y d u pc lv (.int x :: .int i :: .ref (G.2.1 + a) :: st) M (zck (zin i n && zbo x) X) := by
  refine ev_ck (fun hb => ?_)
  rw [Bool.and_eq_true] at hb
  intro r M' hX p e s m args below meth c H locs ls C hP hS hl
  refine va_zast C.1 C.2.1 C.2.2.2.2.2.2.2.1 hP (zws_D G M) hS a 2 (zws_arr hs (by decide) (by decide) (by decide)) rfl (by rw [hn]; exact zin_vp hb.1) hd (fun H1 locs1 hP1 hD1 hS1 => ?_)
  rw [(zbo_nar hb.2).2.2, ← zup_row, zarr_set (M2 := zup M a (zix i) x) hs (by decide) (by decide) (fun j hj => zup_ne hj)] at hP1
  exact kk r M' hX p e s m args below meth c H1 locs1 ls C hP1 hS1 hl
theorem ev_alen {a c0 : Nat} {v : Int32} {n : Nat} (hd : decode Y.2.1 pc = .ok (.arraylength, 1)) (hs : zsh a = c0) (h0 : c0 = 20 ∨ c0 = 21) (hn : zal a = n) (hv : Int32.ofNat n = v) (kk : zEv l G Y d u (pc + 1) lv (.int v :: st) M X) : zEv l G Y d u pc lv (.ref (G.2.1 + a) :: st) M X := by
  intro r M' hX p e s m args below meth c H locs ls C hP hS hl
  rcases h0 with rfl | rfl
  · exact va_alen C.1 C.2.1 C.2.2.2.2.2.2.2.1 hP a 0 (zws_arr hs (by decide) (by decide) (by decide)) (ty := .int) rfl (by rw [hn]; exact hv) hd (kk r M' hX p e s m args below meth c H locs ls C hP hS hl)
  · exact va_alen C.1 C.2.1 C.2.2.2.2.2.2.2.1 hP a 1 (zws_arr hs (by decide) (by decide) (by decide)) (ty := .byte) rfl (by rw [hn]; exact hv) hd (kk r M' hX p e s m args below meth c H locs ls C hP hS hl)
def zupA (M : zM) (a : Nat) (f : Nat → Int32) : zM := fun i => if i = a then f else M i
theorem zupA_ne {a : Nat} {f : Nat → Int32} {j : Nat} (h : j ≠ a) : zupA M a f j = M j := by simp [zupA, h]
theorem zupA_eq {a : Nat} {f : Nat → Int32} : zupA M a f a = f := by simp [zupA]
/-- System.arraycopy of ints, or of bytes that are bytes -/
def zcpk (sp dp n : Int32) (n0 n1 : Nat) : Bool := decide (¬ sp < 0 ∧ ¬ dp < 0 ∧ ¬ n < 0 ∧ zix sp + zix n ≤ n0 ∧ zix dp + zix n ≤ n1)
def zcpw (own : String) (idx : Nat) : Prop := Cond.methodLink own idx arraycopyName ∈ zT ∧ Cond.native arraycopyName ∈ zT ∧ Cond.static arraycopyName ∈ zT ∧ Cond.initialized "java/lang/System" ∈ zT
theorem ev_copyi {a0 a1 n0 n1 idx : Nat} {sp dp n : Int32} (hw : zcpw Y.1.cls idx) (hd : decode Y.2.1 pc = .ok (.invokestatic idx, 3)) (hs0 : zsh a0 = 20) (hn0 : zal a0 = n0) (hs1 : zsh a1 = 20) (hn1 : zal a1 = n1) (hst : (st.map fun v => v.category).sum ≤ 8) (kk : zEv l G Y d u (pc + 3) lv st (zupA M a1 (va_cpy (M a0) (M a1) (zix sp) (zix dp) (zix n))) X) :
    zEv l G Y d u pc lv (.int n :: .int dp :: .ref (G.2.1 + a1) :: .int sp :: .ref (G.2.1 + a0) :: st) M (zck (zcpk sp dp n n0 n1) X) := by
  refine ev_ck (fun hb => ?_)
  obtain ⟨b1, b2, b3, b4, b5⟩ := of_decide_eq_true hb
  intro r M' hX p e s m args below meth c H locs ls C hP hS hl
  have hRf : 1 ≤ (zRm d Y.2.2.2.2.1).frames := by show 1 ≤ d + 16; omega
  have hRl : (st.map fun v => v.category).sum + (nativeFrameWords "java/lang/System" "arraycopy" 5 + 11) ≤ (zRm d Y.2.2.2.2.1).locals := by
    have q : nativeFrameWords "java/lang/System" "arraycopy" 5 + 11 ≤ 200 := by decide +kernel
    show _ + _ ≤ 64 * d + 256
    omega
  refine va_copyi (ty := .int) C.1 C.2.1 (C.2.2.2.1.trans hl.1.symm) C.2.2.2.2.1 (C.2.2.2.2.2.1 _ hw.1) (C.2.2.2.2.2.1 _ hw.2.1) (C.2.2.2.2.2.1 _ hw.2.2.1) (C.2.2.2.2.2.1 _ hw.2.2.2) C.2.2.2.2.2.2.2.1 hP (zws_D G M) hS a0 a1 0 0 (zws_arr hs0 (by decide) (by decide) (by decide)) (zws_arr hs1 (by decide) (by decide) (by decide)) rfl rfl rfl b1 b2 b3 (by rw [hn0]; exact b4) (by rw [hn1]; exact b5) (fun _ _ => rfl) hRf hRl hd (fun H1 locs1 hP1 hD1 hS1 => ?_)
  have e1 := zupA_eq (M := M) (a := a1) (f := va_cpy (M a0) (M a1) (zix sp) (zix dp) (zix n))
  rw [← e1, zarr_set hs1 (by decide) (by decide) (fun j hj => zupA_ne hj)] at hP1
  exact kk r M' hX p e s m args below meth c H1 locs1 ls C hP1 hS1 hl
def zby (f : Nat → Int32) (sp n : Nat) : Bool := decide (∀ i, i < n → (f (sp + i)).toInt8.toInt32 = f (sp + i))
theorem ev_copyb {a0 a1 n0 n1 idx : Nat} {sp dp n : Int32} (hw : zcpw Y.1.cls idx) (hd : decode Y.2.1 pc = .ok (.invokestatic idx, 3)) (hs0 : zsh a0 = 21) (hn0 : zal a0 = n0) (hs1 : zsh a1 = 21) (hn1 : zal a1 = n1) (hst : (st.map fun v => v.category).sum ≤ 8) (kk : zEv l G Y d u (pc + 3) lv st (zupA M a1 (va_cpy (M a0) (M a1) (zix sp) (zix dp) (zix n))) X) :
    zEv l G Y d u pc lv (.int n :: .int dp :: .ref (G.2.1 + a1) :: .int sp :: .ref (G.2.1 + a0) :: st) M (zck (zcpk sp dp n n0 n1 && zby (M a0) (zix sp) (zix n)) X) := by
  refine ev_ck (fun hb => ?_)
  rw [Bool.and_eq_true] at hb
  obtain ⟨b1, b2, b3, b4, b5⟩ := of_decide_eq_true hb.1
  have b6 := of_decide_eq_true hb.2
  intro r M' hX p e s m args below meth c H locs ls C hP hS hl
  have hRf : 1 ≤ (zRm d Y.2.2.2.2.1).frames := by show 1 ≤ d + 16; omega
  have hRl : (st.map fun v => v.category).sum + (nativeFrameWords "java/lang/System" "arraycopy" 5 + 11) ≤ (zRm d Y.2.2.2.2.1).locals := by
    have q : nativeFrameWords "java/lang/System" "arraycopy" 5 + 11 ≤ 200 := by decide +kernel
    show _ + _ ≤ 64 * d + 256
    omega
  refine va_copyi (ty := .byte) C.1 C.2.1 (C.2.2.2.1.trans hl.1.symm) C.2.2.2.2.1 (C.2.2.2.2.2.1 _ hw.1) (C.2.2.2.2.2.1 _ hw.2.1) (C.2.2.2.2.2.1 _ hw.2.2.1) (C.2.2.2.2.2.1 _ hw.2.2.2) C.2.2.2.2.2.2.2.1 hP (zws_D G M) hS a0 a1 1 1 (zws_arr hs0 (by decide) (by decide) (by decide)) (zws_arr hs1 (by decide) (by decide) (by decide)) rfl rfl rfl b1 b2 b3 (by rw [hn0]; exact b4) (by rw [hn1]; exact b5) (fun i hi => by rw [← b6 i hi]; exact pk_fb _) hRf hRl hd (fun H1 locs1 hP1 hD1 hS1 => ?_)
  have e1 := zupA_eq (M := M) (a := a1) (f := va_cpy (M a0) (M a1) (zix sp) (zix dp) (zix n))
  rw [← e1, zarr_set hs1 (by decide) (by decide) (fun j hj => zupA_ne hj)] at hP1
  exact kk r M' hX p e s m args below meth c H1 locs1 ls C hP1 hS1 hl
/-- ends -/
abbrev zI (v : Int32) (M : zM) : zO := some (.inl (some (.int v)), M)
abbrev zV (M : zM) : zO := some (.inl none, M)
abbrev zJ (v : Int64) (M : zM) : zO := some (.inl (some (.long v)), M)
abbrev zE (E : String) (M : zM) : zO := some (.inr E, M)
theorem ev_iret {v : Int32} {st : List Value} (hd : decode Y.2.1 pc = .ok (.ireturn, 1)) (hr : Y.2.2.2.1 = some .int) (hu : u ≤ Y.2.2.2.2.1) (h0 : st = []) : zEv l G Y d u pc lv (.int v :: st) M (zI v M) := by
  intro r M' hX p e s m args below meth c H locs ls C hP hS hl
  subst h0
  cases hX
  refine W.widen (k := Y.2.2.2.2.1) (n := 6 * Y.2.2.2.2.1) hu (by omega) (vx_ret ?_)
  exact W.iret C.1 C.2.1 (C.2.2.1.trans hr) (fun t ht hW => ⟨⟨_, rfl, rfl, by rw [ht]; exact hP⟩, hS.F ht⟩) hS.2.2 hd C.2.2.2.2.2.2.1
theorem ev_zret {v : Int32} {st : List Value} (hd : decode Y.2.1 pc = .ok (.ireturn, 1)) (hr : Y.2.2.2.1 = some .boolean) (hu : u ≤ Y.2.2.2.2.1) (h0 : st = []) : zEv l G Y d u pc lv (.int v :: st) M (zck (zbo v) (zI v M)) := by
  refine ev_ck (fun hb => ?_)
  intro r M' hX p e s m args below meth c H locs ls C hP hS hl
  subst h0
  cases hX
  refine W.widen (k := Y.2.2.2.2.1) (n := 6 * Y.2.2.2.2.1) hu (by omega) (vx_ret ?_)
  exact W.zret C.1 C.2.1 (C.2.2.1.trans hr) (zbo_nar hb).1 (fun t ht hW => ⟨⟨_, rfl, rfl, by rw [ht]; exact hP⟩, hS.F ht⟩) hS.2.2 hd C.2.2.2.2.2.2.1
theorem ev_vret {st : List Value} (hd : decode Y.2.1 pc = .ok (.return_, 1)) (hr : Y.2.2.2.1 = none) (hu : u ≤ Y.2.2.2.2.1) (h0 : st = []) : zEv l G Y d u pc lv st M (zV M) := by
  intro r M' hX p e s m args below meth c H locs ls C hP hS hl
  subst h0
  cases hX
  refine W.widen (k := Y.2.2.2.2.1) (n := 6 * Y.2.2.2.2.1) hu (by omega) (vx_ret ?_)
  exact W.vret C.1 C.2.1 (C.2.2.1.trans hr) (fun t ht hW => ⟨⟨_, rfl, rfl, by rw [ht]; exact hP⟩, hS.F ht⟩) hS.2.2 hd C.2.2.2.2.2.2.1
theorem ev_lret {v : Int64} {st : List Value} (hd : decode Y.2.1 pc = .ok (.lreturn, 1)) (hr : Y.2.2.2.1 = some .long) (hu : u ≤ Y.2.2.2.2.1) (h0 : st = []) : zEv l G Y d u pc lv (.long v :: st) M (zJ v M) := by
  intro r M' hX p e s m args below meth c H locs ls C hP hS hl
  subst h0
  cases hX
  refine W.widen (k := Y.2.2.2.2.1) (n := 6 * Y.2.2.2.2.1) hu (by omega) (vx_ret ?_)
  exact W.lret C.1 C.2.1 (C.2.2.1.trans hr) (fun t ht hW => ⟨⟨_, rfl, rfl, by rw [ht]; exact hP⟩, hS.F ht⟩) hS.2.2 hd C.2.2.2.2.2.2.1
end ZH
