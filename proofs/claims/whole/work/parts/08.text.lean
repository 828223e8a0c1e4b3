/-! texts: their fields, their bytes, calls of their methods -/
section ZO
variable {l : Launch} {G : zG} {Y : zY} {d u pc : Nat} {lv : List (Nat × Value)} {st : List Value} {M : zM} {X : zO}
theorem ev_sval {idx w : Nat} (hw : Cond.fieldLink Y.1.cls idx "java/lang/String" "value" "[B" ∈ zT) (hd : decode Y.2.1 pc = .ok (.getfield idx, 3)) (h : w < zNS) (k : zEv l G Y d u (pc + 3) lv (.ref (G.2.2.2.2.1 w) :: st) M X) : zEv l G Y d u pc lv (.ref (G.2.2.2.1 w) :: st) M X :=
  fun r M' hX p e s m args below meth c H locs ls C hP hS hl => vk_getf C.1 C.2.1 (C.2.2.2.2.2.2.2.2.1.2.2.1.1 w h).2.2.1 hS C.2.2.2.2.1 (C.2.2.2.2.2.1 _ hw) (fun _ q => q) hd (k r M' hX p e s m args below meth c H locs ls C hP hS hl)
theorem ev_scod {idx w : Nat} (hw : Cond.fieldLink Y.1.cls idx "java/lang/String" "coder" "B" ∈ zT) (hd : decode Y.2.1 pc = .ok (.getfield idx, 3)) (h : w < zNS) (k : zEv l G Y d u (pc + 3) lv (.int 0 :: st) M X) : zEv l G Y d u pc lv (.ref (G.2.2.2.1 w) :: st) M X :=
  fun r M' hX p e s m args below meth c H locs ls C hP hS hl => vk_getf C.1 C.2.1 (C.2.2.2.2.2.2.2.2.1.2.2.1.1 w h).2.1 hS C.2.2.2.2.1 (C.2.2.2.2.2.1 _ hw) (fun _ q => q) hd (k r M' hX p e s m args below meth c H locs ls C hP hS hl)
theorem ev_gcs {idx : Nat} (hw : Cond.fieldLink Y.1.cls idx "java/lang/String" "COMPACT_STRINGS" "Z" ∈ zT) (hd : decode Y.2.1 pc = .ok (.getstatic idx, 3)) (k : zEv l G Y d u (pc + 3) lv (.int 1 :: st) M X) : zEv l G Y d u pc lv st M X :=
  fun r M' hX p e s m args below meth c H locs ls C hP hS hl => va_gets C.1 C.2.1 C.2.2.2.2.2.2.2.2.1.2.2.2.2.1 hS C.2.2.2.2.1 (C.2.2.2.2.2.1 _ hw) (fun _ q => q) hd (k r M' hX p e s m args below meth c H locs ls C hP hS hl)
theorem ev_gfm {idx : Nat} (hw : Cond.fieldLink Y.1.cls idx "jdk/internal/util/Preconditions" "SIOOBE_FORMATTER" "Ljava/util/function/BiFunction;" ∈ zT) (hd : decode Y.2.1 pc = .ok (.getstatic idx, 3)) (k : ∀ q : Value, (q = .null ∨ ∃ t, q = .ref t) → zEv l G Y d u (pc + 3) lv (q :: st) M X) : zEv l G Y d u pc lv st M X := by
  intro r M' hX p e s m args below meth c H locs ls C hP hS hl
  rcases C.2.2.2.2.2.2.2.2.1.2.2.2.2.2.1 with h | ⟨t, h⟩
  · exact va_gets C.1 C.2.1 h hS C.2.2.2.2.1 (C.2.2.2.2.2.1 _ hw) (fun _ q => q) hd (k _ (Or.inl rfl) r M' hX p e s m args below meth c H locs ls C hP hS hl)
  · exact va_gets C.1 C.2.1 h hS C.2.2.2.2.1 (C.2.2.2.2.2.1 _ hw) (fun _ q => q) hd (k _ (Or.inr ⟨t, rfl⟩) r M' hX p e s m args below meth c H locs ls C hP hS hl)
theorem ev_svlen {w : Nat} (hd : decode Y.2.1 pc = .ok (.arraylength, 1)) (h : w < zNS) (k : zEv l G Y d u (pc + 1) lv (.int (zsL w) :: st) M X) : zEv l G Y d u pc lv (.ref (G.2.2.2.2.1 w) :: st) M X :=
  fun r M' hX p e s m args below meth c H locs ls C hP hS hl => va_tlen C.1 C.2.1 (C.2.2.2.2.2.2.2.2.1.2.2.1.1 w h).2.2.2 hS rfl hd (k r M' hX p e s m args below meth c H locs ls C hP hS hl)
theorem ev_sbald {w : Nat} {i : Int32} (hd : decode Y.2.1 pc = .ok (.baload, 1)) (h : w < zNS) (k : zEv l G Y d u (pc + 1) lv (.int (zsC w (zix i)) :: st) M X) : zEv l G Y d u pc lv (.int i :: .ref (G.2.2.2.2.1 w) :: st) M (zck (zin i (zsl.getD w 0)) X) :=
  ev_ck (fun hb => fun r M' hX p e s m args below meth c H locs ls C hP hS hl => va_tb C.1 C.2.1 (C.2.2.2.2.2.2.2.2.1.2.2.1.1 w h).2.2.2 hS (zin_vp hb) rfl hd (k r M' hX p e s m args below meth c H locs ls C hP hS hl))
def zCt (own : String) (idx n : Nat) (Y' : zY) : Prop := zNm Y' ∧ Cond.methodLink own idx Y'.1 ∈ zT ∧ Cond.instanceMethod Y'.1 ∈ zT ∧ Cond.selects Y'.1.cls Y'.1 Y'.1 ∈ zT ∧ Y'.1.cls = "java/lang/String" ∧ (parseMethodDescriptor Y'.1.desc).map (fun d => d.parameters.length) = some n
theorem ev_callTO {As : List Value} {w idx n d' : Nat} {Y' : zY} {X1 : zO} {K : Option Value → zM → zO} (hc : zCt Y.1.cls idx n Y') (hM : zMt l G Y' d' (.ref (G.2.2.2.1 w) :: As) M X1) (hd : decode Y.2.1 pc = .ok (.invokevirtual idx, 3)) (hs : w < zNS) (hdd : d' + 1 ≤ d) (hu : u + Y'.2.2.2.2.1 ≤ Y.2.2.2.2.1) (hst : (st.map fun v => v.category).sum ≤ 8) (hn : As.length = n) {st0 : List Value} (h0 : st0 = As.reverse ++ .ref (G.2.2.2.1 w) :: st)
    (kk : ∀ (v : Option Value) (M1 : zM), X1 = some (.inl v, M1) → zEv l G Y d (u + Y'.2.2.2.2.1) (pc + 3) lv (v.toList ++ st) M1 (K v M1)) (hh : Y.2.2.2.2.2 = [] := by rfl) : zEv l G Y d u pc lv st0 M (zbO X1 K) := by
  intro r M' hX p e s m args below meth c H locs ls C hP hS hl
  subst h0
  obtain ⟨hNm, w1, w2, w3, hqc, hpar⟩ := hc
  cases hX1 : X1 with
  | none => rw [hX1] at hX; cases hX
  | some x =>
    obtain ⟨r1, M1⟩ := x
    refine zbehind (a := (Value.ref (G.2.2.2.1 w) :: As).toArray) (X1 := X1) (Y' := Y') hX1 hX hu kk C hS hl hh ?_
    refine vx_runV (g := F0 m pc ls (As.reverse ++ .ref (G.2.2.2.1 w) :: st)) (Ts := zT) (own := Y.1.cls) (nL := Y.2.2.1) (cc := Y.2.1) (C := Y'.1.cls) (index := idx) (n := n) ⟨C.1, C.2.1, C.2.2.2.1, C.2.2.2.2.1, C.2.2.2.2.2.1⟩ (hM r1 M1 hX1) ⟨zcallB hNm w1 C.2.2.2.2.2.1 hpar hdd, C.2.2.2.2.2.1 _ w2, C.2.2.2.2.2.1 _ w3⟩ ⟨zPc_blind, ?_, fun U hU hW => ⟨rfl, by rw [hU]; exact hP, va_K.moved hW.alike C.2.2.2.2.2.2.2.1, zX_next C.2.2.2.2.2.2.2.2.1 hS hW hU⟩⟩ rfl hn hl.1 rfl (lv_room hst) hd ⟨by show u + Y'.2.2.2.2.1 ≤ Y.2.2.2.2.1; exact hu, by show 6 * u + 6 * Y'.2.2.2.2.1 ≤ 6 * Y.2.2.2.2.1; omega⟩
    obtain ⟨cellS, hc1, hc2, hc3, hc4⟩ := (C.2.2.2.2.2.2.2.2.1.2.2.1.1 w hs).1
    rw [hqc]
    exact ⟨cellS, by rw [hS.2.1 _ (Array.getElem?_eq_some_iff.mp hc1).1 hc4]; exact hc1, hc2, hc3⟩
theorem ev_callTI {As : List Value} {w idx n d' : Nat} {Y' : zY} {X1 : zO} {K : Int32 → zM → zO} (hc : zCt Y.1.cls idx n Y') (hM : zMt l G Y' d' (.ref (G.2.2.2.1 w) :: As) M X1) (hd : decode Y.2.1 pc = .ok (.invokevirtual idx, 3)) (hs : w < zNS) (hdd : d' + 1 ≤ d) (hu : u + Y'.2.2.2.2.1 ≤ Y.2.2.2.2.1) (hst : (st.map fun v => v.category).sum ≤ 8) (hn : As.length = n) {st0 : List Value} (h0 : st0 = As.reverse ++ .ref (G.2.2.2.1 w) :: st)
    (kk : ∀ (v : Int32) (M1 : zM), zEv l G Y d (u + Y'.2.2.2.2.1) (pc + 3) lv (.int v :: st) M1 (K v M1)) (hh : Y.2.2.2.2.2 = [] := by rfl) : zEv l G Y d u pc lv st0 M (zbI X1 K) := by
  rw [zbI_O]
  refine ev_callTO hc hM hd hs hdd hu hst hn h0 (fun v M1 _ => ?_) hh
  rcases v with _ | v
  · exact ev_none
  · cases v <;> first | exact ev_none | exact kk _ _
/-- answers that are bytes, signs -/
theorem ev_nret {v : Int32} {st : List Value} {ty : FieldType} (hd : decode Y.2.1 pc = .ok (.ireturn, 1)) (hr : Y.2.2.2.1 = some ty) (hn : narrow ty (.int v) = .int v) (hu : u ≤ Y.2.2.2.2.1) (h0 : st = []) : zEv l G Y d u pc lv (.int v :: st) M (zI v M) := by
  intro r M' hX p e s m args below meth c H locs ls C hP hS hl
  subst h0
  cases hX
  refine W.widen (k := Y.2.2.2.2.1) (n := 6 * Y.2.2.2.2.1) hu (by omega) (vx_ret ?_)
  exact W.zret C.1 C.2.1 (C.2.2.1.trans hr) hn (fun t ht hW => ⟨⟨_, rfl, rfl, by rw [ht]; exact hP⟩, hS.F ht⟩) hS.2.2 hd C.2.2.2.2.2.2.1
def zna (v : Int32) : Bool := decide (narrow .char (.int v) = .int v)
theorem ev_cret {v : Int32} {st : List Value} (hd : decode Y.2.1 pc = .ok (.ireturn, 1)) (hr : Y.2.2.2.1 = some .char) (hu : u ≤ Y.2.2.2.2.1) (h0 : st = []) : zEv l G Y d u pc lv (.int v :: st) M (zck (zna v) (zI v M)) :=
  ev_ck (fun hb => ev_nret hd hr (of_decide_eq_true hb) hu h0)
def znb (v : Int32) : Bool := decide (narrow .byte (.int v) = .int v)
theorem ev_bret {v : Int32} {st : List Value} (hd : decode Y.2.1 pc = .ok (.ireturn, 1)) (hr : Y.2.2.2.1 = some .byte) (hu : u ≤ Y.2.2.2.2.1) (h0 : st = []) : zEv l G Y d u pc lv (.int v :: st) M (zck (znb v) (zI v M)) :=
  ev_ck (fun hb => ev_nret hd hr (of_decide_eq_true hb) hu h0)
end ZO
