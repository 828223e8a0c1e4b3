/-! glue: the number of rounds of a loop, named stores, joins, texts -/
def zN : Nat := 1000000
def zst (M : zM) (k : zM → zO) : zO := k M
def zjo {α : Type} (K : α) (T : α → zO) : zO := T K
/-- a text's length, its k-th sign, where a sign is first -/
def zsL (w : Nat) : Int32 := Int32.ofNat (zsl.getD w 0)
def zsC (w k : Nat) : Int32 := (zsb.getD w []).getD k 0
def zsIx (c : Int32) : List Int32 → Nat → Int32
  | [], _ => -1
  | b :: r, k => if b = c then nI k else zsIx c r (k + 1)
def zsI (w : Nat) (c : Int32) : Int32 := zsIx c (zsb.getD w []) 0
section ZG
variable {l : Launch} {G : zG} {Y : zY} {d u pc : Nat} {lv : List (Nat × Value)} {st : List Value} {M : zM} {X : zO}
theorem ev_u {u' : Nat} (h : u ≤ u') (k : zEv l G Y d u' pc lv st M X) : zEv l G Y d u pc lv st M X :=
  fun r M' hX p e s m args below meth c H locs ls C hP hS hl => W.widen (k := u') (n := 6 * u') h (by omega) (k r M' hX p e s m args below meth c H locs ls C hP hS hl)
theorem ev_st {E : zM} {K : zM → zO} (k : ∀ M1, zEv l G Y d u pc lv st M1 (K M1)) : zEv l G Y d u pc lv st E (zst E K) := k E
theorem ev_jo {α : Type} {K : α} {T : α → zO} (P : α → Prop) (hK : P K) (h : ∀ k, P k → zEv l G Y d u pc lv st M (T k)) : zEv l G Y d u pc lv st M (zjo K T) := h K hK
theorem ev_ldcs {is i : Nat} {text : String} (hd : decode Y.2.1 pc = .ok (.ldc is, 2)) (hsr : (Y.1.cls, is, text, i) ∈ zSR) (k : zEv l G Y d u (pc + 2) lv (.ref (G.2.2.2.1 i) :: st) M X) : zEv l G Y d u pc lv st M X := by
  intro r M' hX p e s m args below meth c H locs ls C hP hS hl
  have h := C.2.2.2.2.2.2.2.2.1.2.2.2.1 _ hsr
  intro T hT Xs
  obtain ⟨t, a1, b1⟩ := k r M' hX p e s m args below meth c H locs ls C hP hS hl T hT Xs
  exact ⟨t, Xs.ldcString C.1 (own := Y.1.cls) (text := text) (index := is) (a := G.2.2.2.1 i) C.2.2.2.2.1 h.1 h.2 (g := F0 m pc ls st) rfl (by rw [C.2.1]; exact hd) _ a1, b1⟩
/-- the script -/
theorem ev_sld {i : Int32} (hd : decode Y.2.1 pc = .ok (.iaload, 1)) (kk : zEv l G Y d u (pc + 1) lv (.int (G.2.2.2.2.2.2.2 (zix i)) :: st) M X) : zEv l G Y d u pc lv (.int i :: .ref G.2.2.2.2.2.1 :: st) M (zck (zin i G.2.2.2.2.2.2.1) X) :=
  ev_ck (fun hb => fun r M' hX p e s m args below meth c H locs ls C hP hS hl => va_sld C.1 C.2.1 C.2.2.2.2.2.2.2.2.1.2.2.2.2.2.2.2.1 C.2.2.2.2.2.2.2.2.1.2.2.2.2.2.2.2.2.1 (Nat.not_le.mpr C.2.2.2.2.2.2.2.2.1.2.2.2.2.2.2.2.2.2) hS (zin_vp hb) hd (kk r M' hX p e s m args below meth c H locs ls C hP hS hl))
theorem ev_slc (hd : decode Y.2.1 pc = .ok (.arraylength, 1)) (kk : zEv l G Y d u (pc + 1) lv (.int (Int32.ofNat G.2.2.2.2.2.2.1) :: st) M X) : zEv l G Y d u pc lv (.ref G.2.2.2.2.2.1 :: st) M X :=
  fun r M' hX p e s m args below meth c H locs ls C hP hS hl => va_slen C.1 C.2.1 C.2.2.2.2.2.2.2.2.1.2.2.2.2.2.2.2.1 C.2.2.2.2.2.2.2.2.1.2.2.2.2.2.2.2.2.1 (Nat.not_le.mpr C.2.2.2.2.2.2.2.2.1.2.2.2.2.2.2.2.2.2) hS hd (kk r M' hX p e s m args below meth c H locs ls C hP hS hl)
/-- longs in a row -/
theorem ev_last {a : Nat} {i : Int32} {x : Int64} {n : Nat} (hd : decode Y.2.1 pc = .ok (.lastore, 1)) (hs : zsh a = 23) (hn : zal a = n) (kk : zEv l G Y d u (pc + 1) lv st (zupB M a (zix i) x) X) : zEv l G Y d u pc lv (.long x :: .int i :: .ref (G.2.1 + a) :: st) M (zck (zin i n) X) := by
  refine ev_ck (fun hb => ?_)
  intro r M' hX p e s m args below meth c H locs ls C hP hS hl
  refine va_last C.1 C.2.1 C.2.2.2.2.2.2.2.1 hP (zws_D G M) hS a 3 (zws_lng hs) rfl (by rw [hn]; exact zin_vp hb) hd (fun H1 locs1 hP1 hD1 hS1 => ?_)
  have e1 : (zws G M).set a (G.2.1 + a, .inl (G.2.2.1 23, (zal a, .inr (.inl (vp_updL (fun j => zmk (M a (2 * j)) (M a (2 * j + 1))) (zix i) x))))) = zws G (zupB M a (zix i) x) := by
    refine zws_set ?_ (fun j hj => by unfold zupB; rw [zup_ne hj, zup_ne hj])
    rw [zce_lng hs]
    have e2 : zupB M a (zix i) x a = upd (upd (M a) (2 * zix i) (zhi x)) (2 * zix i + 1) (zlo x) := by
      unfold zupB
      rw [zup_row, zup_row]
    rw [e2]
    congr 5
    funext j
    by_cases hj : j = zix i
    · subst hj
      rw [pk_uLs, pk_un (by omega), pk_us, pk_us, zmk_eq]
    · rw [pk_uLn hj, pk_un (by omega), pk_un (by omega), pk_un (by omega), pk_un (by omega)]
  rw [e1] at hP1
  exact kk r M' hX p e s m args below meth c H1 locs1 ls C hP1 hS1 hl
end ZG
