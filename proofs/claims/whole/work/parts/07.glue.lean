/-! glue: the number of rounds of a loop, named stores, joins, texts -/
def zN : Nat := 1000000
def zst (M : zM) (k : zM → zO) : zO := k M
def zjo {α : Type} (K : α) (T : α → zO) : zO := T K
/-- a text's length, its k-th sign, where a sign is first -/
def zsL (w : Nat) : Int32 := Int32.ofNat (zsl.getD w 0)
def zsC (w k : Nat) : Int32 := (zsb.getD w []).getD k 0
def zsIx (c : Int32) : List Int32 → Nat → Int32
  | [], _ => -1
  | b :: r, k => if b = c then nI k else zsIx c r (k + 1)
def zsI (w : Nat) (c : Int32) : Int32 := zsIx c (zsb.getD w []) 0
section ZG
variable {l : Launch} {G : zG} {Y : zY} {d u pc : Nat} {lv : List (Nat × Value)} {st : List Value} {M : zM} {X : zO}
theorem ev_u {u' : Nat} (h : u ≤ u') (k : zEv l G Y d u' pc lv st M X) : zEv l G Y d u pc lv st M X :=
  fun r M' hX p e s m args below meth c H locs ls C hP hS hl => W.widen (k := u') (n := 6 * u') h (by omega) (k r M' hX p e s m args below meth c H locs ls C hP hS hl)
theorem ev_st {E : zM} {K : zM → zO} (k : ∀ M1, zEv l G Y d u pc lv st M1 (K M1)) : zEv l G Y d u pc lv st E (zst E K) := k E
theorem ev_jo {α : Type} {K : α} {T : α → zO} (P : α → Prop) (hK : P K) (h : ∀ k, P k → zEv l G Y d u pc lv st M (T k)) : zEv l G Y d u pc lv st M (zjo K T) := h K hK
theorem ev_ldcs {is i : Nat} {text : String} (hd : decode Y.2.1 pc = .ok (.ldc is, 2)) (hsr : (Y.1.cls, is, text, i) ∈ zSR) (k : zEv l G Y d u (pc + 2) lv (.ref (G.2.2.2.1 i) :: st) M X) : zEv l G Y d u pc lv st M X := by
  intro r M' hX p e s m args below meth c H locs ls C hP hS hl
  have h := C.2.2.2.2.2.2.2.2.1.2.2.2.1 _ hsr
  intro T hT Xs
  obtain ⟨t, a1, b1⟩ := k r M' hX p e s m args below meth c H locs ls C hP hS hl T hT Xs
  exact ⟨t, Xs.ldcString C.1 (own := Y.1.cls) (text := text) (index := is) (a := G.2.2.2.1 i) C.2.2.2.2.1 h.1 h.2 (g := F0 m pc ls st) rfl (by rw [C.2.1]; exact hd) _ a1, b1⟩
end ZG
