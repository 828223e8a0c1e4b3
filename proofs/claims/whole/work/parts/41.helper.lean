/-! methods with a table of handlers: their contracts, calls inside that are caught, calls of them -/
def zMh (l : Launch) (G : zG) (Y : zY) (d : Nat) (As : List Value) (M : zM) (X : zO) : Prop :=
  ∀ (r : zR) (M' : zM), X = some (r, M') → vx_Met l Y.1 (Cond.codeWith Y.1 Y.2.1 Y.2.2.1 Y.2.2.2.1 Y.2.2.2.2.2 :: zT) (zRm d Y.2.2.2.2.1) (zPc G As M) (zQc G r M') (zXC G r M') Y.2.2.2.2.1 (6 * Y.2.2.2.2.1) (zA G)
def zbH (x : zO) (k : Int32 → zM → zO) (h : String → zM → zO) : zO := match x with
  | some (.inl (some (.int v)), M) => k v M
  | some (.inr E, M) => h E M
  | _ => none
section ZHH
variable {l : Launch} {G : zG} {Y : zY} {d u pc : Nat} {lv : List (Nat × Value)} {st : List Value} {M : zM} {X : zO}
theorem zMh_of {As : List Value} (hy : plainName Y.1.cls = true) (hn : (lg_sl As).length ≤ Y.2.2.1) (h : zEv l G Y d 0 0 (lv_args 0 As) [] M X) : zMh l G Y d As M X := by
  intro r M' hX
  refine vx_ofWH (cc := Y.2.1) (maxL := Y.2.2.1) (ret := Y.2.2.2.1) (hh := Y.2.2.2.2.2) hy rfl ?_
  intro p e s m args below meth c s₁ B hml hv
  obtain ⟨rfl, hP, hK, hZ⟩ := hv
  have hts := atoms_spec (ws := Cond.codeWith Y.1 Y.2.1 Y.2.2.1 Y.2.2.2.1 Y.2.2.2.2.2 :: zT) B.pre
  have hl := lv_entry As (n := Y.2.2.1) hn
  rw [lg_entry_eq]
  exact h r M' hX p e s m _ below meth c s.heap [] _ ⟨B.exec, B.bytes, B.returns, hml, findClass_of_methodNamed B.named, fun w hw => hts w (List.mem_cons_of_mem _ hw), B.notSynchronized, hK, hZ, vx_table (x := Y.1) B (hts _ List.mem_cons_self)⟩ hP va_S.rf hl
/-- a call whose throws are caught: by the rows pre ++ [x] ++ suf of the table, as the class of what is thrown is -/
theorem ev_callVH {As : List Value} {o ci idx n d' : Nat} {Y' : zY} {X1 : zO} {K : Int32 → zM → zO} {h : String → zM → zO} (hc : zCl Y.1.cls idx ci n Y') (hM : zMt l G Y' d' (.ref (G.2.1 + o) :: As) M X1) (hd : decode Y.2.1 pc = .ok (.invokevirtual idx, 3)) (hs : zsh o = ci) (hdd : d' + 1 ≤ d) (hu : u + Y'.2.2.2.2.1 ≤ Y.2.2.2.2.1) (hst : (st.map fun v => v.category).sum ≤ 8) (hn : As.length = n) {st0 : List Value} (h0 : st0 = As.reverse ++ .ref (G.2.1 + o) :: st)
    (kk : ∀ (v : Int32) (M1 : zM), zEv l G Y d (u + Y'.2.2.2.2.1) (pc + 3) lv (.int v :: st) M1 (K v M1))
    (kx : ∀ (E : String) (M1 : zM), h E M1 ≠ none → ∃ (pre : List ExceptionTableEntry) (x : ExceptionTableEntry) (suf : List ExceptionTableEntry), tableOf Y.2.2.2.2.2 = pre ++ x :: suf ∧ (∀ z ∈ pre, covers z pc = true ∧ z.catchType ≠ 0 ∧ ∃ nm : String, Cond.classLink Y.1.cls z.catchType nm ∈ zT ∧ (E, nm) ∈ zNcs) ∧ covers x pc = true ∧ x.catchType ≠ 0 ∧ Cond.classLink Y.1.cls x.catchType E ∈ zT ∧ (E, E) ∈ zCst ∧ ∀ q : Nat, zEv l G Y d (u + Y'.2.2.2.2.1) x.handlerPc lv [.ref q] M1 (h E M1)) :
    zEv l G Y d u pc lv st0 M (zbH X1 K h) := by
  intro r M' hX p e s m args below meth c H locs ls C hP hS hl
  subst h0
  obtain ⟨hNm, w1, w2, w3, ⟨q, hq, hqc⟩, hci, hpar⟩ := hc
  cases hX1 : X1 with
  | none => rw [hX1] at hX; cases hX
  | some x =>
    obtain ⟨r1, M1⟩ := x
    have hrun := vx_runV (l := l) (e := e) (below := below) (meth := meth) (locs := locs) (cells := u) (slots := 6 * u) (R := zRm d Y.2.2.2.2.1) (H := H) (g := F0 m pc ls (As.reverse ++ .ref (G.2.1 + o) :: st)) (rest := st) (b := G.2.1 + o) (As := As) (Ts := zT) (own := Y.1.cls) (nL := Y.2.2.1) (cc := Y.2.1) (C := Y'.1.cls) (index := idx) (n := n) ⟨C.1, C.2.1, C.2.2.2.1, C.2.2.2.2.1, C.2.2.2.2.2.1⟩ (hM r1 M1 hX1) ⟨zcallB hNm w1 C.2.2.2.2.2.1 hpar hdd, C.2.2.2.2.2.1 _ w2, C.2.2.2.2.2.1 _ w3⟩ ⟨zPc_blind, by
        have hrec := va_recv C.2.2.2.2.2.2.2.1 hP hq (zws_obj hs hci)
        rw [hqc] at hrec
        exact hrec, fun U hU hW => ⟨rfl, by rw [hU]; exact hP, va_K.moved hW.alike C.2.2.2.2.2.2.2.1, zX_next C.2.2.2.2.2.2.2.2.1 hS hW hU⟩⟩ rfl hn hl.1 rfl (lv_room hst) hd ⟨by show u + Y'.2.2.2.2.1 ≤ Y.2.2.2.2.1; exact hu, by show 6 * u + 6 * Y'.2.2.2.2.1 ≤ 6 * Y.2.2.2.2.1; omega⟩
    intro T hT Xs
    have em : 6 * u + 6 * Y'.2.2.2.2.1 = 6 * (u + Y'.2.2.2.2.1) := by omega
    rcases hrun T hT Xs with ⟨v, st₀, t, T', L, h0, X', hL, e1, e2, ⟨⟨v2, hr, hv, hP1⟩, hF⟩, stp⟩ | ⟨q1, st₀, t, T', L, E, ce, h0, X', hL, e1, e2, ⟨hr, hP1, hF⟩, hce, hcv, hcl, stp⟩
    · cases hv
      subst hr
      rw [hX1] at hX
      obtain ⟨k1, k2, k3⟩ := vx_keep h0 e1 hS (fun _ _ h => h) (fun _ h => h) hL hF
      rw [em] at X'
      rcases v with _ | v
      · cases hX
      · cases v with
        | int v =>
          obtain ⟨t2, a1, b1⟩ := kk v M1 r M' hX p e s m args below meth c T'.heap (locs ++ L) ls C (by rw [e1]; exact hP1) k3 hl T' rfl X'
          exact ⟨t2, stp t2 a1, b1⟩
        | _ => cases hX
    · subst hr
      rw [hX1] at hX
      have hX2 : h E M1 = some (r, M') := hX
      obtain ⟨k1, k2, k3⟩ := vx_keep h0 e1 hS (fun _ _ h => h) (fun _ h => h) hL hF
      rw [em] at X'
      obtain ⟨pre, x, suf, ht, hpass, hcov, hx0, hlk, hca, kh⟩ := kx E M1 (by rw [hX2]; exact fun z => nomatch z)
      have hxs := C.2.2.2.2.2.2.2.2.1.2.2.2.2.2.2.1
      obtain ⟨t2, a1, b1⟩ := hx_catch (own := Y.1.cls) (name := E) (E := E) (ce := ce) (q := q1) (pc := pc) (ls := ls) (rest := st) (H := T'.heap) C.2.2.2.2.1 pre x suf (by rw [C.2.2.2.2.2.2.2.2.2]; exact ht) (fun z hz => by
          obtain ⟨z1, z2, nm, z3, z4⟩ := hpass z hz
          exact ⟨z1, z2, nm, C.2.2.2.2.2.1 _ z3, hxs.2.2 _ z4⟩) hcov hx0 (C.2.2.2.2.2.1 _ hlk) ((hxs.1 _ hca).use rfl) (by rw [e1]; exact hce) hcv hcl
        (kh q1 r M' hX2 p e s m args below meth c T'.heap (locs ++ L) ls C (by rw [e1]; exact hP1) k3 hl) T' rfl X'
      exact ⟨t2, stp.trans a1, b1⟩
/-- a call of a method with a table -/
def zCh (own : String) (idx n : Nat) (Y' : zY) : Prop := (Y'.1.cls ≠ "java/lang/invoke/MethodHandle" ∧ Y'.1.cls ≠ "java/lang/invoke/VarHandle") ∧ Y'.2.2.1 ≤ 40 ∧ Cond.codeWith Y'.1 Y'.2.1 Y'.2.2.1 Y'.2.2.2.1 Y'.2.2.2.2.2 ∈ zT ∧ Cond.initialized Y'.1.cls ∈ zT ∧ Cond.methodLink own idx Y'.1 ∈ zT ∧ Cond.static Y'.1 ∈ zT ∧ (parseMethodDescriptor Y'.1.desc).map (fun d => d.parameters.length) = some n
theorem ev_callHI {As : List Value} {idx n d' u' : Nat} {Y' : zY} {X1 : zO} {K : Int32 → zM → zO} (hc : zCh Y.1.cls idx n Y') (hM : zMh l G Y' d' As M X1) (hd : decode Y.2.1 pc = .ok (.invokestatic idx, 3)) (hdd : d' + 1 ≤ d) (hu' : u + Y'.2.2.2.2.1 = u') (hu : u' ≤ Y.2.2.2.2.1) (hst : (st.map fun v => v.category).sum ≤ 8) (hn : As.length = n) {st0 : List Value} (h0 : st0 = As.reverse ++ st)
    (kk : ∀ (v : Int32) (M1 : zM), zEv l G Y d u' (pc + 3) lv (.int v :: st) M1 (K v M1)) (hh : Y.2.2.2.2.2 = [] := by rfl) : zEv l G Y d u pc lv st0 M (zbI X1 K) := by
  rw [zbI_O]
  subst hu'
  intro r M' hX p e s m args below meth c H locs ls C hP hS hl
  subst h0
  obtain ⟨c1, c2, c3, c4, c5, c6, hpar⟩ := hc
  cases hX1 : X1 with
  | none => rw [hX1] at hX; cases hX
  | some x =>
    obtain ⟨r1, M1⟩ := x
    refine zbehind (st := st) (a := As.toArray) (X1 := X1) (Y' := Y') hX1 hX hu (fun v M1 _ => ?_) C hS hl hh ?_
    · rcases v with _ | v
      · exact ev_none
      · cases v <;> first | exact ev_none | exact kk _ _
    · refine vx_runSX (hh := Y'.2.2.2.2.2) (g := F0 m pc ls (As.reverse ++ st)) (Ts := zT) (own := Y.1.cls) (nL := Y.2.2.1) (cc := Y.2.1) (index := idx) (n := n) ⟨C.1, C.2.1, C.2.2.2.1, C.2.2.2.2.1, C.2.2.2.2.2.1⟩ (hM r1 M1 hX1) ⟨⟨rfl, rfl, by show d' + 16 + 1 ≤ d + 16; omega, by show 8 + (Y'.2.2.1 + 11) + (64 * d' + 256) ≤ 64 * d + 256; omega, ?_, List.mem_cons_self⟩, C.2.2.2.2.2.1 _ c3, C.2.2.2.2.2.1 _ c4, c1, fun sig hsig => ?_, C.2.2.2.2.2.1 _ c5, C.2.2.2.2.2.1 _ c6⟩ ⟨zPc_blind, fun U hU hW => ⟨rfl, by rw [hU]; exact hP, va_K.moved hW.alike C.2.2.2.2.2.2.2.1, zX_next C.2.2.2.2.2.2.2.2.1 hS hW hU⟩⟩ rfl hn hl.1 rfl (lv_room hst) hd ⟨by show u + Y'.2.2.2.2.1 ≤ Y.2.2.2.2.1; exact hu, by show 6 * u + 6 * Y'.2.2.2.2.1 ≤ 6 * Y.2.2.2.2.1; omega⟩
      · intro w hw a' U hW
        have hm : w ∈ zT := by
          rcases List.mem_cons.mp hw with e | e
          · rw [e]; exact c3
          · exact e
        exact word_at hW (good_of_word (zT_good hm)) (C.2.2.2.2.2.1 w hm)
      · rw [hsig] at hpar
        exact (Option.some.inj hpar).symm
end ZHH
