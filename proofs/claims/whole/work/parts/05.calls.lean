/-! calls of methods that end as their contract says -/
def zbO (x : zO) (k : Option Value → zM → zO) : zO := match x with
  | some (.inl v, M) => k v M
  | some (.inr E, M) => some (.inr E, M)
  | none => none
def zbI (x : zO) (k : Int32 → zM → zO) : zO := match x with
  | some (.inl (some (.int v)), M) => k v M
  | some (.inr E, M) => some (.inr E, M)
  | _ => none
def zbJ (x : zO) (k : Int64 → zM → zO) : zO := match x with
  | some (.inl (some (.long v)), M) => k v M
  | some (.inr E, M) => some (.inr E, M)
  | _ => none
def zbV (x : zO) (k : zM → zO) : zO := match x with
  | some (.inl none, M) => k M
  | some (.inr E, M) => some (.inr E, M)
  | _ => none
def zNm (Y' : zY) : Prop := (Y'.1.cls ≠ "java/lang/invoke/MethodHandle" ∧ Y'.1.cls ≠ "java/lang/invoke/VarHandle") ∧ Y'.2.2.1 ≤ 40 ∧ Cond.code Y'.1 Y'.2.1 Y'.2.2.1 Y'.2.2.2.1 ∈ zT ∧ Cond.initialized Y'.1.cls ∈ zT
def zCl (own : String) (idx ci n : Nat) (Y' : zY) : Prop := zNm Y' ∧ Cond.methodLink own idx Y'.1 ∈ zT ∧ Cond.instanceMethod Y'.1 ∈ zT ∧ Cond.selects Y'.1.cls Y'.1 Y'.1 ∈ zT ∧ (∃ q : vw_C, vwCl[ci]? = some q ∧ q.1 = Y'.1.cls) ∧ ci < 13 ∧ (parseMethodDescriptor Y'.1.desc).map (fun d => d.parameters.length) = some n
def zCs (own : String) (idx n : Nat) (Y' : zY) : Prop := zNm Y' ∧ Cond.methodLink own idx Y'.1 ∈ zT ∧ Cond.static Y'.1 ∈ zT ∧ (parseMethodDescriptor Y'.1.desc).map (fun d => d.parameters.length) = some n
theorem zPc_blind {G : zG} {As : List Value} {M : zM} : FrameBlind (zPc G As M) := by
  intro a U g mk q
  obtain ⟨q0, qP, qK, q1, q2, q3, q4, q5, q6, q7, q8, q9⟩ := q
  exact ⟨q0, qP, va_K.moved (u := U) (U := U.calling g mk a) (Vm.Alike.refl U.vm) qK, vx_Zq.moved (u := U) (U := U.calling g mk a) (Vm.Alike.refl U.vm) q1, vx_Zq.moved (u := U) (U := U.calling g mk a) (Vm.Alike.refl U.vm) q2, zSs.moved (u := U) (U := U.calling g mk a) (Vm.Alike.refl U.vm) q3, fun z hz => vk_R.same (u := U) (U := U.calling g mk a) rfl (q4 z hz), va_Z.moved (u := U) (U := U.calling g mk a) (Vm.Alike.refl U.vm) q5, va_Zq.moved (u := U) (U := U.calling g mk a) (Vm.Alike.refl U.vm) q6, zXs.same (s := U) (U := U.calling g mk a) rfl q7, va_X.moved (u := U) (U := U.calling g mk a) (Vm.Alike.refl U.vm) q8, q9⟩
theorem zcallB {Y Y' : zY} {d d' idx n : Nat} {s : State} {args : Array Value} (h : zNm Y') (hl : Cond.methodLink Y.1.cls idx Y'.1 ∈ zT) (hts : ∀ w ∈ zT, w.before args s = true) (hn : (parseMethodDescriptor Y'.1.desc).map (fun d => d.parameters.length) = some n) (hdd : d' + 1 ≤ d) :
    CallB (zRm d Y.2.2.2.2.1) s args Y.1.cls idx Y'.1 Y'.2.1 Y'.2.2.1 Y'.2.2.2.1 (Cond.code Y'.1 Y'.2.1 Y'.2.2.1 Y'.2.2.2.1 :: zT) (zRm d' Y'.2.2.2.2.1) Y'.2.2.2.2.1 (6 * Y'.2.2.2.2.1) n := by
  obtain ⟨h1, h2, h3, h4⟩ := h
  refine ⟨rfl, rfl, by show d' + 16 + 1 ≤ d + 16; omega, by show 8 + (Y'.2.2.1 + 11) + (64 * d' + 256) ≤ 64 * d + 256; omega, ?_, List.mem_cons_self, hts _ h3, hts _ h4, h1, fun sig h => ?_, hts _ hl⟩
  · intro w hw a' U hW
    have hm : w ∈ zT := by
      rcases List.mem_cons.mp hw with e | e
      · rw [e]; exact h3
      · exact e
    exact word_at hW (good_of_word (zT_good hm)) (hts w hm)
  · rw [h] at hn
    exact (Option.some.inj hn).symm
section ZC
variable {l : Launch} {G : zG} {Y : zY} {d u pc : Nat} {lv : List (Nat × Value)} {st : List Value} {M : zM}
/-- what is behind a call -/
theorem zbehind {Y' : zY} {X1 : zO} {K : Option Value → zM → zO} {r : zR} {M' : zM} {r1 : zR} {M1 : zM} (hX1 : X1 = some (r1, M1)) (hX : zbO X1 K = some (r, M')) (hu : u + Y'.2.2.2.2.1 ≤ Y.2.2.2.2.1)
    (kk : ∀ (v : Option Value) (M1 : zM), X1 = some (.inl v, M1) → zEv l G Y d (u + Y'.2.2.2.2.1) (pc + 3) lv (v.toList ++ st) M1 (K v M1))
    {p : Program} {e : Env} {s : State} {m : MethodId} {args : Array Value} {below : List Frame} {meth : Method} {c : Code} {H : Heap} {locs : List Loc} {ls : Array Slot} {st0 : List Value} {a : Array Value}
    (C : zCx G Y p s m args meth c) (hS : va_S (zA G) s.heap H locs) (hl : lv_has ls Y.2.2.1 lv)
    (hh : Y.2.2.2.2.2 = []) (hrun : vx_Run p l e (zRm d Y.2.2.2.2.1) s m args below meth c H locs u (6 * u) Y'.2.2.2.2.1 (6 * Y'.2.2.2.2.1) (F0 m pc ls st0) st (zQc G r1 M1 a) (zXC G r1 M1) (zA G)) :
    W p l e (zRm d Y.2.2.2.2.1) s m args below meth c H locs u (6 * u) (vx_MQ below (zQc G r M') (zXC G r M') args s Y.2.2.2.2.1 (6 * Y.2.2.2.2.1) (zA G)) (F0 m pc ls st0) := by
  intro T hT X
  have em : 6 * u + 6 * Y'.2.2.2.2.1 = 6 * (u + Y'.2.2.2.2.1) := by omega
  rcases hrun T hT X with ⟨v, st₀, t, T', L, h0, X', hL, e1, e2, ⟨⟨v2, hr, hv, hP⟩, hF⟩, stp⟩ | ⟨q, st₀, t, T', L, E, ce, h0, X', hL, e1, e2, ⟨hr, hP, hF⟩, hce, hcv, hcl, stp⟩
  · cases hv
    subst hr
    rw [hX1] at hX
    obtain ⟨k1, k2, k3⟩ := vx_keep h0 e1 hS (fun _ _ h => h) (fun _ h => h) hL hF
    rw [em] at X'
    obtain ⟨t2, a1, b1⟩ := kk v M1 hX1 r M' hX p e s m args below meth c T'.heap (locs ++ L) ls C (by rw [e1]; exact hP) k3 hl T' rfl X'
    exact ⟨t2, stp t2 a1, b1⟩
  · subst hr
    rw [hX1] at hX
    have hr2 : r = .inr E := (Prod.mk.inj (Option.some.inj hX)).1.symm
    have hM2 : M' = M1 := (Prod.mk.inj (Option.some.inj hX)).2.symm
    rw [hr2, hM2]
    obtain ⟨k1, k2, k3⟩ := vx_keep h0 e1 hS (fun _ _ h => h) (fun _ h => h) hL hF
    obtain ⟨t2, a1, b1⟩ := vx_out (Qc := zQc G (.inr E) M1) (XC := zXC G (.inr E) M1) (free := zA G) (mc := Y.2.2.2.2.1) (ms := 6 * Y.2.2.2.2.1) (pc := pc) (ls := ls) (rest := st) (p := p) (l := l) (e := e) (R := zRm d Y.2.2.2.2.1) (s := s) (m := m) (args := args) (below := below) (meth := meth) (c := c) (H := T'.heap) (locs := locs ++ L) (cells := u + Y'.2.2.2.2.1) (slots := 6 * u + 6 * Y'.2.2.2.2.1) (E := E) (ce := ce) (q := q)
      (fun x hx => by rw [C.2.2.2.2.2.2.2.2.2, hh] at hx; cases hx) C.2.2.2.2.2.2.1 (by rw [e1]; exact hce) hcv hcl (fun t3 ht3 _ => ⟨rfl, by rw [ht3, e1]; exact hP, k3.F ht3⟩) k3.2.2 (by omega) (by omega) T' rfl X'
    exact ⟨t2, stp.trans a1, b1⟩
theorem ev_callVO {As : List Value} {o ci idx n d' : Nat} {Y' : zY} {X1 : zO} {K : Option Value → zM → zO} (hc : zCl Y.1.cls idx ci n Y') (hM : zMt l G Y' d' (.ref (G.2.1 + o) :: As) M X1) (hd : decode Y.2.1 pc = .ok (.invokevirtual idx, 3)) (hs : zsh o = ci) (hdd : d' + 1 ≤ d) (hu : u + Y'.2.2.2.2.1 ≤ Y.2.2.2.2.1) (hst : (st.map fun v => v.category).sum ≤ 8) (hn : As.length = n) {st0 : List Value} (h0 : st0 = As.reverse ++ .ref (G.2.1 + o) :: st)
    (kk : ∀ (v : Option Value) (M1 : zM), X1 = some (.inl v, M1) → zEv l G Y d (u + Y'.2.2.2.2.1) (pc + 3) lv (v.toList ++ st) M1 (K v M1)) (hh : Y.2.2.2.2.2 = [] := by rfl) : zEv l G Y d u pc lv st0 M (zbO X1 K) := by
  intro r M' hX p e s m args below meth c H locs ls C hP hS hl
  subst h0
  obtain ⟨hNm, w1, w2, w3, ⟨q, hq, hqc⟩, hci, hpar⟩ := hc
  cases hX1 : X1 with
  | none => rw [hX1] at hX; cases hX
  | some x =>
    obtain ⟨r1, M1⟩ := x
    refine zbehind (a := (Value.ref (G.2.1 + o) :: As).toArray) (X1 := X1) (Y' := Y') hX1 hX hu kk C hS hl hh ?_
    refine vx_runV (g := F0 m pc ls (As.reverse ++ .ref (G.2.1 + o) :: st)) (Ts := zT) (own := Y.1.cls) (nL := Y.2.2.1) (cc := Y.2.1) (C := Y'.1.cls) (index := idx) (n := n) ⟨C.1, C.2.1, C.2.2.2.1, C.2.2.2.2.1, C.2.2.2.2.2.1⟩ (hM r1 M1 hX1) ⟨zcallB hNm w1 C.2.2.2.2.2.1 hpar hdd, C.2.2.2.2.2.1 _ w2, C.2.2.2.2.2.1 _ w3⟩ ⟨zPc_blind, ?_, fun U hU hW => ⟨rfl, by rw [hU]; exact hP, va_K.moved hW.alike C.2.2.2.2.2.2.2.1, zX_next C.2.2.2.2.2.2.2.2.1 hS hW hU⟩⟩ rfl hn hl.1 rfl (lv_room hst) hd ⟨by show u + Y'.2.2.2.2.1 ≤ Y.2.2.2.2.1; exact hu, by show 6 * u + 6 * Y'.2.2.2.2.1 ≤ 6 * Y.2.2.2.2.1; omega⟩
    have hrec := va_recv C.2.2.2.2.2.2.2.1 hP hq (zws_obj hs hci)
    rw [hqc] at hrec
    exact hrec
theorem ev_callSO {As : List Value} {idx n d' : Nat} {Y' : zY} {X1 : zO} {K : Option Value → zM → zO} (hc : zCs Y.1.cls idx n Y') (hM : zMt l G Y' d' As M X1) (hd : decode Y.2.1 pc = .ok (.invokestatic idx, 3)) (hdd : d' + 1 ≤ d) (hu : u + Y'.2.2.2.2.1 ≤ Y.2.2.2.2.1) (hst : (st.map fun v => v.category).sum ≤ 8) (hn : As.length = n) {st0 : List Value} (h0 : st0 = As.reverse ++ st)
    (kk : ∀ (v : Option Value) (M1 : zM), X1 = some (.inl v, M1) → zEv l G Y d (u + Y'.2.2.2.2.1) (pc + 3) lv (v.toList ++ st) M1 (K v M1)) (hh : Y.2.2.2.2.2 = [] := by rfl) : zEv l G Y d u pc lv st0 M (zbO X1 K) := by
  intro r M' hX p e s m args below meth c H locs ls C hP hS hl
  subst h0
  obtain ⟨hNm, w1, w2, hpar⟩ := hc
  cases hX1 : X1 with
  | none => rw [hX1] at hX; cases hX
  | some x =>
    obtain ⟨r1, M1⟩ := x
    refine zbehind (a := As.toArray) (X1 := X1) (Y' := Y') hX1 hX hu kk C hS hl hh ?_
    exact vx_runS (g := F0 m pc ls (As.reverse ++ st)) (Ts := zT) (own := Y.1.cls) (nL := Y.2.2.1) (cc := Y.2.1) (index := idx) (n := n) ⟨C.1, C.2.1, C.2.2.2.1, C.2.2.2.2.1, C.2.2.2.2.2.1⟩ (hM r1 M1 hX1) ⟨zcallB hNm w1 C.2.2.2.2.2.1 hpar hdd, C.2.2.2.2.2.1 _ w2⟩ ⟨zPc_blind, fun U hU hW => ⟨rfl, by rw [hU]; exact hP, va_K.moved hW.alike C.2.2.2.2.2.2.2.1, zX_next C.2.2.2.2.2.2.2.2.1 hS hW hU⟩⟩ rfl hn hl.1 rfl (lv_room hst) hd ⟨by show u + Y'.2.2.2.2.1 ≤ Y.2.2.2.2.1; exact hu, by show 6 * u + 6 * Y'.2.2.2.2.1 ≤ 6 * Y.2.2.2.2.1; omega⟩
theorem zbI_O (x : zO) (k : Int32 → zM → zO) : zbI x k = zbO x (fun v M => match v with | some (.int r) => k r M | _ => none) := by
  unfold zbI zbO
  rcases x with _ | ⟨(_ | v) | E, M⟩ <;> try rfl
  cases v <;> rfl
theorem zbJ_O (x : zO) (k : Int64 → zM → zO) : zbJ x k = zbO x (fun v M => match v with | some (.long r) => k r M | _ => none) := by
  unfold zbJ zbO
  rcases x with _ | ⟨(_ | v) | E, M⟩ <;> try rfl
  cases v <;> rfl
theorem zbV_O (x : zO) (k : zM → zO) : zbV x k = zbO x (fun v M => match v with | none => k M | _ => none) := by
  unfold zbV zbO
  rcases x with _ | ⟨(_ | v) | E, M⟩ <;> rfl
theorem ev_callVI {As : List Value} {o ci idx n d' : Nat} {Y' : zY} {X1 : zO} {K : Int32 → zM → zO} (hc : zCl Y.1.cls idx ci n Y') (hM : zMt l G Y' d' (.ref (G.2.1 + o) :: As) M X1) (hd : decode Y.2.1 pc = .ok (.invokevirtual idx, 3)) (hs : zsh o = ci) (hdd : d' + 1 ≤ d) (hu : u + Y'.2.2.2.2.1 ≤ Y.2.2.2.2.1) (hst : (st.map fun v => v.category).sum ≤ 8) (hn : As.length = n) {st0 : List Value} (h0 : st0 = As.reverse ++ .ref (G.2.1 + o) :: st)
    (kk : ∀ (v : Int32) (M1 : zM), zEv l G Y d (u + Y'.2.2.2.2.1) (pc + 3) lv (.int v :: st) M1 (K v M1)) (hh : Y.2.2.2.2.2 = [] := by rfl) : zEv l G Y d u pc lv st0 M (zbI X1 K) := by
  rw [zbI_O]
  refine ev_callVO hc hM hd hs hdd hu hst hn h0 (fun v M1 _ => ?_) hh
  rcases v with _ | v
  · exact ev_none
  · cases v <;> first | exact ev_none | exact kk _ _
theorem ev_callVV {As : List Value} {o ci idx n d' : Nat} {Y' : zY} {X1 : zO} {K : zM → zO} (hc : zCl Y.1.cls idx ci n Y') (hM : zMt l G Y' d' (.ref (G.2.1 + o) :: As) M X1) (hd : decode Y.2.1 pc = .ok (.invokevirtual idx, 3)) (hs : zsh o = ci) (hdd : d' + 1 ≤ d) (hu : u + Y'.2.2.2.2.1 ≤ Y.2.2.2.2.1) (hst : (st.map fun v => v.category).sum ≤ 8) (hn : As.length = n) {st0 : List Value} (h0 : st0 = As.reverse ++ .ref (G.2.1 + o) :: st)
    (kk : ∀ (M1 : zM), zEv l G Y d (u + Y'.2.2.2.2.1) (pc + 3) lv st M1 (K M1)) (hh : Y.2.2.2.2.2 = [] := by rfl) : zEv l G Y d u pc lv st0 M (zbV X1 K) := by
  rw [zbV_O]
  refine ev_callVO hc hM hd hs hdd hu hst hn h0 (fun v M1 _ => ?_) hh
  rcases v with _ | v
  · exact kk _
  · exact ev_none
theorem ev_callSI {As : List Value} {idx n d' : Nat} {Y' : zY} {X1 : zO} {K : Int32 → zM → zO} (hc : zCs Y.1.cls idx n Y') (hM : zMt l G Y' d' As M X1) (hd : decode Y.2.1 pc = .ok (.invokestatic idx, 3)) (hdd : d' + 1 ≤ d) (hu : u + Y'.2.2.2.2.1 ≤ Y.2.2.2.2.1) (hst : (st.map fun v => v.category).sum ≤ 8) (hn : As.length = n) {st0 : List Value} (h0 : st0 = As.reverse ++ st)
    (kk : ∀ (v : Int32) (M1 : zM), zEv l G Y d (u + Y'.2.2.2.2.1) (pc + 3) lv (.int v :: st) M1 (K v M1)) (hh : Y.2.2.2.2.2 = [] := by rfl) : zEv l G Y d u pc lv st0 M (zbI X1 K) := by
  rw [zbI_O]
  refine ev_callSO hc hM hd hdd hu hst hn h0 (fun v M1 _ => ?_) hh
  rcases v with _ | v
  · exact ev_none
  · cases v <;> first | exact ev_none | exact kk _ _
theorem ev_callSJ {As : List Value} {idx n d' : Nat} {Y' : zY} {X1 : zO} {K : Int64 → zM → zO} (hc : zCs Y.1.cls idx n Y') (hM : zMt l G Y' d' As M X1) (hd : decode Y.2.1 pc = .ok (.invokestatic idx, 3)) (hdd : d' + 1 ≤ d) (hu : u + Y'.2.2.2.2.1 ≤ Y.2.2.2.2.1) (hst : (st.map fun v => v.category).sum ≤ 8) (hn : As.length = n) {st0 : List Value} (h0 : st0 = As.reverse ++ st)
    (kk : ∀ (v : Int64) (M1 : zM), zEv l G Y d (u + Y'.2.2.2.2.1) (pc + 3) lv (.long v :: st) M1 (K v M1)) (hh : Y.2.2.2.2.2 = [] := by rfl) : zEv l G Y d u pc lv st0 M (zbJ X1 K) := by
  rw [zbJ_O]
  refine ev_callSO hc hM hd hdd hu hst hn h0 (fun v M1 _ => ?_) hh
  rcases v with _ | v
  · exact ev_none
  · cases v <;> first | exact ev_none | exact kk _ _
theorem ev_callSV {As : List Value} {idx n d' : Nat} {Y' : zY} {X1 : zO} {K : zM → zO} (hc : zCs Y.1.cls idx n Y') (hM : zMt l G Y' d' As M X1) (hd : decode Y.2.1 pc = .ok (.invokestatic idx, 3)) (hdd : d' + 1 ≤ d) (hu : u + Y'.2.2.2.2.1 ≤ Y.2.2.2.2.1) (hst : (st.map fun v => v.category).sum ≤ 8) (hn : As.length = n) {st0 : List Value} (h0 : st0 = As.reverse ++ st)
    (kk : ∀ (M1 : zM), zEv l G Y d (u + Y'.2.2.2.2.1) (pc + 3) lv st M1 (K M1)) (hh : Y.2.2.2.2.2 = [] := by rfl) : zEv l G Y d u pc lv st0 M (zbV X1 K) := by
  rw [zbV_O]
  refine ev_callSO hc hM hd hdd hu hst hn h0 (fun v M1 _ => ?_) hh
  rcases v with _ | v
  · exact kk _
  · exact ev_none
end ZC
