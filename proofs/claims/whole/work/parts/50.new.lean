/-! THE CONSTRUCTORS: the first k cells stand, each as its fields are by now (a reference may be null still) -/
abbrev zF2 : Type := Nat → Nat → Option Nat
def rup (F : zF2) (a k o : Nat) : zF2 := fun i j => if i = a ∧ j = k then some o else F i j
def zfn (b : Nat) (row : Nat → Int32) (rr : Nat → Option Nat) (c k : Nat) : Value := if zfk c k = 0 then .int (row k) else if zfk c k = 1 then (match rr k with | some o => .ref (b + o) | none => .null) else .long (zmk (row k) (row (k + 1000)))
def zcn (G : zG) (row : Nat → Int32) (rr : Nat → Option Nat) (i : Nat) : va_E :=
  if zsh i < 13 then .inr (zsh i, (List.range (znf (zsh i))).map (zfn G.2.1 row rr (zsh i)))
  else .inl (G.2.2.1 (zsh i), (zal i, if zsh i = 23 then .inr (.inl (fun j => zmk (row (2 * j)) (row (2 * j + 1)))) else .inl row))
def zwn (G : zG) (k : Nat) (M : zM) (F : zF2) : va_W := (List.range k).map (fun i => (G.2.1 + i, zcn G (M i) (F i) i))
def zfrM (k : Nat) (M : zM) : Prop := ∀ i, k ≤ i → M i = fun _ => 0
def zfrF (k : Nat) (F : zF2) : Prop := ∀ i, k ≤ i → F i = fun _ => none
theorem zfrM_up {k a j : Nat} {M : zM} {v : Int32} (h : zfrM k M) (ha : a < k) : zfrM k (zup M a j v) := fun i hi => by rw [zup_ne (by omega)]; exact h i hi
theorem rup_ne {F : zF2} {a k j o : Nat} (h : j ≠ a) : rup F a k o j = F j := by
  funext i
  simp [rup, h]
theorem zfrF_up {k a j o : Nat} {F : zF2} (h : zfrF k F) (ha : a < k) : zfrF k (rup F a j o) := fun i hi => by rw [rup_ne (by omega)]; exact h i hi
theorem zfrM_le {k k' : Nat} {M : zM} (h : zfrM k M) (hk : k ≤ k') : zfrM k' M := fun i hi => h i (by omega)
theorem zfrF_le {k k' : Nat} {F : zF2} (h : zfrF k F) (hk : k ≤ k') : zfrF k' F := fun i hi => h i (by omega)
theorem zwn_D (G : zG) (k : Nat) (M : zM) (F : zF2) : va_D (zA G) (zwn G k M F) := by
  refine ⟨fun i j p q hp hq he => ?_, fun k q hq => ?_⟩
  · have h1 := congrArg Prod.fst (zr_inv hp)
    have h2 := congrArg Prod.fst (zr_inv hq)
    dsimp only at h1 h2
    omega
  · have h1 := congrArg Prod.fst (zr_inv hq)
    dsimp only at h1
    show G.2.1 ≤ q.1
    omega
theorem zwn_succ (G : zG) (k : Nat) (M : zM) (F : zF2) : zwn G (k + 1) M F = zwn G k M F ++ [(G.2.1 + k, zcn G (M k) (F k) k)] := by
  unfold zwn
  rw [List.range_succ, List.map_append]
  rfl
theorem zcn_obj {G : zG} {row : Nat → Int32} {rr : Nat → Option Nat} {i c : Nat} (h : zsh i = c) (hc : c < 13) : zcn G row rr i = .inr (c, (List.range (znf c)).map (zfn G.2.1 row rr c)) := by
  unfold zcn
  rw [h, if_pos hc]
def zNl : List (String × Nat × MethodName) := [("BarterIsles", 9, ⟨"BarterIsles$Tape", "<init>", "()V"⟩), ("BarterIsles", 18, ⟨"BarterIsles$Sea", "<init>", "()V"⟩), ("BarterIsles$Sea", 27, ⟨"BarterIsles$Words", "<init>", "()V"⟩), ("BarterIsles$Sea", 34, ⟨"BarterIsles$Law", "<init>", "()V"⟩), ("BarterIsles", 52, ⟨"BarterIsles$Records", "<init>", "()V"⟩)]
def zNs (U : State) : Prop := ∀ q ∈ zNl, va_Nw (.methodLinkNest q.1 q.2.1 q.2.2 "BarterIsles") U
theorem zNs.warm {s U : State} (hW : s.WarmedH U.vm) (h : zNs s) : zNs U := fun q hq => (h q hq).warmM hW
theorem zNs.same {s U : State} (hv : s.vm = U.vm) (h : zNs s) : zNs U := fun q hq => (h q hq).same rfl hv
/-- what holds in a constructor's body -/
def zCn (G : zG) (Y : zY) (p : Program) (s : State) (m : MethodId) (args : Array Value) (meth : Method) (c : Code) : Prop :=
  p.tables.exec = Jvm.exec ∧ c.code = Y.2.1 ∧ meth.sig.returnType = Y.2.2.2.1 ∧ c.maxLocals = Y.2.2.1 ∧ s.vm.findClass Y.1.cls = some m.cls ∧ (∀ w ∈ zT, w.before args s = true) ∧ meth.locks = false ∧ va_K G.1 vwCl (ztys G) s ∧ zNs s ∧ G.2.1 ≤ s.heap.size
def zRn (d mc ms : Nat) : Room := { frames := d + 16, cells := mc, slots := ms, locals := 64 * d + 256 }
def zPn (G : zG) (As : List Value) (k : Nat) (M : zM) (F : zF2) : Array Value → State → Prop := va_Pc As (fun U => U.heap.size = G.2.1 + k ∧ va_P G.1 vwCl (zwn G k M F) U.heap ∧ va_K G.1 vwCl (ztys G) U ∧ zNs U)
def zQn (G : zG) (k : Nat) (M : zM) (F : zF2) : Array Value → State → Outcome → State → Prop := fun _ st oc t => oc = .returned none ∧ t.heap.size = G.2.1 + k ∧ va_P G.1 vwCl (zwn G k M F) t.heap ∧ va_F (zA G) st t
def zMn (l : Launch) (G : zG) (Y : zY) (d mc ms : Nat) (As : List Value) (k : Nat) (M : zM) (F : zF2) (k' : Nat) (M' : zM) (F' : zF2) : Prop :=
  Met l Y.1 (Cond.code Y.1 Y.2.1 Y.2.2.1 Y.2.2.2.1 :: zT) (zRn d mc ms) (zPn G As k M F) (zQn G k' M' F') mc ms (zA G)
section ZN
variable {p : Program} {l : Launch} {e : Env} {R : Room} {s : State} {m : MethodId} {args : Array Value} {below : List Frame} {meth : Method} {c : Code} {H : Heap} {locs : List Loc} {cells slots : Nat} {Q : State → Prop} {pc : Nat} {ls : Array Slot} {rest : List Value}
variable {G : zG} {Y : zY} {k : Nat} {M : zM} {F : zF2}
/-- new -/
theorem en_new {idx ci N : Nat} {Cn : String} {T : u_T} (ty : Nat → FieldType) (C : zCn G Y p s m args meth c) (hsz : H.size = G.2.1 + k) (hP : va_P G.1 vwCl (zwn G k M F) H) (hS : va_S (zA G) s.heap H locs) (hM : zfrM k M) (hF : zfrF k F)
    (hc : vwCl[ci]? = some (Cn, T, N)) (hin : ∀ w ∈ u_ws Cn T N, w ∈ zT) (hty : ∀ j, j < N → parseFieldDescriptor (T j).2.2.1 = some (ty j)) (hl : Cond.classLink Y.1.cls idx Cn ∈ zT) (hi : Cond.instantiable Cn N ∈ zT) (hn : Cond.initialized Cn ∈ zT)
    (hs : zsh k = ci) (hci : ci < 13) (hN : znf ci = N) (hdf : ∀ j, j < N → defaultValue (ty j) = zfn G.2.1 (fun _ => 0) (fun _ => none) ci j) (hcells : cells + 1 ≤ R.cells) (hslots : slots + N ≤ R.slots) (hd : decode Y.2.1 pc = .ok (.new idx, 3))
    (kk : ∀ H1 : Heap, H1.size = G.2.1 + (k + 1) → va_P G.1 vwCl (zwn G (k + 1) M F) H1 → va_S (zA G) s.heap H1 locs → W p l e R s m args below meth c H1 locs (cells + 1) (slots + N) Q (F0 m (pc + 3) ls (.ref (G.2.1 + k) :: rest))) : W p l e R s m args below meth c H locs cells slots Q (F0 m pc ls rest) := by
  have hKn := C.2.2.2.2.2.2.2.1.1 ci _ hc
  refine W.newcK C.1 C.2.1 C.2.2.2.2.1 (C.2.2.2.2.2.1 _ hl) (C.2.2.2.2.2.1 _ hi) (C.2.2.2.2.2.1 _ hn) rfl hd hcells hslots hKn.2.1 hsz fun H1 kC hkC e1 z1 o1 => ?_
  refine kk H1 (by rw [z1]; omega) ?_ ⟨Nat.le_trans hS.1 (by rw [z1, ← hsz]; omega), fun x h1 h2 => (o1 x (by rw [← hsz]; exact Nat.lt_of_lt_of_le h1 hS.1)).trans (hS.2.1 x h1 h2), hS.2.2⟩
  rw [zwn_succ]
  refine (hP.kept (fun j x hx => o1 x.1 (by rw [← hsz]; exact (hP j x hx).lt))).app (fun j x hx => ?_)
  have hz : j < 1 := (List.getElem?_eq_some_iff.mp hx).1
  rw [show j = 0 by omega] at hx
  cases hx
  rw [zcn_obj hs hci, hM k (Nat.le_refl k), hF k (Nat.le_refl k)]
  refine ⟨_, hc, (u_born ty C.2.2.2.2.2.1 hin hKn hkC e1 hty).to (fun j hj => ?_)⟩
  rw [hdf j hj]
  show _ = ((List.range (znf ci)).map (zfn G.2.1 (fun _ => 0) (fun _ => none) ci)).getD j .null
  rw [List.getD_eq_getElem?_getD, zr_get (by rw [hN]; exact hj)]
  rfl
/-- newarray -/
theorem en_newa {atype : ArrayType} {ty : FieldType} {n : Int32} {N sh : Nat} (C : zCn G Y p s m args meth c) (hsz : H.size = G.2.1 + k) (hP : va_P G.1 vwCl (zwn G k M F) H) (hS : va_S (zA G) s.heap H locs) (hM : zfrM k M) (ht : newarray.typeOf atype = ty)
    (hw : Cond.arrayClass ty ∈ zT) (hs : zsh k = sh) (hN : zal k = N) (h13 : ¬ sh < 13) (hprim : refKind ty = false) (hty : ∃ t0 : Nat, (ztys G)[t0]? = some (G.2.2.1 sh, ty)) (hra : va_RA s (G.2.2.1 sh) ty → s.vm.findClass ("[" ++ ty.toString) = some (G.2.2.1 sh))
    (hcell : ∀ cA : ClassId, vp_cell cA (N, if sh = 23 then .inr (.inl (fun _ => zmk 0 0)) else .inl (fun _ => 0)) = arrV cA N (fun _ => defaultValue ty)) (hn : ¬ n < 0) (hnN : n.toNatClampNeg = N) (hbytes : N * componentBytes ty ≤ 536870912) (hcells : cells + 1 ≤ R.cells) (hslots : slots + N ≤ R.slots) (hd : decode Y.2.1 pc = .ok (.newarray atype, 2))
    (kk : ∀ H1 : Heap, H1.size = G.2.1 + (k + 1) → va_P G.1 vwCl (zwn G (k + 1) M F) H1 → va_S (zA G) s.heap H1 locs → W p l e R s m args below meth c H1 locs (cells + 1) (slots + N) Q (F0 m (pc + 2) ls (.ref (G.2.1 + k) :: rest))) : W p l e R s m args below meth c H locs cells slots Q (F0 m pc ls (.int n :: rest)) := by
  subst ht
  refine va_newaK C.1 C.2.1 (C.2.2.2.2.2.1 _ hw) rfl hd rfl hn hnN hbytes hcells hslots hsz fun H1 cA e1 z1 o1 hAr hNm => ?_
  refine kk H1 (by rw [z1]; omega) ?_ ⟨Nat.le_trans hS.1 (by rw [z1, ← hsz]; omega), fun x h1 h2 => (o1 x (by rw [← hsz]; exact Nat.lt_of_lt_of_le h1 hS.1)).trans (hS.2.1 x h1 h2), hS.2.2⟩
  rw [zwn_succ]
  refine (hP.kept (fun j x hx => o1 x.1 (by rw [← hsz]; exact (hP j x hx).lt))).app (fun j x hx => ?_)
  have hz : j < 1 := (List.getElem?_eq_some_iff.mp hx).1
  rw [show j = 0 by omega] at hx
  cases hx
  obtain ⟨t0, ht0⟩ := hty
  have hcA : cA = G.2.2.1 sh := by
    have h2 := hra (C.2.2.2.2.2.2.2.1.2 t0 _ ht0).2
    exact Option.some.inj (hNm.symm.trans h2)
  subst hcA
  show va_at G.1 vwCl (G.2.1 + k, zcn G (M k) (F k) k) H1
  unfold zcn
  rw [hs, if_neg h13, hN, hM k (Nat.le_refl k)]
  show H1[G.2.1 + k]? = some (vp_cell _ _)
  rw [e1, ← hcell]
theorem zwn_get {o : Nat} (h : o < k) : (zwn G k M F)[o]? = some (G.2.1 + o, zcn G (M o) (F o) o) := zr_get h
theorem zwn_set {M' : zM} {F' : zF2} {o : Nat} {E : va_E} (hE : zcn G (M' o) (F' o) o = E) (ho : ∀ j, j ≠ o → M' j = M j ∧ F' j = F j) : (zwn G k M F).set o (G.2.1 + o, E) = zwn G k M' F' :=
  zr_set (f := fun i => (G.2.1 + i, zcn G (M i) (F i) i)) (g := fun i => (G.2.1 + i, zcn G (M' i) (F' i) i)) (by rw [hE]) (fun j hj => by rw [(ho j hj).1, (ho j hj).2])
/-- a field, not final; after the kit's row, with the heap's size -/
theorem en_put0 {idx ci j o : Nat} {ty : FieldType} {v : Value} {M' : zM} {F' : zF2} (C : zCn G Y p s m args meth c) (hsz : H.size = G.2.1 + k) (hP : va_P G.1 vwCl (zwn G k M F) H) (hS0 : va_S (zA G) s.heap H locs) (hf : zFw Y.1.cls idx ci j ty) (hok : o < k) (hs : zsh o = ci) (hn : narrow ty v = v) (hfit : fits ty v = true) (hd : decode Y.2.1 pc = .ok (.putfield idx, 3))
    (hset : (zwn G k M F).set o (G.2.1 + o, .inr (ci, ((List.range (znf ci)).map (zfn G.2.1 (M o) (F o) ci)).set j v)) = zwn G k M' F')
    (kk : ∀ (H1 : Heap) (locs1 : List Loc), H1.size = G.2.1 + k → va_P G.1 vwCl (zwn G k M' F') H1 → va_S (zA G) s.heap H1 locs1 → W p l e R s m args below meth c H1 locs1 cells slots Q (F0 m (pc + 3) ls rest)) : W p l e R s m args below meth c H locs cells slots Q (F0 m pc ls (v :: .ref (G.2.1 + o) :: rest)) := by
  obtain ⟨⟨Cn, T, N, ty0, hc, hin, hk, hlw, hty, hnm, hdd, hci, hzn, -⟩, hfinq⟩ := hf
  have hts := C.2.2.2.2.2.1
  have hown := C.2.2.2.2.1
  have hK := C.2.2.2.2.2.2.2.1
  have hfin := hfinq _ hc
  have hap := va_apart (own := Y.1.cls) hts hin ty0 hty hnm hK hc
  have he : (zwn G k M F)[o]? = some (G.2.1 + o, .inr (ci, (List.range (znf ci)).map (zfn G.2.1 (M o) (F o) ci))) := by rw [zwn_get hok, zcn_obj hs hci]
  obtain ⟨r, h1, cell, q1, q2, q3, q4⟩ := hP o _ he
  have hr : r = (Cn, T, N) := Option.some.inj (h1.symm.trans hc)
  subst hr
  obtain ⟨hSl, hfc, kC, hkC, hkind⟩ := hK.1 ci _ hc
  obtain ⟨cf, kf, fi, f, hi, hsl⟩ := hSl j hk
  have hlay := hts _ (hin _ (u_in_lay hk))
  unfold u_lay at hlay
  rw [if_neg (by rw [hfin]; decide)] at hlay
  have hst := (u_facts hfc hkC (u_lays hts hin hk) hi).1
  have h6 := u_store hfc hkC hkind hlay hi hdd hn hfit
  refine W.putK C.1 C.2.1 (f := f) ⟨hown, hts _ hlw, ⟨_, _, _, hi⟩, hst⟩ (by rw [q2]; exact h6) q1 q3 (by rw [hsl]; exact k2_hasslot (q4 j hk)) rfl rfl hd fun H' e1 e2 e3 => ?_
  rw [hsl] at e1 ⊢
  have hl : j < ((List.range (znf ci)).map (zfn G.2.1 (M o) (F o) ci)).length := by rw [List.length_map, List.length_range, hzn]; exact hk
  have hP1 := hP.set (e := .inr (ci, ((List.range (znf ci)).map (zfn G.2.1 (M o) (F o) ci)).set j v)) (H1 := H') (zwn_D G k M F) he ⟨_, hc, t_OB.to (V := updV (vp_V ((List.range (znf ci)).map (zfn G.2.1 (M o) (F o) ci))) j v) ⟨_, e1, q2, q3, t_set q4 hap hk v⟩ (fun z _ => vp_updV_set hl v z)⟩ e3
  rw [hset] at hP1
  exact kk H' _ (by rw [e2]; exact hsz) hP1 (hS0.put e2 e3 ((zwn_D G k M F).2 o _ he))
theorem en_putI {idx ci j o : Nat} {v : Int32} {ty : FieldType} (C : zCn G Y p s m args meth c) (hsz : H.size = G.2.1 + k) (hP : va_P G.1 vwCl (zwn G k M F) H) (hS : va_S (zA G) s.heap H locs) (hf : zFw Y.1.cls idx ci j ty) (hok : o < k) (hs : zsh o = ci) (h0 : zfk ci j = 0) (hn : narrow ty (.int v) = .int v) (hfit : fits ty (.int v) = true) (hd : decode Y.2.1 pc = .ok (.putfield idx, 3))
    (kk : ∀ (H1 : Heap) (locs1 : List Loc), H1.size = G.2.1 + k → va_P G.1 vwCl (zwn G k (zup M o j v) F) H1 → va_S (zA G) s.heap H1 locs1 → W p l e R s m args below meth c H1 locs1 cells slots Q (F0 m (pc + 3) ls rest)) : W p l e R s m args below meth c H locs cells slots Q (F0 m pc ls (.int v :: .ref (G.2.1 + o) :: rest)) := by
  have h8 : ci < 13 := by obtain ⟨⟨_, _, _, _, _, _, _, _, _, _, _, h, _⟩, _⟩ := hf; exact h
  have h9 : j < 1000 := by obtain ⟨⟨_, _, N, _, _, _, h3, _, _, _, _, _, h5, h6⟩, _⟩ := hf; omega
  refine en_put0 C hsz hP hS hf hok hs hn hfit hd (zwn_set ?_ (fun z hz => ⟨zup_ne hz, rfl⟩)) kk
  rw [zcn_obj hs h8, zup_row]
  congr 2
  symm
  refine zr_set ?_ (fun z hz => ?_)
  · unfold zfn
    rw [if_pos h0, pk_us]
  · unfold zfn
    rw [pk_un hz]
    by_cases h2 : zfk ci z = 0
    · rw [if_pos h2, if_pos h2]
    · by_cases h3 : zfk ci z = 1
      · rw [if_neg h2, if_pos h3, if_neg h2, if_pos h3]
      · rw [pk_un (show z + 1000 ≠ j by omega)]
/-- a final field, in its constructor: a reference to a cell -/
theorem en_putR {idx ci j o q : Nat} {ty : FieldType} (C : zCn G Y p s m args meth c) (hnam : meth.name = "<init>") (hsz : H.size = G.2.1 + k) (hP : va_P G.1 vwCl (zwn G k M F) H) (hS0 : va_S (zA G) s.heap H locs) (hf : zFd Y.1.cls idx ci j ty) (hfinq : ∀ q : vw_C, vwCl[ci]? = some q → (q.2.1 j).2.2.2 = true ∧ (q.2.1 j).1 = Y.1.cls) (hok : o < k) (hs : zsh o = ci) (h0 : zfk ci j = 1) (hn : narrow ty (.ref (G.2.1 + q)) = .ref (G.2.1 + q)) (hfit : fits ty (.ref (G.2.1 + q)) = true) (hd : decode Y.2.1 pc = .ok (.putfield idx, 3))
    (kk : ∀ (H1 : Heap) (locs1 : List Loc), H1.size = G.2.1 + k → va_P G.1 vwCl (zwn G k M (rup F o j q)) H1 → va_S (zA G) s.heap H1 locs1 → W p l e R s m args below meth c H1 locs1 cells slots Q (F0 m (pc + 3) ls rest)) : W p l e R s m args below meth c H locs cells slots Q (F0 m pc ls (.ref (G.2.1 + q) :: .ref (G.2.1 + o) :: rest)) := by
  obtain ⟨Cn, T, N, ty0, hc, hin, hk, hlw, hty, hnm, hdd, hci, hzn, -⟩ := hf
  have hts := C.2.2.2.2.2.1
  have hown := C.2.2.2.2.1
  have hK := C.2.2.2.2.2.2.2.1
  obtain ⟨hfin, hdecl⟩ := hfinq _ hc
  have hap := va_apart (own := Y.1.cls) hts hin ty0 hty hnm hK hc
  have he : (zwn G k M F)[o]? = some (G.2.1 + o, .inr (ci, (List.range (znf ci)).map (zfn G.2.1 (M o) (F o) ci))) := by rw [zwn_get hok, zcn_obj hs hci]
  obtain ⟨r, h1, cell, q1, q2, q3, q4⟩ := hP o _ he
  have hr : r = (Cn, T, N) := Option.some.inj (h1.symm.trans hc)
  subst hr
  obtain ⟨hSl, hfc, kC, hkC, hkind⟩ := hK.1 ci _ hc
  obtain ⟨cf, kf, fi, f, hi, hsl⟩ := hSl j hk
  have hlay := hts _ (hin _ (u_in_lay hk))
  unfold u_lay at hlay
  rw [if_pos hfin] at hlay
  have hst := (u_facts hfc hkC (u_lays hts hin hk) hi).1
  have hcf : m.cls = cf := by
    obtain ⟨_, _, c', _, _, _, -, -, hf', -, -, -, hown2, -⟩ := Cond.laysFinal_spec hlay
    have e1 : c' = cf := by have := hi.symm.trans hf'; simp at this; exact this.1.symm
    rw [hdecl] at hown2
    rw [← e1]; exact Option.some.inj (hown.symm.trans hown2)
  have h6 := u_fits hfc hkC hkind (Or.inr hlay) hi hdd hn hfit
  refine W.putFinK C.1 C.2.1 hown (hts _ hlw) hi hst hcf hnam (by rw [q2]; exact h6) q1 q3 (by rw [hsl]; exact k2_hasslot (q4 j hk)) rfl rfl hd fun H' e1 e2 e3 => ?_
  rw [hsl] at e1 ⊢
  have hl : j < ((List.range (znf ci)).map (zfn G.2.1 (M o) (F o) ci)).length := by rw [List.length_map, List.length_range, hzn]; exact hk
  have hP1 := hP.set (e := .inr (ci, ((List.range (znf ci)).map (zfn G.2.1 (M o) (F o) ci)).set j (.ref (G.2.1 + q)))) (H1 := H') (zwn_D G k M F) he ⟨_, hc, t_OB.to (V := updV (vp_V ((List.range (znf ci)).map (zfn G.2.1 (M o) (F o) ci))) j (.ref (G.2.1 + q))) ⟨_, e1, q2, q3, t_set q4 hap hk _⟩ (fun z _ => vp_updV_set hl _ z)⟩ e3
  have hset : (zwn G k M F).set o (G.2.1 + o, .inr (ci, ((List.range (znf ci)).map (zfn G.2.1 (M o) (F o) ci)).set j (.ref (G.2.1 + q)))) = zwn G k M (rup F o j q) := by
    refine zwn_set ?_ (fun z hz => ⟨rfl, rup_ne hz⟩)
    rw [zcn_obj hs hci]
    congr 2
    symm
    refine zr_set ?_ (fun z hz => ?_)
    · unfold zfn
      rw [if_neg (by rw [h0]; decide), if_pos h0]
      simp [rup]
    · unfold zfn
      have e9 : rup F o j q o z = F o z := by simp [rup, hz]
      rw [e9]
  rw [hset] at hP1
  exact kk H' _ (by rw [e2]; exact hsz) hP1 (hS0.put e2 e3 ((zwn_D G k M F).2 o _ he))
theorem en_getR {idx ci j o q : Nat} {ty : FieldType} (C : zCn G Y p s m args meth c) (hP : va_P G.1 vwCl (zwn G k M F) H) (hf : zFd Y.1.cls idx ci j ty) (hok : o < k) (hs : zsh o = ci) (h0 : zfk ci j = 1) (hq : F o j = some q) (hd : decode Y.2.1 pc = .ok (.getfield idx, 3))
    (kk : W p l e R s m args below meth c H locs cells slots Q (F0 m (pc + 3) ls (.ref (G.2.1 + q) :: rest))) : W p l e R s m args below meth c H locs cells slots Q (F0 m pc ls (.ref (G.2.1 + o) :: rest)) := by
  obtain ⟨Cn, T, N, ty0, h1, h2, h3, h4, -, -, -, h8, h9, -⟩ := hf
  have he : (zwn G k M F)[o]? = some (G.2.1 + o, .inr (ci, (List.range (znf ci)).map (zfn G.2.1 (M o) (F o) ci))) := by rw [zwn_get hok, zcn_obj hs h8]
  refine va_get (D := G.1) (ci := ci) (C := Cn) (T := T) (N := N) (v := .ref (G.2.1 + q)) C.1 C.2.1 C.2.2.2.2.2.1 h2 C.2.2.2.2.1 C.2.2.2.2.2.2.2.1 hP o he h1 j h3 (C.2.2.2.2.2.1 _ h4) (fun _ h => h) ?_ hd kk
  rw [zr_get (by rw [h9]; exact h3)]
  unfold zfn
  rw [if_neg (by rw [h0]; decide), if_pos h0, hq]
/-- Object's constructor -/
theorem en_obj {idx o : Nat} (C : zCn G Y p s m args meth c) (hw : Cond.methodLink Y.1.cls idx Lib.objectInit ∈ zT) (hw2 : Cond.instanceMethod Lib.objectInit ∈ zT) (hw3 : Cond.code Lib.objectInit ⟨#[0xb1]⟩ 1 none ∈ zT) (hl : ls.size = c.maxLocals) (hf : 1 ≤ R.frames) (hlo : 64 ≤ R.locals) (hst : (rest.map fun v => v.category).sum ≤ 8) (hd : decode Y.2.1 pc = .ok (.invokespecial idx, 3))
    (kk : W p l e R s m args below meth c H locs cells slots Q (F0 m (pc + 3) ls rest)) : W p l e R s m args below meth c H locs cells slots Q (F0 m pc ls (.ref (G.2.1 + o) :: rest)) := by
  refine W.objInit C.1 C.2.1 C.2.2.2.2.1 (C.2.2.2.2.2.1 _ hw) (C.2.2.2.2.2.1 _ hw2) (C.2.2.2.2.2.1 _ hw3) rfl hl rfl hd hf ?_ kk
  have h1 : 2 * (F0 m pc ls (Value.ref (G.2.1 + o) :: rest)).monitorRoom = 0 := rfl
  omega
theorem zPn_blind {As : List Value} : FrameBlind (zPn G As k M F) := by
  intro a U g mk q
  obtain ⟨q0, qz, qP, qK, qN⟩ := q
  exact ⟨q0, qz, qP, va_K.moved (u := U) (U := U.calling g mk a) (Vm.Alike.refl U.vm) qK, zNs.same (s := U) (U := U.calling g mk a) rfl qN⟩
theorem en_ret {mc ms k9 : Nat} {M9 : zM} {F9 : zF2} (C : zCn G Y p s m args meth c) (hr : Y.2.2.2.1 = none) (hd : decode Y.2.1 pc = .ok (.return_, 1)) (hsz : H.size = G.2.1 + k) (hP : va_P G.1 vwCl (zwn G k M F) H) (hS : va_S (zA G) s.heap H locs) (hk9 : k = k9) (hM9 : M = M9) (hF9 : F = F9) : W p l e R s m args below meth c H locs mc ms (MQ below (zQn G k9 M9 F9) args s mc ms (zA G)) (F0 m pc ls []) := by
  subst hk9; subst hM9; subst hF9
  exact W.vret C.1 C.2.1 (C.2.2.1.trans hr) (fun t ht hW => ⟨rfl, by rw [ht]; exact hsz, by rw [ht]; exact hP, hS.F ht⟩) hS.2.2 hd C.2.2.2.2.2.2.1
/-- a call of a constructor; by its own link, by its nest's -/
theorem en_after {mc ms k9 : Nat} {M9 : zM} {F9 : zF2} {a : Array Value} {st0 : List Value} (hS : va_S (zA G) s.heap H locs) (hrun : va_Run p l e R s m args below meth c H locs cells slots mc ms (F0 m pc ls st0) rest (zQn G k9 M9 F9 a) (zA G))
    (kk : ∀ (H1 : Heap) (locs1 : List Loc), H1.size = G.2.1 + k9 → va_P G.1 vwCl (zwn G k9 M9 F9) H1 → va_S (zA G) s.heap H1 locs1 → W p l e R s m args below meth c H1 locs1 (cells + mc) (slots + ms) Q (F0 m (pc + 3) ls rest)) : W p l e R s m args below meth c H locs cells slots Q (F0 m pc ls st0) := by
  intro T hT X
  obtain ⟨v, st₀, t, T', L, h0, X', hL, e1, e2, ⟨hv, hz, hP1, hF⟩, stp⟩ := hrun T hT X
  cases hv
  obtain ⟨k1, k2, k3⟩ := vx_keep h0 e1 hS (fun _ _ h => h) (fun _ h => h) hL hF
  obtain ⟨t2, a1, b1⟩ := kk T'.heap (locs ++ L) (by rw [e1]; exact hz) (by rw [e1]; exact hP1) k3 T' rfl X'
  exact ⟨t2, stp t2 a1, b1⟩
theorem en_callI {As : List Value} {idx n d' mc ms k9 o : Nat} {Y' : zY} {M9 : zM} {F9 : zF2} (C : zCn G Y p s m args meth c) (hsz : H.size = G.2.1 + k) (hP : va_P G.1 vwCl (zwn G k M F) H) (hS : va_S (zA G) s.heap H locs) (hl : ls.size = Y.2.2.1) (hM : zMn l G Y' d' mc ms (.ref (G.2.1 + o) :: As) k M F k9 M9 F9)
    (hNm : zNm Y') (hr : Y'.2.2.2.1 = none) (hnm : Y'.1.name = "<init>") (hlk : Cond.methodLink Y.1.cls idx Y'.1 ∈ zT) (hin : Cond.instanceMethod Y'.1 ∈ zT) (hpar : (parseMethodDescriptor Y'.1.desc).map (fun d => d.parameters.length) = some n) (hR : d' + 17 ≤ R.frames ∧ 64 * d' + 320 ≤ R.locals) (hcs : cells + mc ≤ R.cells ∧ slots + ms ≤ R.slots) (hst : (rest.map fun v => v.category).sum ≤ 8) (hn : As.length = n) (hd : decode Y.2.1 pc = .ok (.invokespecial idx, 3)) {st0 : List Value} (h0 : st0 = As.reverse ++ .ref (G.2.1 + o) :: rest)
    (kk : ∀ (H1 : Heap) (locs1 : List Loc), H1.size = G.2.1 + k9 → va_P G.1 vwCl (zwn G k9 M9 F9) H1 → va_S (zA G) s.heap H1 locs1 → W p l e R s m args below meth c H1 locs1 (cells + mc) (slots + ms) Q (F0 m (pc + 3) ls rest)) : W p l e R s m args below meth c H locs cells slots Q (F0 m pc ls st0) := by
  subst h0
  obtain ⟨n1, n2, n3, n4⟩ := hNm
  rw [hr] at n3
  refine en_after hS ?_ kk (a := (Value.ref (G.2.1 + o) :: As).toArray)
  unfold zMn at hM
  rw [hr] at hM
  refine va_runI (g := F0 m pc ls (As.reverse ++ .ref (G.2.1 + o) :: rest)) (Ts := zT) (own := Y.1.cls) (nL := Y.2.2.1) (cc := Y.2.1) (index := idx) (n := n) (maxL := Y'.2.2.1) (bytes := Y'.2.1) ⟨C.1, C.2.1, C.2.2.2.1, C.2.2.2.2.1, C.2.2.2.2.2.1⟩ hM ⟨⟨rfl, rfl, ?_, ?_, ?_, List.mem_cons_self, C.2.2.2.2.2.1 _ n3, C.2.2.2.2.2.1 _ n4, n1, fun sig hsig => ?_, C.2.2.2.2.2.1 _ hlk⟩, hnm, C.2.2.2.2.2.1 _ hin⟩ ⟨zPn_blind, fun U hU hW => ⟨rfl, by rw [hU]; exact hsz, by rw [hU]; exact hP, va_K.moved hW.alike C.2.2.2.2.2.2.2.1, C.2.2.2.2.2.2.2.2.1.warm hW⟩⟩ rfl hn hl rfl (lv_room hst) hd hcs
  · show d' + 16 + 1 ≤ R.frames
    omega
  · show 8 + (Y'.2.2.1 + 11) + (64 * d' + 256) ≤ R.locals
    omega
  · intro w hw a' U hW
    have hm : w ∈ zT := by
      rcases List.mem_cons.mp hw with e | e
      · rw [e]; exact n3
      · exact e
    exact word_at hW (good_of_word (zT_good hm)) (C.2.2.2.2.2.1 w hm)
  · rw [hsig] at hpar
    exact (Option.some.inj hpar).symm
theorem en_callN {As : List Value} {idx n d' mc ms k9 o : Nat} {Y' : zY} {M9 : zM} {F9 : zF2} (C : zCn G Y p s m args meth c) (hsz : H.size = G.2.1 + k) (hP : va_P G.1 vwCl (zwn G k M F) H) (hS : va_S (zA G) s.heap H locs) (hl : ls.size = Y.2.2.1) (hM : zMn l G Y' d' mc ms (.ref (G.2.1 + o) :: As) k M F k9 M9 F9)
    (hNm : zNm Y') (hr : Y'.2.2.2.1 = none) (hnm : Y'.1.name = "<init>") (hlk : (Y.1.cls, idx, Y'.1) ∈ zNl) (hin : Cond.instanceMethod Y'.1 ∈ zT) (hpar : (parseMethodDescriptor Y'.1.desc).map (fun d => d.parameters.length) = some n) (hR : d' + 17 ≤ R.frames ∧ 64 * d' + 320 ≤ R.locals) (hcs : cells + mc ≤ R.cells ∧ slots + ms ≤ R.slots) (hst : (rest.map fun v => v.category).sum ≤ 8) (hn : As.length = n) (hd : decode Y.2.1 pc = .ok (.invokespecial idx, 3)) {st0 : List Value} (h0 : st0 = As.reverse ++ .ref (G.2.1 + o) :: rest)
    (kk : ∀ (H1 : Heap) (locs1 : List Loc), H1.size = G.2.1 + k9 → va_P G.1 vwCl (zwn G k9 M9 F9) H1 → va_S (zA G) s.heap H1 locs1 → W p l e R s m args below meth c H1 locs1 (cells + mc) (slots + ms) Q (F0 m (pc + 3) ls rest)) : W p l e R s m args below meth c H locs cells slots Q (F0 m pc ls st0) := by
  subst h0
  obtain ⟨n1, n2, n3, n4⟩ := hNm
  rw [hr] at n3
  refine en_after hS ?_ kk (a := (Value.ref (G.2.1 + o) :: As).toArray)
  unfold zMn at hM
  rw [hr] at hM
  refine va_runIN (host := "BarterIsles") (g := F0 m pc ls (As.reverse ++ .ref (G.2.1 + o) :: rest)) (Ts := zT) (own := Y.1.cls) (nL := Y.2.2.1) (cc := Y.2.1) (index := idx) (n := n) (maxL := Y'.2.2.1) (bytes := Y'.2.1) ⟨C.1, C.2.1, C.2.2.2.1, C.2.2.2.2.1, C.2.2.2.2.2.1⟩ hM ⟨⟨⟨rfl, rfl, ?_, ?_, ?_, List.mem_cons_self⟩, C.2.2.2.2.2.1 _ n3, C.2.2.2.2.2.1 _ n4, n1, fun sig hsig => ?_, (C.2.2.2.2.2.2.2.2.1 _ hlk).use rfl⟩, hnm, C.2.2.2.2.2.1 _ hin⟩ ⟨zPn_blind, fun U hU hW => ⟨rfl, by rw [hU]; exact hsz, by rw [hU]; exact hP, va_K.moved hW.alike C.2.2.2.2.2.2.2.1, C.2.2.2.2.2.2.2.2.1.warm hW⟩⟩ rfl hn hl rfl (lv_room hst) hd hcs
  · show d' + 16 + 1 ≤ R.frames
    omega
  · show 8 + (Y'.2.2.1 + 11) + (64 * d' + 256) ≤ R.locals
    omega
  · intro w hw a' U hW
    have hm : w ∈ zT := by
      rcases List.mem_cons.mp hw with e | e
      · rw [e]; exact n3
      · exact e
    exact word_at hW (good_of_word (zT_good hm)) (C.2.2.2.2.2.1 w hm)
  · rw [hsig] at hpar
    exact (Option.some.inj hpar).symm
end ZN
/-- a constructor's contract out of a walk of its body -/
theorem zMn_of {l : Launch} {G : zG} {Y : zY} {d mc ms : Nat} {As : List Value} {k : Nat} {M : zM} {F : zF2} {k' : Nat} {M' : zM} {F' : zF2} (hy : plainName Y.1.cls = true) (hnm : Y.1.name = "<init>") (hn : (lg_sl As).length ≤ Y.2.2.1)
    (h : ∀ (p : Program) (e : Env) (s : State) (m : MethodId) (args : Array Value) (below : List Frame) (meth : Method) (c : Code) (ls : Array Slot), zCn G Y p s m args meth c → meth.name = "<init>" → s.heap.size = G.2.1 + k → va_P G.1 vwCl (zwn G k M F) s.heap → lv_has ls Y.2.2.1 (lv_args 0 As) →
      W p l e (zRn d mc ms) s m args below meth c s.heap [] 0 0 (MQ below (zQn G k' M' F') args s mc ms (zA G)) (F0 m 0 ls [])) : zMn l G Y d mc ms As k M F k' M' F' := by
  refine Met.ofW (cc := Y.2.1) (maxL := Y.2.2.1) (ret := Y.2.2.2.1) hy rfl ?_
  intro p e s m args below meth c s₁ B hml hv
  obtain ⟨rfl, hsz, hP, hK, hN⟩ := hv
  have hts := atoms_spec (ws := Cond.code Y.1 Y.2.1 Y.2.2.1 Y.2.2.2.1 :: zT) B.pre
  have hl := lv_entry As (n := Y.2.2.1) hn
  rw [lg_entry_eq]
  have hin : meth.name = "<init>" := by rw [← hnm]; exact (name_of_methodNamed B.named B.method).1
  exact h p e s m _ below meth c _ ⟨B.exec, B.bytes, B.returns, hml, findClass_of_methodNamed B.named, fun w hw => hts w (List.mem_cons_of_mem _ hw), B.notSynchronized, hK, hN, by omega⟩ hin hsz hP hl
