/-! the texts -/
def zNS : Nat := 31
def zsl : List Nat := [24, 9, 4, 6, 5, 4, 4, 5, 3, 3, 4, 5, 3, 4, 5, 4, 4, 3, 2, 13, 12, 24, 13, 12, 12, 26, 24, 27, 33, 20, 10]
def zsb : List (List Int32) := [[116, 104, 101, 32, 116, 97, 112, 101, 32, 104, 97, 115, 32, 110, 111, 116, 32, 115, 111, 32, 109, 97, 110, 121], [59, 40, 41, 43, 45, 42, 47, 60, 61], [110, 97, 109, 101], [99, 111, 108, 111, 110, 121], [110, 111, 114, 116, 104], [119, 105, 115, 104], [102, 97, 105, 114], [115, 112, 101, 101, 100], [108, 97, 119], [110, 111, 116], [109, 105, 110, 101], [121, 111, 117, 114, 115], [102, 97, 114], [115, 111, 114, 116], [111, 116, 104, 101, 114], [100, 101, 98, 116], [121, 101, 97, 114], [97, 110, 100], [111, 114], [110, 111, 32, 115, 117, 99, 104, 32, 99, 111, 117, 110, 116], [110, 111, 32, 115, 117, 99, 104, 32, 110, 97, 109, 101], [97, 32, 110, 97, 109, 101, 32, 104, 97, 115, 32, 110, 111, 32, 115, 117, 99, 104, 32, 116, 104, 105, 110, 103], [116, 104, 101, 114, 101, 32, 105, 115, 32, 110, 111, 110, 101], [110, 111, 32, 115, 117, 99, 104, 32, 105, 115, 108, 101], [98, 111, 116, 104, 32, 97, 114, 101, 32, 111, 110, 101], [111, 110, 108, 121, 32, 48, 32, 97, 110, 100, 32, 49, 32, 97, 114, 101, 32, 97, 115, 107, 101, 100, 32, 102, 111, 114], [115, 119, 97, 112, 115, 32, 104, 97, 118, 101, 32, 110, 111, 32, 115, 117, 99, 104, 32, 116, 104, 105, 110, 103], [110, 111, 32, 97, 114, 114, 97, 110, 103, 101, 109, 101, 110, 116, 32, 111, 102, 32, 97, 108, 108, 32, 110, 97, 109, 101, 115], [110, 111, 116, 32, 97, 115, 32, 109, 117, 99, 104, 32, 97, 115, 32, 116, 104, 101, 32, 100, 111, 99, 117, 109, 101, 110, 116, 32, 116, 101, 108, 108, 115], [110, 111, 32, 115, 117, 99, 104, 32, 115, 101, 116, 32, 111, 102, 32, 110, 97, 109, 101, 115], [98, 101, 108, 111, 119, 32, 110, 111, 110, 101]]
def zSR : List (String × Nat × String × Nat) := [("BarterIsles", 121, "the tape has not so many", 0), ("BarterIsles$Tape", 50, ";()+-*/<=", 1), ("BarterIsles$SeaReader", 43, "name", 2), ("BarterIsles$SeaReader", 88, "colony", 3), ("BarterIsles$SeaReader", 90, "north", 4), ("BarterIsles$SeaReader", 52, "wish", 5), ("BarterIsles$SeaReader", 57, "fair", 6), ("BarterIsles$SeaReader", 62, "speed", 7), ("BarterIsles$SeaReader", 67, "law", 8), ("BarterIsles$Law", 65, "not", 9), ("BarterIsles$Law", 93, "mine", 10), ("BarterIsles$Law", 95, "yours", 11), ("BarterIsles$Law", 97, "far", 12), ("BarterIsles$Law", 99, "sort", 13), ("BarterIsles$Law", 101, "other", 14), ("BarterIsles$Law", 103, "debt", 15), ("BarterIsles$Law", 105, "year", 16), ("BarterIsles$Law", 63, "and", 17), ("BarterIsles$Law", 48, "or", 18), ("BarterIsles", 166, "no such count", 19), ("BarterIsles", 367, "no such name", 20), ("BarterIsles", 193, "a name has no such thing", 21), ("BarterIsles", 373, "there is none", 22), ("BarterIsles", 365, "no such isle", 23), ("BarterIsles", 369, "both are one", 24), ("BarterIsles", 371, "only 0 and 1 are asked for", 25), ("BarterIsles", 269, "swaps have no such thing", 26), ("BarterIsles", 274, "no arrangement of all names", 27), ("BarterIsles", 377, "not as much as the document tells", 28), ("BarterIsles", 309, "no such set of names", 29), ("BarterIsles", 375, "below none", 30)]
/-! THE JUDGEMENT zEv: from this pc, locals, stack and store the method ends as X says (X = none says nothing). One rule an instruction. -/
abbrev zY : Type := MethodName × ByteArray × Nat × Option FieldType × Nat × List (Nat × Nat × Nat × Nat)
def zT : List Cond := lw_tbl.filter goodWord
theorem zT_in {w : Cond} (h : w ∈ zT) : w ∈ lw_tbl := (List.mem_filter.mp h).1
theorem zT_good {w : Cond} (h : w ∈ zT) : goodWord w = true := (List.mem_filter.mp h).2
theorem zmem {w : Cond} (i : Nat) (h : lw_tbl[i]? = some w) (hg : goodWord w = true) : w ∈ zT := List.mem_filter.mpr ⟨List.mem_of_getElem? h, hg⟩
def ztys (G : zG) : List (ClassId × FieldType) := [(G.2.2.1 20, .int), (G.2.2.1 21, .byte), (G.2.2.1 22, .boolean), (G.2.2.1 23, .long)]
def zRm (d u : Nat) : Room := { frames := d + 16, cells := u, slots := 6 * u, locals := 64 * d + 256 }
def zCst : List (String × String) := [("java/lang/IllegalArgumentException", "java/lang/IllegalArgumentException"), ("java/util/NoSuchElementException", "java/util/NoSuchElementException")]
def zDcl : List MethodName := [⟨"java/lang/RuntimeException", "<init>", "(Ljava/lang/String;)V"⟩, ⟨"java/lang/Exception", "<init>", "(Ljava/lang/String;)V"⟩, ⟨"java/lang/Throwable", "<init>", "(Ljava/lang/String;)V"⟩]
def zNcs : List (String × String) := [("java/lang/IllegalArgumentException", "java/util/NoSuchElementException"), ("java/util/NoSuchElementException", "java/lang/IllegalArgumentException")]
def zBw : List Cond := zCst.map (fun q => Cond.castable q.1 q.2) ++ zDcl.map Cond.declares
def zXs (U : State) : Prop := (∀ q ∈ zCst, va_Nw (.castable q.1 q.2) U) ∧ (∀ y ∈ zDcl, va_Nw (.declares y) U) ∧ (∀ q ∈ zNcs, va_Nc q.1 q.2 U)
theorem zXs.warm {s U : State} (hW : s.WarmedH U.vm) (h : zXs s) : zXs U := ⟨fun q hq => (h.1 q hq).warmC hW, fun y hy => (h.2.1 y hy).warmD hW, fun q hq => (h.2.2 q hq).moved hW.alike⟩
theorem zXs.same {s U : State} (hv : s.vm = U.vm) (h : zXs s) : zXs U := ⟨fun q hq => (h.1 q hq).same rfl hv, fun y hy => (h.2.1 y hy).same rfl hv, fun q hq => (h.2.2 q hq).moved (by rw [hv]; exact Vm.Alike.refl _)⟩
theorem zXs.use {s : State} {args : Array Value} (h : zXs s) : ∀ w ∈ zBw, w.before args s = true := by
  intro w hw
  rcases List.mem_append.mp hw with hw | hw
  · obtain ⟨q, hq, rfl⟩ := List.mem_map.mp hw
    exact (h.1 q hq).use rfl
  · obtain ⟨q, hq, rfl⟩ := List.mem_map.mp hw
    exact (h.2.1 q hq).use rfl
theorem zBw_ot : ∀ w ∈ zBw, vx_ot w = true := by
  intro w hw
  rcases List.mem_append.mp hw with hw | hw
  · obtain ⟨q, hq, rfl⟩ := List.mem_map.mp hw
    rfl
  · obtain ⟨q, hq, rfl⟩ := List.mem_map.mp hw
    rfl
/-- the texts, as they lie -/
def zSs (adK adV : Nat → Nat) (A : Nat → Prop) (U : State) (H : Heap) : Prop :=
  (∀ i : Nat, i < zNS → va_O "java/lang/String" (adK i) A U H ∧ va_OF "java/lang/String" "coder" "B" (.int 0) (adK i) A U H ∧ va_OF "java/lang/String" "value" "[B" (.ref (adV i)) (adK i) A U H ∧ va_T .byte (adV i) (zsl.getD i 0) (fun j => .int ((zsb.getD i []).getD j 0)) A U H) ∧ True
theorem zSs.moved {adK adV : Nat → Nat} {A : Nat → Prop} {u U : State} {H : Heap} (hvm : u.vm.Alike U.vm) (h : zSs adK adV A u H) : zSs adK adV A U H :=
  ⟨fun i hi => ⟨va_O.moved hvm (h.1 i hi).1, va_OF.moved hvm (h.1 i hi).2.1, va_OF.moved hvm (h.1 i hi).2.2.1, va_T.moved hvm (h.1 i hi).2.2.2⟩, trivial⟩
theorem zSs.kept {adK adV : Nat → Nat} {A : Nat → Prop} {U : State} {H H1 : Heap} (h : zSs adK adV A U H) (hq : ∀ a : Nat, a < H.size → ¬ A a → H1[a]? = H[a]?) : zSs adK adV A U H1 :=
  ⟨fun i hi => ⟨(h.1 i hi).1.kept hq, (h.1 i hi).2.1.kept hq, (h.1 i hi).2.2.1.kept hq, (h.1 i hi).2.2.2.kept hq⟩, trivial⟩
def zX (G : zG) (U : State) (H : Heap) : Prop :=
  vx_Zq Bundle.tN "UNASSIGNED_STACK" Bundle.steD (zA G) U H ∧ vx_Zq Bundle.tN "SUPPRESSED_SENTINEL" Bundle.listD (zA G) U H ∧
  zSs G.2.2.2.1 G.2.2.2.2.1 (zA G) U H ∧ (∀ q ∈ zSR, vk_R q.1 q.2.1 q.2.2.1 (G.2.2.2.1 q.2.2.2) U) ∧
  va_Z "java/lang/String" "COMPACT_STRINGS" "Z" (.int 1) (zA G) U H ∧ va_Zq "jdk/internal/util/Preconditions" "SIOOBE_FORMATTER" "Ljava/util/function/BiFunction;" (zA G) U H ∧ zXs U ∧ (va_X G.2.2.2.2.2.1 G.2.2.2.2.2.2.1 G.2.2.2.2.2.2.2 U H ∧ G.2.2.2.2.2.1 < H.size ∧ G.2.2.2.2.2.1 < G.2.1)
theorem zX_next {G : zG} {s U : State} {H : Heap} {locs : List Loc} (h : zX G s s.heap) (hS : va_S (zA G) s.heap H locs) (hW : s.WarmedH U.vm) (hU : U.heap = H) : zX G U U.heap := by
  obtain ⟨h1, h2, h3, h4, h5, h6, h7, h8, h9, h10⟩ := h
  rw [hU]
  exact ⟨(h1.kept hS.2.1).moved hW.alike, (h2.kept hS.2.1).moved hW.alike, (h3.kept hS.2.1).moved hW.alike, fun q hq => (h4 q hq).warm hW, (h5.kept hS.2.1).moved hW.alike, (h6.kept hS.2.1).moved hW.alike, h7.warm hW, (h8.kept (hS.2.1 _ h9 (Nat.not_le.mpr h10))).moved hW.alike, Nat.lt_of_lt_of_le h9 hS.1, h10⟩
def zPc (G : zG) (As : List Value) (M : zM) : Array Value → State → Prop := va_Pc As (fun U => va_P G.1 vwCl (zws G M) U.heap ∧ va_K G.1 vwCl (ztys G) U ∧ zX G U U.heap)
def zQc (G : zG) (r : zR) (M' : zM) : Array Value → State → Outcome → State → Prop := fun _ st oc t => (∃ v, r = .inl v ∧ oc = .returned v ∧ va_P G.1 vwCl (zws G M') t.heap) ∧ va_F (zA G) st t
def zXC (G : zG) (r : zR) (M' : zM) : String → State → State → Prop := fun E st t => r = .inr E ∧ va_P G.1 vwCl (zws G M') t.heap ∧ va_F (zA G) st t
def zMt (l : Launch) (G : zG) (Y : zY) (d : Nat) (As : List Value) (M : zM) (X : zO) : Prop :=
  ∀ (r : zR) (M' : zM), X = some (r, M') → vx_Met l Y.1 (Cond.code Y.1 Y.2.1 Y.2.2.1 Y.2.2.2.1 :: zT) (zRm d Y.2.2.2.2.1) (zPc G As M) (zQc G r M') (zXC G r M') Y.2.2.2.2.1 (6 * Y.2.2.2.2.1) (zA G)
def zCx (G : zG) (Y : zY) (p : Program) (s : State) (m : MethodId) (args : Array Value) (meth : Method) (c : Code) : Prop :=
  p.tables.exec = Jvm.exec ∧ c.code = Y.2.1 ∧ meth.sig.returnType = Y.2.2.2.1 ∧ c.maxLocals = Y.2.2.1 ∧ s.vm.findClass Y.1.cls = some m.cls ∧ (∀ w ∈ zT, w.before args s = true) ∧ meth.locks = false ∧ va_K G.1 vwCl (ztys G) s ∧ zX G s s.heap ∧ c.exceptionTable.toList = tableOf Y.2.2.2.2.2
def zEv (l : Launch) (G : zG) (Y : zY) (d u pc : Nat) (lv : List (Nat × Value)) (st : List Value) (M : zM) (X : zO) : Prop :=
  ∀ (r : zR) (M' : zM), X = some (r, M') → ∀ (p : Program) (e : Env) (s : State) (m : MethodId) (args : Array Value) (below : List Frame) (meth : Method) (c : Code) (H : Heap) (locs : List Loc) (ls : Array Slot),
    zCx G Y p s m args meth c → va_P G.1 vwCl (zws G M) H → va_S (zA G) s.heap H locs → lv_has ls Y.2.2.1 lv →
    W p l e (zRm d Y.2.2.2.2.1) s m args below meth c H locs u (6 * u) (vx_MQ below (zQc G r M') (zXC G r M') args s Y.2.2.2.2.1 (6 * Y.2.2.2.2.1) (zA G)) (F0 m pc ls st)
section ZR
variable {l : Launch} {G : zG} {Y : zY} {d u pc : Nat} {lv : List (Nat × Value)} {st : List Value} {M : zM} {X : zO}
/-- the contract out of a walk of the body -/
theorem zMt_of {As : List Value} (hy : plainName Y.1.cls = true) (hn : (lg_sl As).length ≤ Y.2.2.1) (h : zEv l G Y d 0 0 (lv_args 0 As) [] M X) (hh : Y.2.2.2.2.2 = [] := by rfl) : zMt l G Y d As M X := by
  intro r M' hX
  refine vx_ofW (cc := Y.2.1) (maxL := Y.2.2.1) (ret := Y.2.2.2.1) hy rfl ?_
  intro p e s m args below meth c s₁ B hml ht hv
  obtain ⟨rfl, hP, hK, hZ⟩ := hv
  have hts := atoms_spec (ws := Cond.code Y.1 Y.2.1 Y.2.2.1 Y.2.2.2.1 :: zT) B.pre
  have hl := lv_entry As (n := Y.2.2.1) hn
  rw [lg_entry_eq]
  exact h r M' hX p e s m _ below meth c s.heap [] _ ⟨B.exec, B.bytes, B.returns, hml, findClass_of_methodNamed B.named, fun w hw => hts w (List.mem_cons_of_mem _ hw), B.notSynchronized, hK, hZ, by rw [hh]; exact List.eq_nil_iff_forall_not_mem.mpr ht⟩ hP va_S.rf hl
theorem ev_none : zEv l G Y d u pc lv st M none := fun r M' h => nomatch h
theorem ev_X {X' : zO} (h : X = X') (k : zEv l G Y d u pc lv st M X') : zEv l G Y d u pc lv st M X := by rw [h]; exact k
theorem ev_lv {lv' : List (Nat × Value)} (ks : List Nat) (h : lv_pick lv ks = lv') (k : zEv l G Y d u pc lv' st M X) : zEv l G Y d u pc lv st M X :=
  fun r M' hX p e s m args below meth c H locs ls C hP hS hl => k r M' hX p e s m args below meth c H locs ls C hP hS (lv_sub hl ks h)
def zck (b : Bool) (x : zO) : zO := if b = true then x else none
theorem ev_ck {b : Bool} {x : zO} (h : b = true → zEv l G Y d u pc lv st M x) : zEv l G Y d u pc lv st M (zck b x) := by
  unfold zck
  by_cases hb : b = true
  · rw [if_pos hb]; exact h hb
  · rw [if_neg hb]; exact ev_none
def zlt (e : Int32) (k : Int32 → zO) : zO := k e
def zltL (e : Int64) (k : Int64 → zO) : zO := k e
theorem ev_topi {e : Int32} {k : Int32 → zO} (h : ∀ v, zEv l G Y d u pc lv (.int v :: st) M (k v)) : zEv l G Y d u pc lv (.int e :: st) M (zlt e k) := h e
theorem ev_topl {e : Int64} {k : Int64 → zO} (h : ∀ v, zEv l G Y d u pc lv (.long v :: st) M (k v)) : zEv l G Y d u pc lv (.long e :: st) M (zltL e k) := h e
def zit (c : Prop) [Decidable c] (a b : zO) : zO := if c then a else b
theorem ev_it {c : Prop} [Decidable c] {a b : zO} (ha : c → zEv l G Y d u pc lv st M a) (hb : ¬ c → zEv l G Y d u pc lv st M b) : zEv l G Y d u pc lv st M (zit c a b) := by
  unfold zit
  by_cases h : c
  · rw [if_pos h]; exact ha h
  · rw [if_neg h]; exact hb h
def zin (i : Int32) (n : Nat) : Bool := decide (¬ (i < 0 ∨ n ≤ i.toNatClampNeg))
theorem zin_vp {i : Int32} {n : Nat} (h : zin i n = true) : vp_in i n := of_decide_eq_true (p := ¬ (i < 0 ∨ n ≤ i.toNatClampNeg)) h
abbrev zix (i : Int32) : Nat := i.toNatClampNeg
theorem ev_iadd {x y : Int32} (hd : decode Y.2.1 pc = .ok (.iadd, 1))  (k : zEv l G Y d u (pc + 1) lv (.int (x + y) :: st) M X) : zEv l G Y d u pc lv (.int y :: .int x :: st) M X :=
  fun r M' hX p e s m args below meth c H locs ls C hP hS hl => lv_iadd C.1 C.2.1 hd  (k r M' hX p e s m args below meth c H locs ls C hP hS hl)
theorem ev_isub {x y : Int32} (hd : decode Y.2.1 pc = .ok (.isub, 1))  (k : zEv l G Y d u (pc + 1) lv (.int (x - y) :: st) M X) : zEv l G Y d u pc lv (.int y :: .int x :: st) M X :=
  fun r M' hX p e s m args below meth c H locs ls C hP hS hl => lv_isub C.1 C.2.1 hd  (k r M' hX p e s m args below meth c H locs ls C hP hS hl)
theorem ev_imul {x y : Int32} (hd : decode Y.2.1 pc = .ok (.imul, 1))  (k : zEv l G Y d u (pc + 1) lv (.int (x * y) :: st) M X) : zEv l G Y d u pc lv (.int y :: .int x :: st) M X :=
  fun r M' hX p e s m args below meth c H locs ls C hP hS hl => lv_imul C.1 C.2.1 hd  (k r M' hX p e s m args below meth c H locs ls C hP hS hl)
theorem ev_iand {x y : Int32} (hd : decode Y.2.1 pc = .ok (.iand, 1))  (k : zEv l G Y d u (pc + 1) lv (.int (x &&& y) :: st) M X) : zEv l G Y d u pc lv (.int y :: .int x :: st) M X :=
  fun r M' hX p e s m args below meth c H locs ls C hP hS hl => lv_iand C.1 C.2.1 hd  (k r M' hX p e s m args below meth c H locs ls C hP hS hl)
theorem ev_ior {x y : Int32} (hd : decode Y.2.1 pc = .ok (.ior, 1))  (k : zEv l G Y d u (pc + 1) lv (.int (x ||| y) :: st) M X) : zEv l G Y d u pc lv (.int y :: .int x :: st) M X :=
  fun r M' hX p e s m args below meth c H locs ls C hP hS hl => lv_ior C.1 C.2.1 hd  (k r M' hX p e s m args below meth c H locs ls C hP hS hl)
theorem ev_ixor {x y : Int32} (hd : decode Y.2.1 pc = .ok (.ixor, 1))  (k : zEv l G Y d u (pc + 1) lv (.int (x ^^^ y) :: st) M X) : zEv l G Y d u pc lv (.int y :: .int x :: st) M X :=
  fun r M' hX p e s m args below meth c H locs ls C hP hS hl => lv_ixor C.1 C.2.1 hd  (k r M' hX p e s m args below meth c H locs ls C hP hS hl)
theorem ev_ishl {x y : Int32} (hd : decode Y.2.1 pc = .ok (.ishl, 1))  (k : zEv l G Y d u (pc + 1) lv (.int (x <<< (y &&& 31)) :: st) M X) : zEv l G Y d u pc lv (.int y :: .int x :: st) M X :=
  fun r M' hX p e s m args below meth c H locs ls C hP hS hl => lv_ishl C.1 C.2.1 hd  (k r M' hX p e s m args below meth c H locs ls C hP hS hl)
theorem ev_ishr {x y : Int32} (hd : decode Y.2.1 pc = .ok (.ishr, 1))  (k : zEv l G Y d u (pc + 1) lv (.int (x >>> (y &&& 31)) :: st) M X) : zEv l G Y d u pc lv (.int y :: .int x :: st) M X :=
  fun r M' hX p e s m args below meth c H locs ls C hP hS hl => lv_ishr C.1 C.2.1 hd  (k r M' hX p e s m args below meth c H locs ls C hP hS hl)
theorem ev_iushr {x y : Int32} (hd : decode Y.2.1 pc = .ok (.iushr, 1))  (k : zEv l G Y d u (pc + 1) lv (.int ((x.toUInt32 >>> (y.toUInt32 &&& Int32.toUInt32 31)).toInt32) :: st) M X) : zEv l G Y d u pc lv (.int y :: .int x :: st) M X :=
  fun r M' hX p e s m args below meth c H locs ls C hP hS hl => lv_iushr C.1 C.2.1 hd rfl (k r M' hX p e s m args below meth c H locs ls C hP hS hl)
theorem ev_ineg {x : Int32} (hd : decode Y.2.1 pc = .ok (.ineg, 1))  (k : zEv l G Y d u (pc + 1) lv (.int (-x) :: st) M X) : zEv l G Y d u pc lv (.int x :: st) M X :=
  fun r M' hX p e s m args below meth c H locs ls C hP hS hl => lv_ineg C.1 C.2.1 hd  (k r M' hX p e s m args below meth c H locs ls C hP hS hl)
theorem ev_i2l {x : Int32} (hd : decode Y.2.1 pc = .ok (.i2l, 1))  (k : zEv l G Y d u (pc + 1) lv (.long x.toInt64 :: st) M X) : zEv l G Y d u pc lv (.int x :: st) M X :=
  fun r M' hX p e s m args below meth c H locs ls C hP hS hl => lv_i2l C.1 C.2.1 hd rfl (k r M' hX p e s m args below meth c H locs ls C hP hS hl)
theorem ev_i2b {x : Int32} (hd : decode Y.2.1 pc = .ok (.i2b, 1))  (k : zEv l G Y d u (pc + 1) lv (.int x.toInt8.toInt32 :: st) M X) : zEv l G Y d u pc lv (.int x :: st) M X :=
  fun r M' hX p e s m args below meth c H locs ls C hP hS hl => lv_i2b C.1 C.2.1 hd rfl (k r M' hX p e s m args below meth c H locs ls C hP hS hl)
theorem ev_i2c {x : Int32} (hd : decode Y.2.1 pc = .ok (.i2c, 1))  (k : zEv l G Y d u (pc + 1) lv (.int (x.toUInt32 % 65536).toInt32 :: st) M X) : zEv l G Y d u pc lv (.int x :: st) M X :=
  fun r M' hX p e s m args below meth c H locs ls C hP hS hl => lv_i2c C.1 C.2.1 hd rfl (k r M' hX p e s m args below meth c H locs ls C hP hS hl)
theorem ev_lsub {x y : Int64} (hd : decode Y.2.1 pc = .ok (.lsub, 1))  (k : zEv l G Y d u (pc + 1) lv (.long (x - y) :: st) M X) : zEv l G Y d u pc lv (.long y :: .long x :: st) M X :=
  fun r M' hX p e s m args below meth c H locs ls C hP hS hl => lv_lsub C.1 C.2.1 hd  (k r M' hX p e s m args below meth c H locs ls C hP hS hl)
theorem ev_lor {x y : Int64} (hd : decode Y.2.1 pc = .ok (.lor, 1))  (k : zEv l G Y d u (pc + 1) lv (.long (x ||| y) :: st) M X) : zEv l G Y d u pc lv (.long y :: .long x :: st) M X :=
  fun r M' hX p e s m args below meth c H locs ls C hP hS hl => lv_lor C.1 C.2.1 hd  (k r M' hX p e s m args below meth c H locs ls C hP hS hl)
theorem ev_lshl {x : Int64} {y : Int32} (hd : decode Y.2.1 pc = .ok (.lshl, 1))  (k : zEv l G Y d u (pc + 1) lv (.long (x <<< (y.toInt64 &&& 63)) :: st) M X) : zEv l G Y d u pc lv (.int y :: .long x :: st) M X :=
  fun r M' hX p e s m args below meth c H locs ls C hP hS hl => lv_lshl C.1 C.2.1 hd rfl (k r M' hX p e s m args below meth c H locs ls C hP hS hl)
theorem ev_iconst {n : Int} {v : Int32} (hd : decode Y.2.1 pc = .ok (.iconst n, 1)) (hv : Int32.ofInt n = v) (k : zEv l G Y d u (pc + 1) lv (.int v :: st) M X) : zEv l G Y d u pc lv (st) M X :=
  fun r M' hX p e s m args below meth c H locs ls C hP hS hl => lv_iconst C.1 C.2.1 hd hv (k r M' hX p e s m args below meth c H locs ls C hP hS hl)
theorem ev_bipush {n : Int} {v : Int32} (hd : decode Y.2.1 pc = .ok (.bipush n, 2)) (hv : (Int8.ofInt n).toInt32 = v) (k : zEv l G Y d u (pc + 2) lv (.int v :: st) M X) : zEv l G Y d u pc lv (st) M X :=
  fun r M' hX p e s m args below meth c H locs ls C hP hS hl => lv_bipush C.1 C.2.1 hd hv (k r M' hX p e s m args below meth c H locs ls C hP hS hl)
theorem ev_sipush {n : Int} {v : Int32} (hd : decode Y.2.1 pc = .ok (.sipush n, 3)) (hv : (Int16.ofInt n).toInt32 = v) (k : zEv l G Y d u (pc + 3) lv (.int v :: st) M X) : zEv l G Y d u pc lv (st) M X :=
  fun r M' hX p e s m args below meth c H locs ls C hP hS hl => lv_sipush C.1 C.2.1 hd hv (k r M' hX p e s m args below meth c H locs ls C hP hS hl)
theorem ev_lconst {n : Fin 2} {v : Int64} (hd : decode Y.2.1 pc = .ok (.lconst n, 1)) (hv : Int64.ofNat (n : Nat) = v) (k : zEv l G Y d u (pc + 1) lv (.long v :: st) M X) : zEv l G Y d u pc lv (st) M X :=
  fun r M' hX p e s m args below meth c H locs ls C hP hS hl => lv_lconst C.1 C.2.1 hd hv (k r M' hX p e s m args below meth c H locs ls C hP hS hl)
theorem ev_iload_n {k : Fin 4} {x : Int32} (hd : decode Y.2.1 pc = .ok (.iload_n k, 1)) (j : Nat) (hj : lv[j]? = some ((k : Nat), Value.int x)) (k : zEv l G Y d u (pc + 1) lv (.int x :: st) M X) : zEv l G Y d u pc lv (st) M X :=
  fun r M' hX p e s m args below meth c H locs ls C hP hS hl => lv_iload_n C.1 C.2.1 hd rfl (lv_at hl j hj) (k r M' hX p e s m args below meth c H locs ls C hP hS hl)
theorem ev_iload {i : Nat} {x : Int32} (hd : decode Y.2.1 pc = .ok (.iload i, 2)) (j : Nat) (hj : lv[j]? = some (i, Value.int x)) (k : zEv l G Y d u (pc + 2) lv (.int x :: st) M X) : zEv l G Y d u pc lv (st) M X :=
  fun r M' hX p e s m args below meth c H locs ls C hP hS hl => lv_iload C.1 C.2.1 hd (lv_at hl j hj) (k r M' hX p e s m args below meth c H locs ls C hP hS hl)
theorem ev_lload {i : Nat} {x : Int64} (hd : decode Y.2.1 pc = .ok (.lload i, 2)) (j : Nat) (hj : lv[j]? = some (i, Value.long x)) (k : zEv l G Y d u (pc + 2) lv (.long x :: st) M X) : zEv l G Y d u pc lv (st) M X :=
  fun r M' hX p e s m args below meth c H locs ls C hP hS hl => lv_lload C.1 C.2.1 hd (lv_at hl j hj) (k r M' hX p e s m args below meth c H locs ls C hP hS hl)
theorem ev_aload_n {k : Fin 4} {x : Nat} (hd : decode Y.2.1 pc = .ok (.aload_n k, 1)) (j : Nat) (hj : lv[j]? = some ((k : Nat), Value.ref x)) (k : zEv l G Y d u (pc + 1) lv (.ref x :: st) M X) : zEv l G Y d u pc lv (st) M X :=
  fun r M' hX p e s m args below meth c H locs ls C hP hS hl => lv_aload_n C.1 C.2.1 hd rfl (lv_at hl j hj) (k r M' hX p e s m args below meth c H locs ls C hP hS hl)
theorem ev_aload {i : Nat} {x : Nat} (hd : decode Y.2.1 pc = .ok (.aload i, 2)) (j : Nat) (hj : lv[j]? = some (i, Value.ref x)) (k : zEv l G Y d u (pc + 2) lv (.ref x :: st) M X) : zEv l G Y d u pc lv (st) M X :=
  fun r M' hX p e s m args below meth c H locs ls C hP hS hl => lv_aload C.1 C.2.1 hd (lv_at hl j hj) (k r M' hX p e s m args below meth c H locs ls C hP hS hl)
theorem ev_dup {v : Value} (hd : decode Y.2.1 pc = .ok (.dup, 1)) (hv : v.category = 1) (k : zEv l G Y d u (pc + 1) lv (v :: v :: st) M X) : zEv l G Y d u pc lv (v :: st) M X :=
  fun r M' hX p e s m args below meth c H locs ls C hP hS hl => lv_dup C.1 C.2.1 hd hv (k r M' hX p e s m args below meth c H locs ls C hP hS hl)
theorem ev_pop {v : Value} (hd : decode Y.2.1 pc = .ok (.pop, 1)) (hv : v.category = 1) (k : zEv l G Y d u (pc + 1) lv (st) M X) : zEv l G Y d u pc lv (v :: st) M X :=
  fun r M' hX p e s m args below meth c H locs ls C hP hS hl => lv_pop C.1 C.2.1 hd hv (k r M' hX p e s m args below meth c H locs ls C hP hS hl)
theorem ev_dup2 {v w : Value} (hd : decode Y.2.1 pc = .ok (.dup2, 1)) (hv : v.category = 1) (hw : w.category = 1) (k : zEv l G Y d u (pc + 1) lv (v :: w :: v :: w :: st) M X) : zEv l G Y d u pc lv (v :: w :: st) M X :=
  fun r M' hX p e s m args below meth c H locs ls C hP hS hl => lv_dup2_11 C.1 C.2.1 hd hv hw (k r M' hX p e s m args below meth c H locs ls C hP hS hl)
theorem ev_idiv {x y : Int32} (hd : decode Y.2.1 pc = .ok (.idiv, 1)) (k : zEv l G Y d u (pc + 1) lv (.int (x / y) :: st) M X) : zEv l G Y d u pc lv (.int y :: .int x :: st) M (zck (!decide (y = 0)) X) :=
  ev_ck (fun hb => fun r M' hX p e s m args below meth c H locs ls C hP hS hl => lv_idiv C.1 C.2.1 hd (by simpa using hb) (k r M' hX p e s m args below meth c H locs ls C hP hS hl))
theorem ev_irem {x y : Int32} (hd : decode Y.2.1 pc = .ok (.irem, 1)) (k : zEv l G Y d u (pc + 1) lv (.int (x - x / y * y) :: st) M X) : zEv l G Y d u pc lv (.int y :: .int x :: st) M (zck (!decide (y = 0)) X) :=
  ev_ck (fun hb => fun r M' hX p e s m args below meth c H locs ls C hP hS hl => lv_irem C.1 C.2.1 hd (by simpa using hb) (k r M' hX p e s m args below meth c H locs ls C hP hS hl))
theorem ev_lcmp {x y : Int64} (hd : decode Y.2.1 pc = .ok (.lcmp, 1)) (k : zEv l G Y d u (pc + 1) lv (.int (lg_cmp x y) :: st) M X) : zEv l G Y d u pc lv (.long y :: .long x :: st) M X :=
  fun r M' hX p e s m args below meth c H locs ls C hP hS hl => W.lcmp C.1 C.2.1 hd (k r M' hX p e s m args below meth c H locs ls C hP hS hl)
theorem ev_ldc {idx : Nat} {v : Int32} (hd : decode Y.2.1 pc = .ok (.ldc idx, 2)) (hw : Cond.constant Y.1.cls idx v ∈ zT) (k : zEv l G Y d u (pc + 2) lv (.int v :: st) M X) : zEv l G Y d u pc lv st M X :=
  fun r M' hX p e s m args below meth c H locs ls C hP hS hl => lv_ldc C.1 C.2.1 C.2.2.2.2.1 (C.2.2.2.2.2.1 _ hw) hd (k r M' hX p e s m args below meth c H locs ls C hP hS hl)
theorem ev_ldcw {idx : Nat} {v : Int32} (hd : decode Y.2.1 pc = .ok (.ldc_w idx, 3)) (hw : Cond.constant Y.1.cls idx v ∈ zT) (k : zEv l G Y d u (pc + 3) lv (.int v :: st) M X) : zEv l G Y d u pc lv st M X :=
  fun r M' hX p e s m args below meth c H locs ls C hP hS hl => lv_ldcw C.1 C.2.1 C.2.2.2.2.1 (C.2.2.2.2.2.1 _ hw) hd (k r M' hX p e s m args below meth c H locs ls C hP hS hl)
theorem ev_ldc2 {idx : Nat} {v : Int64} (hd : decode Y.2.1 pc = .ok (.ldc2_w idx, 3)) (hw : Cond.constantLong Y.1.cls idx v ∈ zT) (k : zEv l G Y d u (pc + 3) lv (.long v :: st) M X) : zEv l G Y d u pc lv st M X :=
  fun r M' hX p e s m args below meth c H locs ls C hP hS hl => lv_ldc2 C.1 C.2.1 C.2.2.2.2.1 (C.2.2.2.2.2.1 _ hw) hd (k r M' hX p e s m args below meth c H locs ls C hP hS hl)
theorem ev_istore_n {k : Fin 4} {i : Nat} {x : Int32} {lv' : List (Nat × Value)} (ks : List Nat) (hd : decode Y.2.1 pc = .ok (.istore_n k, 1)) (hi : (k : Nat) = i) (hn : i < Y.2.2.1) (hl2 : lv_pick ((i, Value.int x) :: lv.filter (fun q => !(q.1 == i) && !(q.1 + 1 == i && q.2.category == 2))) ks = lv') (k9 : zEv l G Y d u (pc + 1) lv' st M X) : zEv l G Y d u pc lv (.int x :: st) M X :=
  fun r M' hX p e s m args below meth c H locs ls C hP hS hl => lv_istore_n C.1 C.2.1 hd hi hl hn rfl (fun ls' hl' => k9 r M' hX p e s m args below meth c H locs ls' C hP hS (lv_sub hl' ks hl2))
theorem ev_istore  {i : Nat} {x : Int32} {lv' : List (Nat × Value)} (ks : List Nat) (hd : decode Y.2.1 pc = .ok (.istore i, 2)) (hn : i < Y.2.2.1) (hl2 : lv_pick ((i, Value.int x) :: lv.filter (fun q => !(q.1 == i) && !(q.1 + 1 == i && q.2.category == 2))) ks = lv') (k9 : zEv l G Y d u (pc + 2) lv' st M X) : zEv l G Y d u pc lv (.int x :: st) M X :=
  fun r M' hX p e s m args below meth c H locs ls C hP hS hl => lv_istore C.1 C.2.1 hd hl hn rfl (fun ls' hl' => k9 r M' hX p e s m args below meth c H locs ls' C hP hS (lv_sub hl' ks hl2))
theorem ev_astore_n {k : Fin 4} {i : Nat} {x : Nat} {lv' : List (Nat × Value)} (ks : List Nat) (hd : decode Y.2.1 pc = .ok (.astore_n k, 1)) (hi : (k : Nat) = i) (hn : i < Y.2.2.1) (hl2 : lv_pick ((i, Value.ref x) :: lv.filter (fun q => !(q.1 == i) && !(q.1 + 1 == i && q.2.category == 2))) ks = lv') (k9 : zEv l G Y d u (pc + 1) lv' st M X) : zEv l G Y d u pc lv (.ref x :: st) M X :=
  fun r M' hX p e s m args below meth c H locs ls C hP hS hl => lv_astore_n C.1 C.2.1 hd hi hl hn rfl (fun ls' hl' => k9 r M' hX p e s m args below meth c H locs ls' C hP hS (lv_sub hl' ks hl2))
theorem ev_astore  {i : Nat} {x : Nat} {lv' : List (Nat × Value)} (ks : List Nat) (hd : decode Y.2.1 pc = .ok (.astore i, 2)) (hn : i < Y.2.2.1) (hl2 : lv_pick ((i, Value.ref x) :: lv.filter (fun q => !(q.1 == i) && !(q.1 + 1 == i && q.2.category == 2))) ks = lv') (k9 : zEv l G Y d u (pc + 2) lv' st M X) : zEv l G Y d u pc lv (.ref x :: st) M X :=
  fun r M' hX p e s m args below meth c H locs ls C hP hS hl => lv_astore C.1 C.2.1 hd hl hn rfl (fun ls' hl' => k9 r M' hX p e s m args below meth c H locs ls' C hP hS (lv_sub hl' ks hl2))
theorem ev_lstore {i : Nat} {x : Int64} {lv' : List (Nat × Value)} (ks : List Nat) (hd : decode Y.2.1 pc = .ok (.lstore i, 2)) (hn : i + 1 < Y.2.2.1) (hl2 : lv_pick ((i, Value.long x) :: lv.filter (fun q => !(q.1 == i) && (!(q.1 == i + 1) && !(q.1 + 1 == i && q.2.category == 2)))) ks = lv') (k9 : zEv l G Y d u (pc + 2) lv' st M X) : zEv l G Y d u pc lv (.long x :: st) M X :=
  fun r M' hX p e s m args below meth c H locs ls C hP hS hl => lv_lstore C.1 C.2.1 hd hl hn rfl (fun ls' hl' => k9 r M' hX p e s m args below meth c H locs ls' C hP hS (lv_sub hl' ks hl2))
theorem ev_iinc {i j : Nat} {n : Int} {x v : Int32} {lv' : List (Nat × Value)} (ks : List Nat) (hd : decode Y.2.1 pc = .ok (.iinc i n, 3)) (hj : lv[j]? = some (i, Value.int x)) (hv : Int32.ofInt n = v) (hn : i < Y.2.2.1) (hl2 : lv_pick ((i, Value.int (x + v)) :: lv.filter (fun q => !(q.1 == i) && !(q.1 + 1 == i && q.2.category == 2))) ks = lv') (k9 : zEv l G Y d u (pc + 3) lv' st M X) : zEv l G Y d u pc lv st M X :=
  fun r M' hX p e s m args below meth c H locs ls C hP hS hl => lv_iinc (v := x + v) C.1 C.2.1 hd hl hj (by rw [hv]) hn rfl (fun ls' hl' => k9 r M' hX p e s m args below meth c H locs ls' C hP hS (lv_sub hl' ks hl2))
theorem ev_goto {off : Int} (tgt : Nat) (hd : decode Y.2.1 pc = .ok (.goto off, 3)) (ht : (pc : Int) + off = (tgt : Int)) (k : zEv l G Y d u tgt lv st M X) : zEv l G Y d u pc lv st M X :=
  fun r M' hX p e s m args below meth c H locs ls C hP hS hl => lv_goto C.1 C.2.1 hd ht (k r M' hX p e s m args below meth c H locs ls C hP hS hl)
theorem ev_icmp_eq {x y : Int32} {off : Int} {a z : zO} (tgt : Nat) (hd : decode Y.2.1 pc = .ok (.if_icmp .eq off, 3)) (ht : (pc : Int) + off = (tgt : Int)) (kt : zEv l G Y d u tgt lv st M a) (kf : zEv l G Y d u (pc + 3) lv st M z) : zEv l G Y d u pc lv (.int y :: .int x :: st) M (zit (x = y) a z) := by
  intro r M' hX p e s m args below meth c H locs ls C hP hS hl
  refine lv_icmp_eq C.1 C.2.1 hd ht (fun h => ?_) (fun h => ?_)
  · exact kt r M' (by unfold zit at hX; rwa [if_pos h] at hX) p e s m args below meth c H locs ls C hP hS hl
  · exact kf r M' (by unfold zit at hX; rwa [if_neg h] at hX) p e s m args below meth c H locs ls C hP hS hl
theorem ev_if_eq {x : Int32} {off : Int} {a z : zO} (tgt : Nat) (hd : decode Y.2.1 pc = .ok (.ifCond .eq off, 3)) (ht : (pc : Int) + off = (tgt : Int)) (kt : zEv l G Y d u tgt lv st M a) (kf : zEv l G Y d u (pc + 3) lv st M z) : zEv l G Y d u pc lv (.int x :: st) M (zit (x = 0) a z) := by
  intro r M' hX p e s m args below meth c H locs ls C hP hS hl
  refine lv_if_eq C.1 C.2.1 hd ht (fun h => ?_) (fun h => ?_)
  · exact kt r M' (by unfold zit at hX; rwa [if_pos h] at hX) p e s m args below meth c H locs ls C hP hS hl
  · exact kf r M' (by unfold zit at hX; rwa [if_neg h] at hX) p e s m args below meth c H locs ls C hP hS hl
theorem ev_icmp_ne {x y : Int32} {off : Int} {a z : zO} (tgt : Nat) (hd : decode Y.2.1 pc = .ok (.if_icmp .ne off, 3)) (ht : (pc : Int) + off = (tgt : Int)) (kt : zEv l G Y d u tgt lv st M a) (kf : zEv l G Y d u (pc + 3) lv st M z) : zEv l G Y d u pc lv (.int y :: .int x :: st) M (zit (x = y) z a) := by
  intro r M' hX p e s m args below meth c H locs ls C hP hS hl
  refine lv_icmp_ne C.1 C.2.1 hd ht (fun h => ?_) (fun h => ?_)
  · exact kt r M' (by unfold zit at hX; rwa [if_neg h] at hX) p e s m args below meth c H locs ls C hP hS hl
  · exact kf r M' (by unfold zit at hX; rwa [if_pos h] at hX) p e s m args below meth c H locs ls C hP hS hl
theorem ev_if_ne {x : Int32} {off : Int} {a z : zO} (tgt : Nat) (hd : decode Y.2.1 pc = .ok (.ifCond .ne off, 3)) (ht : (pc : Int) + off = (tgt : Int)) (kt : zEv l G Y d u tgt lv st M a) (kf : zEv l G Y d u (pc + 3) lv st M z) : zEv l G Y d u pc lv (.int x :: st) M (zit (x = 0) z a) := by
  intro r M' hX p e s m args below meth c H locs ls C hP hS hl
  refine lv_if_ne C.1 C.2.1 hd ht (fun h => ?_) (fun h => ?_)
  · exact kt r M' (by unfold zit at hX; rwa [if_neg h] at hX) p e s m args below meth c H locs ls C hP hS hl
  · exact kf r M' (by unfold zit at hX; rwa [if_pos h] at hX) p e s m args below meth c H locs ls C hP hS hl
theorem ev_icmp_lt {x y : Int32} {off : Int} {a z : zO} (tgt : Nat) (hd : decode Y.2.1 pc = .ok (.if_icmp .lt off, 3)) (ht : (pc : Int) + off = (tgt : Int)) (kt : zEv l G Y d u tgt lv st M a) (kf : zEv l G Y d u (pc + 3) lv st M z) : zEv l G Y d u pc lv (.int y :: .int x :: st) M (zit (x < y) a z) := by
  intro r M' hX p e s m args below meth c H locs ls C hP hS hl
  refine lv_icmp_lt C.1 C.2.1 hd ht (fun h => ?_) (fun h => ?_)
  · exact kt r M' (by unfold zit at hX; rwa [if_pos h] at hX) p e s m args below meth c H locs ls C hP hS hl
  · exact kf r M' (by unfold zit at hX; rwa [if_neg h] at hX) p e s m args below meth c H locs ls C hP hS hl
theorem ev_if_lt {x : Int32} {off : Int} {a z : zO} (tgt : Nat) (hd : decode Y.2.1 pc = .ok (.ifCond .lt off, 3)) (ht : (pc : Int) + off = (tgt : Int)) (kt : zEv l G Y d u tgt lv st M a) (kf : zEv l G Y d u (pc + 3) lv st M z) : zEv l G Y d u pc lv (.int x :: st) M (zit (x < 0) a z) := by
  intro r M' hX p e s m args below meth c H locs ls C hP hS hl
  refine lv_if_lt C.1 C.2.1 hd ht (fun h => ?_) (fun h => ?_)
  · exact kt r M' (by unfold zit at hX; rwa [if_pos h] at hX) p e s m args below meth c H locs ls C hP hS hl
  · exact kf r M' (by unfold zit at hX; rwa [if_neg h] at hX) p e s m args below meth c H locs ls C hP hS hl
theorem ev_icmp_ge {x y : Int32} {off : Int} {a z : zO} (tgt : Nat) (hd : decode Y.2.1 pc = .ok (.if_icmp .ge off, 3)) (ht : (pc : Int) + off = (tgt : Int)) (kt : zEv l G Y d u tgt lv st M a) (kf : zEv l G Y d u (pc + 3) lv st M z) : zEv l G Y d u pc lv (.int y :: .int x :: st) M (zit (y ≤ x) a z) := by
  intro r M' hX p e s m args below meth c H locs ls C hP hS hl
  refine lv_icmp_ge C.1 C.2.1 hd ht (fun h => ?_) (fun h => ?_)
  · exact kt r M' (by unfold zit at hX; rwa [if_pos h] at hX) p e s m args below meth c H locs ls C hP hS hl
  · exact kf r M' (by unfold zit at hX; rwa [if_neg h] at hX) p e s m args below meth c H locs ls C hP hS hl
theorem ev_if_ge {x : Int32} {off : Int} {a z : zO} (tgt : Nat) (hd : decode Y.2.1 pc = .ok (.ifCond .ge off, 3)) (ht : (pc : Int) + off = (tgt : Int)) (kt : zEv l G Y d u tgt lv st M a) (kf : zEv l G Y d u (pc + 3) lv st M z) : zEv l G Y d u pc lv (.int x :: st) M (zit (0 ≤ x) a z) := by
  intro r M' hX p e s m args below meth c H locs ls C hP hS hl
  refine lv_if_ge C.1 C.2.1 hd ht (fun h => ?_) (fun h => ?_)
  · exact kt r M' (by unfold zit at hX; rwa [if_pos h] at hX) p e s m args below meth c H locs ls C hP hS hl
  · exact kf r M' (by unfold zit at hX; rwa [if_neg h] at hX) p e s m args below meth c H locs ls C hP hS hl
theorem ev_icmp_gt {x y : Int32} {off : Int} {a z : zO} (tgt : Nat) (hd : decode Y.2.1 pc = .ok (.if_icmp .gt off, 3)) (ht : (pc : Int) + off = (tgt : Int)) (kt : zEv l G Y d u tgt lv st M a) (kf : zEv l G Y d u (pc + 3) lv st M z) : zEv l G Y d u pc lv (.int y :: .int x :: st) M (zit (y < x) a z) := by
  intro r M' hX p e s m args below meth c H locs ls C hP hS hl
  refine lv_icmp_gt C.1 C.2.1 hd ht (fun h => ?_) (fun h => ?_)
  · exact kt r M' (by unfold zit at hX; rwa [if_pos h] at hX) p e s m args below meth c H locs ls C hP hS hl
  · exact kf r M' (by unfold zit at hX; rwa [if_neg h] at hX) p e s m args below meth c H locs ls C hP hS hl
theorem ev_if_gt {x : Int32} {off : Int} {a z : zO} (tgt : Nat) (hd : decode Y.2.1 pc = .ok (.ifCond .gt off, 3)) (ht : (pc : Int) + off = (tgt : Int)) (kt : zEv l G Y d u tgt lv st M a) (kf : zEv l G Y d u (pc + 3) lv st M z) : zEv l G Y d u pc lv (.int x :: st) M (zit (0 < x) a z) := by
  intro r M' hX p e s m args below meth c H locs ls C hP hS hl
  refine lv_if_gt C.1 C.2.1 hd ht (fun h => ?_) (fun h => ?_)
  · exact kt r M' (by unfold zit at hX; rwa [if_pos h] at hX) p e s m args below meth c H locs ls C hP hS hl
  · exact kf r M' (by unfold zit at hX; rwa [if_neg h] at hX) p e s m args below meth c H locs ls C hP hS hl
theorem ev_icmp_le {x y : Int32} {off : Int} {a z : zO} (tgt : Nat) (hd : decode Y.2.1 pc = .ok (.if_icmp .le off, 3)) (ht : (pc : Int) + off = (tgt : Int)) (kt : zEv l G Y d u tgt lv st M a) (kf : zEv l G Y d u (pc + 3) lv st M z) : zEv l G Y d u pc lv (.int y :: .int x :: st) M (zit (x ≤ y) a z) := by
  intro r M' hX p e s m args below meth c H locs ls C hP hS hl
  refine lv_icmp_le C.1 C.2.1 hd ht (fun h => ?_) (fun h => ?_)
  · exact kt r M' (by unfold zit at hX; rwa [if_pos h] at hX) p e s m args below meth c H locs ls C hP hS hl
  · exact kf r M' (by unfold zit at hX; rwa [if_neg h] at hX) p e s m args below meth c H locs ls C hP hS hl
theorem ev_if_le {x : Int32} {off : Int} {a z : zO} (tgt : Nat) (hd : decode Y.2.1 pc = .ok (.ifCond .le off, 3)) (ht : (pc : Int) + off = (tgt : Int)) (kt : zEv l G Y d u tgt lv st M a) (kf : zEv l G Y d u (pc + 3) lv st M z) : zEv l G Y d u pc lv (.int x :: st) M (zit (x ≤ 0) a z) := by
  intro r M' hX p e s m args below meth c H locs ls C hP hS hl
  refine lv_if_le C.1 C.2.1 hd ht (fun h => ?_) (fun h => ?_)
  · exact kt r M' (by unfold zit at hX; rwa [if_pos h] at hX) p e s m args below meth c H locs ls C hP hS hl
  · exact kf r M' (by unfold zit at hX; rwa [if_neg h] at hX) p e s m args below meth c H locs ls C hP hS hl
end ZR
